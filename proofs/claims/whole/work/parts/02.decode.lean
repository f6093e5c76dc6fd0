theorem dX0_init_0 : decode cX0_init 0 = .ok (.aload_n 0, 1) := by decide +kernel
theorem dX0_init_1 : decode cX0_init 1 = .ok (.invokespecial 3, 3) := by decide +kernel
theorem dX0_init_4 : decode cX0_init 4 = .ok (.aload_n 0, 1) := by decide +kernel
theorem dX0_init_5 : decode cX0_init 5 = .ok (.bipush 6, 2) := by decide +kernel
theorem dX0_init_7 : decode cX0_init 7 = .ok (.newarray .int, 2) := by decide +kernel
theorem dX0_init_9 : decode cX0_init 9 = .ok (.putfield 9, 3) := by decide +kernel
theorem dX0_init_12 : decode cX0_init 12 = .ok (.aload_n 0, 1) := by decide +kernel
theorem dX0_init_13 : decode cX0_init 13 = .ok (.iconst 4, 1) := by decide +kernel
theorem dX0_init_14 : decode cX0_init 14 = .ok (.newarray .int, 2) := by decide +kernel
theorem dX0_init_16 : decode cX0_init 16 = .ok (.putfield 15, 3) := by decide +kernel
theorem dX0_init_19 : decode cX0_init 19 = .ok (.aload_n 0, 1) := by decide +kernel
theorem dX0_init_20 : decode cX0_init 20 = .ok (.iconst 4, 1) := by decide +kernel
theorem dX0_init_21 : decode cX0_init 21 = .ok (.newarray .int, 2) := by decide +kernel
theorem dX0_init_23 : decode cX0_init 23 = .ok (.putfield 18, 3) := by decide +kernel
theorem dX0_init_26 : decode cX0_init 26 = .ok (.aload_n 0, 1) := by decide +kernel
theorem dX0_init_27 : decode cX0_init 27 = .ok (.iconst 4, 1) := by decide +kernel
theorem dX0_init_28 : decode cX0_init 28 = .ok (.newarray .int, 2) := by decide +kernel
theorem dX0_init_30 : decode cX0_init 30 = .ok (.putfield 21, 3) := by decide +kernel
theorem dX0_init_33 : decode cX0_init 33 = .ok (.return_, 1) := by decide +kernel
theorem dX0_copyFrom_0 : decode cX0_copyFrom 0 = .ok (.aload_n 1, 1) := by decide +kernel
theorem dX0_copyFrom_1 : decode cX0_copyFrom 1 = .ok (.getfield 9, 3) := by decide +kernel
theorem dX0_copyFrom_4 : decode cX0_copyFrom 4 = .ok (.aload_n 0, 1) := by decide +kernel
theorem dX0_copyFrom_5 : decode cX0_copyFrom 5 = .ok (.getfield 9, 3) := by decide +kernel
theorem dX0_copyFrom_8 : decode cX0_copyFrom 8 = .ok (.invokestatic 24, 3) := by decide +kernel
theorem dX0_copyFrom_11 : decode cX0_copyFrom 11 = .ok (.aload_n 0, 1) := by decide +kernel
theorem dX0_copyFrom_12 : decode cX0_copyFrom 12 = .ok (.aload_n 1, 1) := by decide +kernel
theorem dX0_copyFrom_13 : decode cX0_copyFrom 13 = .ok (.getfield 28, 3) := by decide +kernel
theorem dX0_copyFrom_16 : decode cX0_copyFrom 16 = .ok (.putfield 28, 3) := by decide +kernel
theorem dX0_copyFrom_19 : decode cX0_copyFrom 19 = .ok (.aload_n 1, 1) := by decide +kernel
theorem dX0_copyFrom_20 : decode cX0_copyFrom 20 = .ok (.getfield 15, 3) := by decide +kernel
theorem dX0_copyFrom_23 : decode cX0_copyFrom 23 = .ok (.aload_n 0, 1) := by decide +kernel
theorem dX0_copyFrom_24 : decode cX0_copyFrom 24 = .ok (.getfield 15, 3) := by decide +kernel
theorem dX0_copyFrom_27 : decode cX0_copyFrom 27 = .ok (.invokestatic 24, 3) := by decide +kernel
theorem dX0_copyFrom_30 : decode cX0_copyFrom 30 = .ok (.aload_n 1, 1) := by decide +kernel
theorem dX0_copyFrom_31 : decode cX0_copyFrom 31 = .ok (.getfield 18, 3) := by decide +kernel
theorem dX0_copyFrom_34 : decode cX0_copyFrom 34 = .ok (.aload_n 0, 1) := by decide +kernel
theorem dX0_copyFrom_35 : decode cX0_copyFrom 35 = .ok (.getfield 18, 3) := by decide +kernel
theorem dX0_copyFrom_38 : decode cX0_copyFrom 38 = .ok (.invokestatic 24, 3) := by decide +kernel
theorem dX0_copyFrom_41 : decode cX0_copyFrom 41 = .ok (.aload_n 1, 1) := by decide +kernel
theorem dX0_copyFrom_42 : decode cX0_copyFrom 42 = .ok (.getfield 21, 3) := by decide +kernel
theorem dX0_copyFrom_45 : decode cX0_copyFrom 45 = .ok (.aload_n 0, 1) := by decide +kernel
theorem dX0_copyFrom_46 : decode cX0_copyFrom 46 = .ok (.getfield 21, 3) := by decide +kernel
theorem dX0_copyFrom_49 : decode cX0_copyFrom 49 = .ok (.invokestatic 24, 3) := by decide +kernel
theorem dX0_copyFrom_52 : decode cX0_copyFrom 52 = .ok (.return_, 1) := by decide +kernel
theorem dX0_isUnderTest_0 : decode cX0_isUnderTest 0 = .ok (.aload_n 0, 1) := by decide +kernel
theorem dX0_isUnderTest_1 : decode cX0_isUnderTest 1 = .ok (.getfield 28, 3) := by decide +kernel
theorem dX0_isUnderTest_4 : decode cX0_isUnderTest 4 = .ok (.ifCond .le 7, 3) := by decide +kernel
theorem dX0_isUnderTest_7 : decode cX0_isUnderTest 7 = .ok (.iconst 1, 1) := by decide +kernel
theorem dX0_isUnderTest_8 : decode cX0_isUnderTest 8 = .ok (.goto 4, 3) := by decide +kernel
theorem dX0_isUnderTest_11 : decode cX0_isUnderTest 11 = .ok (.iconst 0, 1) := by decide +kernel
theorem dX0_isUnderTest_12 : decode cX0_isUnderTest 12 = .ok (.ireturn, 1) := by decide +kernel
theorem dX0_pipeline_0 : decode cX0_pipeline 0 = .ok (.aload_n 0, 1) := by decide +kernel
theorem dX0_pipeline_1 : decode cX0_pipeline 1 = .ok (.getfield 9, 3) := by decide +kernel
theorem dX0_pipeline_4 : decode cX0_pipeline 4 = .ok (.iconst 0, 1) := by decide +kernel
theorem dX0_pipeline_5 : decode cX0_pipeline 5 = .ok (.iaload, 1) := by decide +kernel
theorem dX0_pipeline_6 : decode cX0_pipeline 6 = .ok (.ireturn, 1) := by decide +kernel
theorem dX0_start_0 : decode cX0_start 0 = .ok (.aload_n 0, 1) := by decide +kernel
theorem dX0_start_1 : decode cX0_start 1 = .ok (.iload_n 1, 1) := by decide +kernel
theorem dX0_start_2 : decode cX0_start 2 = .ok (.putfield 28, 3) := by decide +kernel
theorem dX0_start_5 : decode cX0_start 5 = .ok (.iconst 0, 1) := by decide +kernel
theorem dX0_start_6 : decode cX0_start 6 = .ok (.istore_n 2, 1) := by decide +kernel
theorem dX0_start_7 : decode cX0_start 7 = .ok (.iload_n 2, 1) := by decide +kernel
theorem dX0_start_8 : decode cX0_start 8 = .ok (.iconst 4, 1) := by decide +kernel
theorem dX0_start_9 : decode cX0_start 9 = .ok (.if_icmp .ge 38, 3) := by decide +kernel
theorem dX0_start_12 : decode cX0_start 12 = .ok (.aload_n 0, 1) := by decide +kernel
theorem dX0_start_13 : decode cX0_start 13 = .ok (.getfield 15, 3) := by decide +kernel
theorem dX0_start_16 : decode cX0_start 16 = .ok (.iload_n 2, 1) := by decide +kernel
theorem dX0_start_17 : decode cX0_start 17 = .ok (.aload_n 0, 1) := by decide +kernel
theorem dX0_start_18 : decode cX0_start 18 = .ok (.invokevirtual 32, 3) := by decide +kernel
theorem dX0_start_21 : decode cX0_start 21 = .ok (.iload_n 2, 1) := by decide +kernel
theorem dX0_start_22 : decode cX0_start 22 = .ok (.invokestatic 36, 3) := by decide +kernel
theorem dX0_start_25 : decode cX0_start 25 = .ok (.ifCond .eq 7, 3) := by decide +kernel
theorem dX0_start_28 : decode cX0_start 28 = .ok (.iconst 1, 1) := by decide +kernel
theorem dX0_start_29 : decode cX0_start 29 = .ok (.goto 4, 3) := by decide +kernel
theorem dX0_start_32 : decode cX0_start 32 = .ok (.iconst 0, 1) := by decide +kernel
theorem dX0_start_33 : decode cX0_start 33 = .ok (.iastore, 1) := by decide +kernel
theorem dX0_start_34 : decode cX0_start 34 = .ok (.aload_n 0, 1) := by decide +kernel
theorem dX0_start_35 : decode cX0_start 35 = .ok (.getfield 18, 3) := by decide +kernel
theorem dX0_start_38 : decode cX0_start 38 = .ok (.iload_n 2, 1) := by decide +kernel
theorem dX0_start_39 : decode cX0_start 39 = .ok (.iconst 0, 1) := by decide +kernel
theorem dX0_start_40 : decode cX0_start 40 = .ok (.iastore, 1) := by decide +kernel
theorem dX0_start_41 : decode cX0_start 41 = .ok (.iinc 2 1, 3) := by decide +kernel
theorem dX0_start_44 : decode cX0_start 44 = .ok (.goto (-37), 3) := by decide +kernel
theorem dX0_start_47 : decode cX0_start 47 = .ok (.return_, 1) := by decide +kernel
theorem dX0_end_0 : decode cX0_end 0 = .ok (.aload_n 0, 1) := by decide +kernel
theorem dX0_end_1 : decode cX0_end 1 = .ok (.iconst 0, 1) := by decide +kernel
theorem dX0_end_2 : decode cX0_end 2 = .ok (.putfield 28, 3) := by decide +kernel
theorem dX0_end_5 : decode cX0_end 5 = .ok (.iconst 0, 1) := by decide +kernel
theorem dX0_end_6 : decode cX0_end 6 = .ok (.istore_n 1, 1) := by decide +kernel
theorem dX0_end_7 : decode cX0_end 7 = .ok (.iload_n 1, 1) := by decide +kernel
theorem dX0_end_8 : decode cX0_end 8 = .ok (.iconst 4, 1) := by decide +kernel
theorem dX0_end_9 : decode cX0_end 9 = .ok (.if_icmp .ge 16, 3) := by decide +kernel
theorem dX0_end_12 : decode cX0_end 12 = .ok (.aload_n 0, 1) := by decide +kernel
theorem dX0_end_13 : decode cX0_end 13 = .ok (.getfield 15, 3) := by decide +kernel
theorem dX0_end_16 : decode cX0_end 16 = .ok (.iload_n 1, 1) := by decide +kernel
theorem dX0_end_17 : decode cX0_end 17 = .ok (.iconst 0, 1) := by decide +kernel
theorem dX0_end_18 : decode cX0_end 18 = .ok (.iastore, 1) := by decide +kernel
theorem dX0_end_19 : decode cX0_end 19 = .ok (.iinc 1 1, 3) := by decide +kernel
theorem dX0_end_22 : decode cX0_end 22 = .ok (.goto (-15), 3) := by decide +kernel
theorem dX0_end_25 : decode cX0_end 25 = .ok (.return_, 1) := by decide +kernel
theorem dX0_leasedJob_0 : decode cX0_leasedJob 0 = .ok (.iconst 0, 1) := by decide +kernel
theorem dX0_leasedJob_1 : decode cX0_leasedJob 1 = .ok (.istore_n 2, 1) := by decide +kernel
theorem dX0_leasedJob_2 : decode cX0_leasedJob 2 = .ok (.iload_n 2, 1) := by decide +kernel
theorem dX0_leasedJob_3 : decode cX0_leasedJob 3 = .ok (.iconst 4, 1) := by decide +kernel
theorem dX0_leasedJob_4 : decode cX0_leasedJob 4 = .ok (.if_icmp .ge 31, 3) := by decide +kernel
theorem dX0_leasedJob_7 : decode cX0_leasedJob 7 = .ok (.iload_n 1, 1) := by decide +kernel
theorem dX0_leasedJob_8 : decode cX0_leasedJob 8 = .ok (.invokestatic 42, 3) := by decide +kernel
theorem dX0_leasedJob_11 : decode cX0_leasedJob 11 = .ok (.ifCond .eq 18, 3) := by decide +kernel
theorem dX0_leasedJob_14 : decode cX0_leasedJob 14 = .ok (.aload_n 0, 1) := by decide +kernel
theorem dX0_leasedJob_15 : decode cX0_leasedJob 15 = .ok (.getfield 15, 3) := by decide +kernel
theorem dX0_leasedJob_18 : decode cX0_leasedJob 18 = .ok (.iload_n 2, 1) := by decide +kernel
theorem dX0_leasedJob_19 : decode cX0_leasedJob 19 = .ok (.iaload, 1) := by decide +kernel
theorem dX0_leasedJob_20 : decode cX0_leasedJob 20 = .ok (.bipush 10, 2) := by decide +kernel
theorem dX0_leasedJob_22 : decode cX0_leasedJob 22 = .ok (.iload_n 1, 1) := by decide +kernel
theorem dX0_leasedJob_23 : decode cX0_leasedJob 23 = .ok (.iadd, 1) := by decide +kernel
theorem dX0_leasedJob_24 : decode cX0_leasedJob 24 = .ok (.if_icmp .ne 5, 3) := by decide +kernel
theorem dX0_leasedJob_27 : decode cX0_leasedJob 27 = .ok (.iload_n 2, 1) := by decide +kernel
theorem dX0_leasedJob_28 : decode cX0_leasedJob 28 = .ok (.ireturn, 1) := by decide +kernel
theorem dX0_leasedJob_29 : decode cX0_leasedJob 29 = .ok (.iinc 2 1, 3) := by decide +kernel
theorem dX0_leasedJob_32 : decode cX0_leasedJob 32 = .ok (.goto (-30), 3) := by decide +kernel
theorem dX0_leasedJob_35 : decode cX0_leasedJob 35 = .ok (.iconst (-1), 1) := by decide +kernel
theorem dX0_leasedJob_36 : decode cX0_leasedJob 36 = .ok (.ireturn, 1) := by decide +kernel
theorem dX0_nextJob_0 : decode cX0_nextJob 0 = .ok (.iconst 0, 1) := by decide +kernel
theorem dX0_nextJob_1 : decode cX0_nextJob 1 = .ok (.istore_n 1, 1) := by decide +kernel
theorem dX0_nextJob_2 : decode cX0_nextJob 2 = .ok (.iload_n 1, 1) := by decide +kernel
theorem dX0_nextJob_3 : decode cX0_nextJob 3 = .ok (.iconst 4, 1) := by decide +kernel
theorem dX0_nextJob_4 : decode cX0_nextJob 4 = .ok (.if_icmp .ge 39, 3) := by decide +kernel
theorem dX0_nextJob_7 : decode cX0_nextJob 7 = .ok (.aload_n 0, 1) := by decide +kernel
theorem dX0_nextJob_8 : decode cX0_nextJob 8 = .ok (.getfield 15, 3) := by decide +kernel
theorem dX0_nextJob_11 : decode cX0_nextJob 11 = .ok (.iload_n 1, 1) := by decide +kernel
theorem dX0_nextJob_12 : decode cX0_nextJob 12 = .ok (.iaload, 1) := by decide +kernel
theorem dX0_nextJob_13 : decode cX0_nextJob 13 = .ok (.iconst 1, 1) := by decide +kernel
theorem dX0_nextJob_14 : decode cX0_nextJob 14 = .ok (.if_icmp .ne 23, 3) := by decide +kernel
theorem dX0_nextJob_17 : decode cX0_nextJob 17 = .ok (.aload_n 0, 1) := by decide +kernel
theorem dX0_nextJob_18 : decode cX0_nextJob 18 = .ok (.invokevirtual 32, 3) := by decide +kernel
theorem dX0_nextJob_21 : decode cX0_nextJob 21 = .ok (.iload_n 1, 1) := by decide +kernel
theorem dX0_nextJob_22 : decode cX0_nextJob 22 = .ok (.invokestatic 46, 3) := by decide +kernel
theorem dX0_nextJob_25 : decode cX0_nextJob 25 = .ok (.aload_n 0, 1) := by decide +kernel
theorem dX0_nextJob_26 : decode cX0_nextJob 26 = .ok (.invokevirtual 50, 3) := by decide +kernel
theorem dX0_nextJob_29 : decode cX0_nextJob 29 = .ok (.iconst (-1), 1) := by decide +kernel
theorem dX0_nextJob_30 : decode cX0_nextJob 30 = .ok (.ixor, 1) := by decide +kernel
theorem dX0_nextJob_31 : decode cX0_nextJob 31 = .ok (.iand, 1) := by decide +kernel
theorem dX0_nextJob_32 : decode cX0_nextJob 32 = .ok (.ifCond .ne 5, 3) := by decide +kernel
theorem dX0_nextJob_35 : decode cX0_nextJob 35 = .ok (.iload_n 1, 1) := by decide +kernel
theorem dX0_nextJob_36 : decode cX0_nextJob 36 = .ok (.ireturn, 1) := by decide +kernel
theorem dX0_nextJob_37 : decode cX0_nextJob 37 = .ok (.iinc 1 1, 3) := by decide +kernel
theorem dX0_nextJob_40 : decode cX0_nextJob 40 = .ok (.goto (-38), 3) := by decide +kernel
theorem dX0_nextJob_43 : decode cX0_nextJob 43 = .ok (.iconst (-1), 1) := by decide +kernel
theorem dX0_nextJob_44 : decode cX0_nextJob 44 = .ok (.ireturn, 1) := by decide +kernel
theorem dX0_lease_0 : decode cX0_lease 0 = .ok (.aload_n 0, 1) := by decide +kernel
theorem dX0_lease_1 : decode cX0_lease 1 = .ok (.getfield 15, 3) := by decide +kernel
theorem dX0_lease_4 : decode cX0_lease 4 = .ok (.iload_n 1, 1) := by decide +kernel
theorem dX0_lease_5 : decode cX0_lease 5 = .ok (.bipush 10, 2) := by decide +kernel
theorem dX0_lease_7 : decode cX0_lease 7 = .ok (.iload_n 2, 1) := by decide +kernel
theorem dX0_lease_8 : decode cX0_lease 8 = .ok (.iadd, 1) := by decide +kernel
theorem dX0_lease_9 : decode cX0_lease 9 = .ok (.iastore, 1) := by decide +kernel
theorem dX0_lease_10 : decode cX0_lease 10 = .ok (.aload_n 0, 1) := by decide +kernel
theorem dX0_lease_11 : decode cX0_lease 11 = .ok (.getfield 18, 3) := by decide +kernel
theorem dX0_lease_14 : decode cX0_lease 14 = .ok (.iload_n 1, 1) := by decide +kernel
theorem dX0_lease_15 : decode cX0_lease 15 = .ok (.dup2, 1) := by decide +kernel
theorem dX0_lease_16 : decode cX0_lease 16 = .ok (.iaload, 1) := by decide +kernel
theorem dX0_lease_17 : decode cX0_lease 17 = .ok (.iconst 1, 1) := by decide +kernel
theorem dX0_lease_18 : decode cX0_lease 18 = .ok (.iadd, 1) := by decide +kernel
theorem dX0_lease_19 : decode cX0_lease 19 = .ok (.iastore, 1) := by decide +kernel
theorem dX0_lease_20 : decode cX0_lease 20 = .ok (.aload_n 0, 1) := by decide +kernel
theorem dX0_lease_21 : decode cX0_lease 21 = .ok (.getfield 21, 3) := by decide +kernel
theorem dX0_lease_24 : decode cX0_lease 24 = .ok (.iload_n 2, 1) := by decide +kernel
theorem dX0_lease_25 : decode cX0_lease 25 = .ok (.iload_n 3, 1) := by decide +kernel
theorem dX0_lease_26 : decode cX0_lease 26 = .ok (.iastore, 1) := by decide +kernel
theorem dX0_lease_27 : decode cX0_lease 27 = .ok (.return_, 1) := by decide +kernel
theorem dX0_expireLease_0 : decode cX0_expireLease 0 = .ok (.aload_n 0, 1) := by decide +kernel
theorem dX0_expireLease_1 : decode cX0_expireLease 1 = .ok (.getfield 18, 3) := by decide +kernel
theorem dX0_expireLease_4 : decode cX0_expireLease 4 = .ok (.iload_n 1, 1) := by decide +kernel
theorem dX0_expireLease_5 : decode cX0_expireLease 5 = .ok (.iaload, 1) := by decide +kernel
theorem dX0_expireLease_6 : decode cX0_expireLease 6 = .ok (.iload_n 2, 1) := by decide +kernel
theorem dX0_expireLease_7 : decode cX0_expireLease 7 = .ok (.if_icmp .lt 11, 3) := by decide +kernel
theorem dX0_expireLease_10 : decode cX0_expireLease 10 = .ok (.aload_n 0, 1) := by decide +kernel
theorem dX0_expireLease_11 : decode cX0_expireLease 11 = .ok (.iload_n 1, 1) := by decide +kernel
theorem dX0_expireLease_12 : decode cX0_expireLease 12 = .ok (.invokevirtual 53, 3) := by decide +kernel
theorem dX0_expireLease_15 : decode cX0_expireLease 15 = .ok (.goto 10, 3) := by decide +kernel
theorem dX0_expireLease_18 : decode cX0_expireLease 18 = .ok (.aload_n 0, 1) := by decide +kernel
theorem dX0_expireLease_19 : decode cX0_expireLease 19 = .ok (.getfield 15, 3) := by decide +kernel
theorem dX0_expireLease_22 : decode cX0_expireLease 22 = .ok (.iload_n 1, 1) := by decide +kernel
theorem dX0_expireLease_23 : decode cX0_expireLease 23 = .ok (.iconst 1, 1) := by decide +kernel
theorem dX0_expireLease_24 : decode cX0_expireLease 24 = .ok (.iastore, 1) := by decide +kernel
theorem dX0_expireLease_25 : decode cX0_expireLease 25 = .ok (.return_, 1) := by decide +kernel
theorem dX0_failJob_0 : decode cX0_failJob 0 = .ok (.aload_n 0, 1) := by decide +kernel
theorem dX0_failJob_1 : decode cX0_failJob 1 = .ok (.invokevirtual 32, 3) := by decide +kernel
theorem dX0_failJob_4 : decode cX0_failJob 4 = .ok (.iload_n 1, 1) := by decide +kernel
theorem dX0_failJob_5 : decode cX0_failJob 5 = .ok (.invokestatic 57, 3) := by decide +kernel
theorem dX0_failJob_8 : decode cX0_failJob 8 = .ok (.iconst 1, 1) := by decide +kernel
theorem dX0_failJob_9 : decode cX0_failJob 9 = .ok (.iload_n 1, 1) := by decide +kernel
theorem dX0_failJob_10 : decode cX0_failJob 10 = .ok (.ishl, 1) := by decide +kernel
theorem dX0_failJob_11 : decode cX0_failJob 11 = .ok (.ior, 1) := by decide +kernel
theorem dX0_failJob_12 : decode cX0_failJob 12 = .ok (.istore_n 2, 1) := by decide +kernel
theorem dX0_failJob_13 : decode cX0_failJob 13 = .ok (.iconst 0, 1) := by decide +kernel
theorem dX0_failJob_14 : decode cX0_failJob 14 = .ok (.istore_n 3, 1) := by decide +kernel
theorem dX0_failJob_15 : decode cX0_failJob 15 = .ok (.iload_n 3, 1) := by decide +kernel
theorem dX0_failJob_16 : decode cX0_failJob 16 = .ok (.iconst 4, 1) := by decide +kernel
theorem dX0_failJob_17 : decode cX0_failJob 17 = .ok (.if_icmp .ge 24, 3) := by decide +kernel
theorem dX0_failJob_20 : decode cX0_failJob 20 = .ok (.iload_n 2, 1) := by decide +kernel
theorem dX0_failJob_21 : decode cX0_failJob 21 = .ok (.iload_n 3, 1) := by decide +kernel
theorem dX0_failJob_22 : decode cX0_failJob 22 = .ok (.ishr, 1) := by decide +kernel
theorem dX0_failJob_23 : decode cX0_failJob 23 = .ok (.iconst 1, 1) := by decide +kernel
theorem dX0_failJob_24 : decode cX0_failJob 24 = .ok (.iand, 1) := by decide +kernel
theorem dX0_failJob_25 : decode cX0_failJob 25 = .ok (.ifCond .eq 10, 3) := by decide +kernel
theorem dX0_failJob_28 : decode cX0_failJob 28 = .ok (.aload_n 0, 1) := by decide +kernel
theorem dX0_failJob_29 : decode cX0_failJob 29 = .ok (.getfield 15, 3) := by decide +kernel
theorem dX0_failJob_32 : decode cX0_failJob 32 = .ok (.iload_n 3, 1) := by decide +kernel
theorem dX0_failJob_33 : decode cX0_failJob 33 = .ok (.iconst 3, 1) := by decide +kernel
theorem dX0_failJob_34 : decode cX0_failJob 34 = .ok (.iastore, 1) := by decide +kernel
theorem dX0_failJob_35 : decode cX0_failJob 35 = .ok (.iinc 3 1, 3) := by decide +kernel
theorem dX0_failJob_38 : decode cX0_failJob 38 = .ok (.goto (-23), 3) := by decide +kernel
theorem dX0_failJob_41 : decode cX0_failJob 41 = .ok (.return_, 1) := by decide +kernel
theorem dX0_firstFailedRequired_0 : decode cX0_firstFailedRequired 0 = .ok (.iconst 0, 1) := by decide +kernel
theorem dX0_firstFailedRequired_1 : decode cX0_firstFailedRequired 1 = .ok (.istore_n 1, 1) := by decide +kernel
theorem dX0_firstFailedRequired_2 : decode cX0_firstFailedRequired 2 = .ok (.iload_n 1, 1) := by decide +kernel
theorem dX0_firstFailedRequired_3 : decode cX0_firstFailedRequired 3 = .ok (.iconst 4, 1) := by decide +kernel
theorem dX0_firstFailedRequired_4 : decode cX0_firstFailedRequired 4 = .ok (.if_icmp .ge 32, 3) := by decide +kernel
theorem dX0_firstFailedRequired_7 : decode cX0_firstFailedRequired 7 = .ok (.aload_n 0, 1) := by decide +kernel
theorem dX0_firstFailedRequired_8 : decode cX0_firstFailedRequired 8 = .ok (.getfield 15, 3) := by decide +kernel
theorem dX0_firstFailedRequired_11 : decode cX0_firstFailedRequired 11 = .ok (.iload_n 1, 1) := by decide +kernel
theorem dX0_firstFailedRequired_12 : decode cX0_firstFailedRequired 12 = .ok (.iaload, 1) := by decide +kernel
theorem dX0_firstFailedRequired_13 : decode cX0_firstFailedRequired 13 = .ok (.iconst 3, 1) := by decide +kernel
theorem dX0_firstFailedRequired_14 : decode cX0_firstFailedRequired 14 = .ok (.if_icmp .ne 16, 3) := by decide +kernel
theorem dX0_firstFailedRequired_17 : decode cX0_firstFailedRequired 17 = .ok (.aload_n 0, 1) := by decide +kernel
theorem dX0_firstFailedRequired_18 : decode cX0_firstFailedRequired 18 = .ok (.invokevirtual 32, 3) := by decide +kernel
theorem dX0_firstFailedRequired_21 : decode cX0_firstFailedRequired 21 = .ok (.iload_n 1, 1) := by decide +kernel
theorem dX0_firstFailedRequired_22 : decode cX0_firstFailedRequired 22 = .ok (.invokestatic 60, 3) := by decide +kernel
theorem dX0_firstFailedRequired_25 : decode cX0_firstFailedRequired 25 = .ok (.ifCond .eq 5, 3) := by decide +kernel
theorem dX0_firstFailedRequired_28 : decode cX0_firstFailedRequired 28 = .ok (.iload_n 1, 1) := by decide +kernel
theorem dX0_firstFailedRequired_29 : decode cX0_firstFailedRequired 29 = .ok (.ireturn, 1) := by decide +kernel
theorem dX0_firstFailedRequired_30 : decode cX0_firstFailedRequired 30 = .ok (.iinc 1 1, 3) := by decide +kernel
theorem dX0_firstFailedRequired_33 : decode cX0_firstFailedRequired 33 = .ok (.goto (-31), 3) := by decide +kernel
theorem dX0_firstFailedRequired_36 : decode cX0_firstFailedRequired 36 = .ok (.iconst (-1), 1) := by decide +kernel
theorem dX0_firstFailedRequired_37 : decode cX0_firstFailedRequired 37 = .ok (.ireturn, 1) := by decide +kernel
theorem dX0_hasPassedRequired_0 : decode cX0_hasPassedRequired 0 = .ok (.iconst 0, 1) := by decide +kernel
theorem dX0_hasPassedRequired_1 : decode cX0_hasPassedRequired 1 = .ok (.istore_n 1, 1) := by decide +kernel
theorem dX0_hasPassedRequired_2 : decode cX0_hasPassedRequired 2 = .ok (.iload_n 1, 1) := by decide +kernel
theorem dX0_hasPassedRequired_3 : decode cX0_hasPassedRequired 3 = .ok (.iconst 4, 1) := by decide +kernel
theorem dX0_hasPassedRequired_4 : decode cX0_hasPassedRequired 4 = .ok (.if_icmp .ge 32, 3) := by decide +kernel
theorem dX0_hasPassedRequired_7 : decode cX0_hasPassedRequired 7 = .ok (.aload_n 0, 1) := by decide +kernel
theorem dX0_hasPassedRequired_8 : decode cX0_hasPassedRequired 8 = .ok (.getfield 15, 3) := by decide +kernel
theorem dX0_hasPassedRequired_11 : decode cX0_hasPassedRequired 11 = .ok (.iload_n 1, 1) := by decide +kernel
theorem dX0_hasPassedRequired_12 : decode cX0_hasPassedRequired 12 = .ok (.iaload, 1) := by decide +kernel
theorem dX0_hasPassedRequired_13 : decode cX0_hasPassedRequired 13 = .ok (.iconst 2, 1) := by decide +kernel
theorem dX0_hasPassedRequired_14 : decode cX0_hasPassedRequired 14 = .ok (.if_icmp .eq 16, 3) := by decide +kernel
theorem dX0_hasPassedRequired_17 : decode cX0_hasPassedRequired 17 = .ok (.aload_n 0, 1) := by decide +kernel
theorem dX0_hasPassedRequired_18 : decode cX0_hasPassedRequired 18 = .ok (.invokevirtual 32, 3) := by decide +kernel
theorem dX0_hasPassedRequired_21 : decode cX0_hasPassedRequired 21 = .ok (.iload_n 1, 1) := by decide +kernel
theorem dX0_hasPassedRequired_22 : decode cX0_hasPassedRequired 22 = .ok (.invokestatic 60, 3) := by decide +kernel
theorem dX0_hasPassedRequired_25 : decode cX0_hasPassedRequired 25 = .ok (.ifCond .eq 5, 3) := by decide +kernel
theorem dX0_hasPassedRequired_28 : decode cX0_hasPassedRequired 28 = .ok (.iconst 0, 1) := by decide +kernel
theorem dX0_hasPassedRequired_29 : decode cX0_hasPassedRequired 29 = .ok (.ireturn, 1) := by decide +kernel
theorem dX0_hasPassedRequired_30 : decode cX0_hasPassedRequired 30 = .ok (.iinc 1 1, 3) := by decide +kernel
theorem dX0_hasPassedRequired_33 : decode cX0_hasPassedRequired 33 = .ok (.goto (-31), 3) := by decide +kernel
theorem dX0_hasPassedRequired_36 : decode cX0_hasPassedRequired 36 = .ok (.iconst 1, 1) := by decide +kernel
theorem dX0_hasPassedRequired_37 : decode cX0_hasPassedRequired 37 = .ok (.ireturn, 1) := by decide +kernel
theorem dX0_passedJobs_0 : decode cX0_passedJobs 0 = .ok (.iconst 0, 1) := by decide +kernel
theorem dX0_passedJobs_1 : decode cX0_passedJobs 1 = .ok (.istore_n 1, 1) := by decide +kernel
theorem dX0_passedJobs_2 : decode cX0_passedJobs 2 = .ok (.iconst 0, 1) := by decide +kernel
theorem dX0_passedJobs_3 : decode cX0_passedJobs 3 = .ok (.istore_n 2, 1) := by decide +kernel
theorem dX0_passedJobs_4 : decode cX0_passedJobs 4 = .ok (.iload_n 2, 1) := by decide +kernel
theorem dX0_passedJobs_5 : decode cX0_passedJobs 5 = .ok (.iconst 4, 1) := by decide +kernel
theorem dX0_passedJobs_6 : decode cX0_passedJobs 6 = .ok (.if_icmp .ge 25, 3) := by decide +kernel
theorem dX0_passedJobs_9 : decode cX0_passedJobs 9 = .ok (.aload_n 0, 1) := by decide +kernel
theorem dX0_passedJobs_10 : decode cX0_passedJobs 10 = .ok (.getfield 15, 3) := by decide +kernel
theorem dX0_passedJobs_13 : decode cX0_passedJobs 13 = .ok (.iload_n 2, 1) := by decide +kernel
theorem dX0_passedJobs_14 : decode cX0_passedJobs 14 = .ok (.iaload, 1) := by decide +kernel
theorem dX0_passedJobs_15 : decode cX0_passedJobs 15 = .ok (.iconst 2, 1) := by decide +kernel
theorem dX0_passedJobs_16 : decode cX0_passedJobs 16 = .ok (.if_icmp .ne 9, 3) := by decide +kernel
theorem dX0_passedJobs_19 : decode cX0_passedJobs 19 = .ok (.iload_n 1, 1) := by decide +kernel
theorem dX0_passedJobs_20 : decode cX0_passedJobs 20 = .ok (.iconst 1, 1) := by decide +kernel
theorem dX0_passedJobs_21 : decode cX0_passedJobs 21 = .ok (.iload_n 2, 1) := by decide +kernel
theorem dX0_passedJobs_22 : decode cX0_passedJobs 22 = .ok (.ishl, 1) := by decide +kernel
theorem dX0_passedJobs_23 : decode cX0_passedJobs 23 = .ok (.ior, 1) := by decide +kernel
theorem dX0_passedJobs_24 : decode cX0_passedJobs 24 = .ok (.istore_n 1, 1) := by decide +kernel
theorem dX0_passedJobs_25 : decode cX0_passedJobs 25 = .ok (.iinc 2 1, 3) := by decide +kernel
theorem dX0_passedJobs_28 : decode cX0_passedJobs 28 = .ok (.goto (-24), 3) := by decide +kernel
theorem dX0_passedJobs_31 : decode cX0_passedJobs 31 = .ok (.iload_n 1, 1) := by decide +kernel
theorem dX0_passedJobs_32 : decode cX0_passedJobs 32 = .ok (.ireturn, 1) := by decide +kernel
theorem dX1_init_0 : decode cX1_init 0 = .ok (.aload_n 0, 1) := by decide +kernel
theorem dX1_init_1 : decode cX1_init 1 = .ok (.invokespecial 3, 3) := by decide +kernel
theorem dX1_init_4 : decode cX1_init 4 = .ok (.aload_n 0, 1) := by decide +kernel
theorem dX1_init_5 : decode cX1_init 5 = .ok (.bipush 6, 2) := by decide +kernel
theorem dX1_init_7 : decode cX1_init 7 = .ok (.newarray .int, 2) := by decide +kernel
theorem dX1_init_9 : decode cX1_init 9 = .ok (.putfield 9, 3) := by decide +kernel
theorem dX1_init_12 : decode cX1_init 12 = .ok (.aload_n 0, 1) := by decide +kernel
theorem dX1_init_13 : decode cX1_init 13 = .ok (.bipush 6, 2) := by decide +kernel
theorem dX1_init_15 : decode cX1_init 15 = .ok (.newarray .int, 2) := by decide +kernel
theorem dX1_init_17 : decode cX1_init 17 = .ok (.putfield 15, 3) := by decide +kernel
theorem dX1_init_20 : decode cX1_init 20 = .ok (.return_, 1) := by decide +kernel
theorem dX1_copyFrom_0 : decode cX1_copyFrom 0 = .ok (.aload_n 1, 1) := by decide +kernel
theorem dX1_copyFrom_1 : decode cX1_copyFrom 1 = .ok (.getfield 9, 3) := by decide +kernel
theorem dX1_copyFrom_4 : decode cX1_copyFrom 4 = .ok (.aload_n 0, 1) := by decide +kernel
theorem dX1_copyFrom_5 : decode cX1_copyFrom 5 = .ok (.getfield 9, 3) := by decide +kernel
theorem dX1_copyFrom_8 : decode cX1_copyFrom 8 = .ok (.invokestatic 18, 3) := by decide +kernel
theorem dX1_copyFrom_11 : decode cX1_copyFrom 11 = .ok (.aload_n 1, 1) := by decide +kernel
theorem dX1_copyFrom_12 : decode cX1_copyFrom 12 = .ok (.getfield 15, 3) := by decide +kernel
theorem dX1_copyFrom_15 : decode cX1_copyFrom 15 = .ok (.aload_n 0, 1) := by decide +kernel
theorem dX1_copyFrom_16 : decode cX1_copyFrom 16 = .ok (.getfield 15, 3) := by decide +kernel
theorem dX1_copyFrom_19 : decode cX1_copyFrom 19 = .ok (.invokestatic 18, 3) := by decide +kernel
theorem dX1_copyFrom_22 : decode cX1_copyFrom 22 = .ok (.aload_n 0, 1) := by decide +kernel
theorem dX1_copyFrom_23 : decode cX1_copyFrom 23 = .ok (.aload_n 1, 1) := by decide +kernel
theorem dX1_copyFrom_24 : decode cX1_copyFrom 24 = .ok (.getfield 22, 3) := by decide +kernel
theorem dX1_copyFrom_27 : decode cX1_copyFrom 27 = .ok (.putfield 22, 3) := by decide +kernel
theorem dX1_copyFrom_30 : decode cX1_copyFrom 30 = .ok (.aload_n 0, 1) := by decide +kernel
theorem dX1_copyFrom_31 : decode cX1_copyFrom 31 = .ok (.aload_n 1, 1) := by decide +kernel
theorem dX1_copyFrom_32 : decode cX1_copyFrom 32 = .ok (.getfield 26, 3) := by decide +kernel
theorem dX1_copyFrom_35 : decode cX1_copyFrom 35 = .ok (.putfield 26, 3) := by decide +kernel
theorem dX1_copyFrom_38 : decode cX1_copyFrom 38 = .ok (.aload_n 0, 1) := by decide +kernel
theorem dX1_copyFrom_39 : decode cX1_copyFrom 39 = .ok (.aload_n 1, 1) := by decide +kernel
theorem dX1_copyFrom_40 : decode cX1_copyFrom 40 = .ok (.getfield 29, 3) := by decide +kernel
theorem dX1_copyFrom_43 : decode cX1_copyFrom 43 = .ok (.putfield 29, 3) := by decide +kernel
theorem dX1_copyFrom_46 : decode cX1_copyFrom 46 = .ok (.aload_n 0, 1) := by decide +kernel
theorem dX1_copyFrom_47 : decode cX1_copyFrom 47 = .ok (.aload_n 1, 1) := by decide +kernel
theorem dX1_copyFrom_48 : decode cX1_copyFrom 48 = .ok (.getfield 32, 3) := by decide +kernel
theorem dX1_copyFrom_51 : decode cX1_copyFrom 51 = .ok (.putfield 32, 3) := by decide +kernel
theorem dX1_copyFrom_54 : decode cX1_copyFrom 54 = .ok (.return_, 1) := by decide +kernel
theorem dX1_startFrom_0 : decode cX1_startFrom 0 = .ok (.aload_n 1, 1) := by decide +kernel
theorem dX1_startFrom_1 : decode cX1_startFrom 1 = .ok (.aload_n 0, 1) := by decide +kernel
theorem dX1_startFrom_2 : decode cX1_startFrom 2 = .ok (.getfield 9, 3) := by decide +kernel
theorem dX1_startFrom_5 : decode cX1_startFrom 5 = .ok (.invokestatic 18, 3) := by decide +kernel
theorem dX1_startFrom_8 : decode cX1_startFrom 8 = .ok (.aload_n 1, 1) := by decide +kernel
theorem dX1_startFrom_9 : decode cX1_startFrom 9 = .ok (.aload_n 0, 1) := by decide +kernel
theorem dX1_startFrom_10 : decode cX1_startFrom 10 = .ok (.getfield 15, 3) := by decide +kernel
theorem dX1_startFrom_13 : decode cX1_startFrom 13 = .ok (.invokestatic 18, 3) := by decide +kernel
theorem dX1_startFrom_16 : decode cX1_startFrom 16 = .ok (.aload_n 0, 1) := by decide +kernel
theorem dX1_startFrom_17 : decode cX1_startFrom 17 = .ok (.iconst 0, 1) := by decide +kernel
theorem dX1_startFrom_18 : decode cX1_startFrom 18 = .ok (.iconst 0, 1) := by decide +kernel
theorem dX1_startFrom_19 : decode cX1_startFrom 19 = .ok (.invokevirtual 35, 3) := by decide +kernel
theorem dX1_startFrom_22 : decode cX1_startFrom 22 = .ok (.aload_n 0, 1) := by decide +kernel
theorem dX1_startFrom_23 : decode cX1_startFrom 23 = .ok (.invokevirtual 39, 3) := by decide +kernel
theorem dX1_startFrom_26 : decode cX1_startFrom 26 = .ok (.return_, 1) := by decide +kernel
theorem dX1_become_0 : decode cX1_become 0 = .ok (.aload_n 0, 1) := by decide +kernel
theorem dX1_become_1 : decode cX1_become 1 = .ok (.iload_n 1, 1) := by decide +kernel
theorem dX1_become_2 : decode cX1_become 2 = .ok (.putfield 22, 3) := by decide +kernel
theorem dX1_become_5 : decode cX1_become 5 = .ok (.aload_n 0, 1) := by decide +kernel
theorem dX1_become_6 : decode cX1_become 6 = .ok (.iload_n 2, 1) := by decide +kernel
theorem dX1_become_7 : decode cX1_become 7 = .ok (.putfield 26, 3) := by decide +kernel
theorem dX1_become_10 : decode cX1_become 10 = .ok (.return_, 1) := by decide +kernel
theorem dX1_setContent_0 : decode cX1_setContent 0 = .ok (.aload_n 0, 1) := by decide +kernel
theorem dX1_setContent_1 : decode cX1_setContent 1 = .ok (.getfield 15, 3) := by decide +kernel
theorem dX1_setContent_4 : decode cX1_setContent 4 = .ok (.iload_n 1, 1) := by decide +kernel
theorem dX1_setContent_5 : decode cX1_setContent 5 = .ok (.iload_n 2, 1) := by decide +kernel
theorem dX1_setContent_6 : decode cX1_setContent 6 = .ok (.iastore, 1) := by decide +kernel
theorem dX1_setContent_7 : decode cX1_setContent 7 = .ok (.aload_n 0, 1) := by decide +kernel
theorem dX1_setContent_8 : decode cX1_setContent 8 = .ok (.invokevirtual 39, 3) := by decide +kernel
theorem dX1_setContent_11 : decode cX1_setContent 11 = .ok (.return_, 1) := by decide +kernel
theorem dX1_dropReviews_0 : decode cX1_dropReviews 0 = .ok (.aload_n 0, 1) := by decide +kernel
theorem dX1_dropReviews_1 : decode cX1_dropReviews 1 = .ok (.iconst 0, 1) := by decide +kernel
theorem dX1_dropReviews_2 : decode cX1_dropReviews 2 = .ok (.putfield 29, 3) := by decide +kernel
theorem dX1_dropReviews_5 : decode cX1_dropReviews 5 = .ok (.aload_n 0, 1) := by decide +kernel
theorem dX1_dropReviews_6 : decode cX1_dropReviews 6 = .ok (.iconst 0, 1) := by decide +kernel
theorem dX1_dropReviews_7 : decode cX1_dropReviews 7 = .ok (.putfield 32, 3) := by decide +kernel
theorem dX1_dropReviews_10 : decode cX1_dropReviews 10 = .ok (.return_, 1) := by decide +kernel
theorem dX1_addSupporter_0 : decode cX1_addSupporter 0 = .ok (.aload_n 0, 1) := by decide +kernel
theorem dX1_addSupporter_1 : decode cX1_addSupporter 1 = .ok (.dup, 1) := by decide +kernel
theorem dX1_addSupporter_2 : decode cX1_addSupporter 2 = .ok (.getfield 29, 3) := by decide +kernel
theorem dX1_addSupporter_5 : decode cX1_addSupporter 5 = .ok (.iconst 1, 1) := by decide +kernel
theorem dX1_addSupporter_6 : decode cX1_addSupporter 6 = .ok (.iload_n 1, 1) := by decide +kernel
theorem dX1_addSupporter_7 : decode cX1_addSupporter 7 = .ok (.ishl, 1) := by decide +kernel
theorem dX1_addSupporter_8 : decode cX1_addSupporter 8 = .ok (.ior, 1) := by decide +kernel
theorem dX1_addSupporter_9 : decode cX1_addSupporter 9 = .ok (.putfield 29, 3) := by decide +kernel
theorem dX1_addSupporter_12 : decode cX1_addSupporter 12 = .ok (.aload_n 0, 1) := by decide +kernel
theorem dX1_addSupporter_13 : decode cX1_addSupporter 13 = .ok (.dup, 1) := by decide +kernel
theorem dX1_addSupporter_14 : decode cX1_addSupporter 14 = .ok (.getfield 32, 3) := by decide +kernel
theorem dX1_addSupporter_17 : decode cX1_addSupporter 17 = .ok (.iconst 1, 1) := by decide +kernel
theorem dX1_addSupporter_18 : decode cX1_addSupporter 18 = .ok (.iload_n 1, 1) := by decide +kernel
theorem dX1_addSupporter_19 : decode cX1_addSupporter 19 = .ok (.ishl, 1) := by decide +kernel
theorem dX1_addSupporter_20 : decode cX1_addSupporter 20 = .ok (.iconst (-1), 1) := by decide +kernel
theorem dX1_addSupporter_21 : decode cX1_addSupporter 21 = .ok (.ixor, 1) := by decide +kernel
theorem dX1_addSupporter_22 : decode cX1_addSupporter 22 = .ok (.iand, 1) := by decide +kernel
theorem dX1_addSupporter_23 : decode cX1_addSupporter 23 = .ok (.putfield 32, 3) := by decide +kernel
theorem dX1_addSupporter_26 : decode cX1_addSupporter 26 = .ok (.return_, 1) := by decide +kernel
theorem dX1_addOpponent_0 : decode cX1_addOpponent 0 = .ok (.aload_n 0, 1) := by decide +kernel
theorem dX1_addOpponent_1 : decode cX1_addOpponent 1 = .ok (.dup, 1) := by decide +kernel
theorem dX1_addOpponent_2 : decode cX1_addOpponent 2 = .ok (.getfield 32, 3) := by decide +kernel
theorem dX1_addOpponent_5 : decode cX1_addOpponent 5 = .ok (.iconst 1, 1) := by decide +kernel
theorem dX1_addOpponent_6 : decode cX1_addOpponent 6 = .ok (.iload_n 1, 1) := by decide +kernel
theorem dX1_addOpponent_7 : decode cX1_addOpponent 7 = .ok (.ishl, 1) := by decide +kernel
theorem dX1_addOpponent_8 : decode cX1_addOpponent 8 = .ok (.ior, 1) := by decide +kernel
theorem dX1_addOpponent_9 : decode cX1_addOpponent 9 = .ok (.putfield 32, 3) := by decide +kernel
theorem dX1_addOpponent_12 : decode cX1_addOpponent 12 = .ok (.aload_n 0, 1) := by decide +kernel
theorem dX1_addOpponent_13 : decode cX1_addOpponent 13 = .ok (.dup, 1) := by decide +kernel
theorem dX1_addOpponent_14 : decode cX1_addOpponent 14 = .ok (.getfield 29, 3) := by decide +kernel
theorem dX1_addOpponent_17 : decode cX1_addOpponent 17 = .ok (.iconst 1, 1) := by decide +kernel
theorem dX1_addOpponent_18 : decode cX1_addOpponent 18 = .ok (.iload_n 1, 1) := by decide +kernel
theorem dX1_addOpponent_19 : decode cX1_addOpponent 19 = .ok (.ishl, 1) := by decide +kernel
theorem dX1_addOpponent_20 : decode cX1_addOpponent 20 = .ok (.iconst (-1), 1) := by decide +kernel
theorem dX1_addOpponent_21 : decode cX1_addOpponent 21 = .ok (.ixor, 1) := by decide +kernel
theorem dX1_addOpponent_22 : decode cX1_addOpponent 22 = .ok (.iand, 1) := by decide +kernel
theorem dX1_addOpponent_23 : decode cX1_addOpponent 23 = .ok (.putfield 29, 3) := by decide +kernel
theorem dX1_addOpponent_26 : decode cX1_addOpponent 26 = .ok (.return_, 1) := by decide +kernel
theorem dX1_countFor_0 : decode cX1_countFor 0 = .ok (.aload_n 0, 1) := by decide +kernel
theorem dX1_countFor_1 : decode cX1_countFor 1 = .ok (.getfield 29, 3) := by decide +kernel
theorem dX1_countFor_4 : decode cX1_countFor 4 = .ok (.invokestatic 42, 3) := by decide +kernel
theorem dX1_countFor_7 : decode cX1_countFor 7 = .ok (.ireturn, 1) := by decide +kernel
theorem dX1_countAgainst_0 : decode cX1_countAgainst 0 = .ok (.aload_n 0, 1) := by decide +kernel
theorem dX1_countAgainst_1 : decode cX1_countAgainst 1 = .ok (.getfield 32, 3) := by decide +kernel
theorem dX1_countAgainst_4 : decode cX1_countAgainst 4 = .ok (.invokestatic 42, 3) := by decide +kernel
theorem dX1_countAgainst_7 : decode cX1_countAgainst 7 = .ok (.ireturn, 1) := by decide +kernel
theorem dX1_conflictsWith_0 : decode cX1_conflictsWith 0 = .ok (.iconst 0, 1) := by decide +kernel
theorem dX1_conflictsWith_1 : decode cX1_conflictsWith 1 = .ok (.istore_n 2, 1) := by decide +kernel
theorem dX1_conflictsWith_2 : decode cX1_conflictsWith 2 = .ok (.iload_n 2, 1) := by decide +kernel
theorem dX1_conflictsWith_3 : decode cX1_conflictsWith 3 = .ok (.bipush 6, 2) := by decide +kernel
theorem dX1_conflictsWith_5 : decode cX1_conflictsWith 5 = .ok (.if_icmp .ge 60, 3) := by decide +kernel
theorem dX1_conflictsWith_8 : decode cX1_conflictsWith 8 = .ok (.aload_n 0, 1) := by decide +kernel
theorem dX1_conflictsWith_9 : decode cX1_conflictsWith 9 = .ok (.getfield 15, 3) := by decide +kernel
theorem dX1_conflictsWith_12 : decode cX1_conflictsWith 12 = .ok (.iload_n 2, 1) := by decide +kernel
theorem dX1_conflictsWith_13 : decode cX1_conflictsWith 13 = .ok (.iaload, 1) := by decide +kernel
theorem dX1_conflictsWith_14 : decode cX1_conflictsWith 14 = .ok (.aload_n 0, 1) := by decide +kernel
theorem dX1_conflictsWith_15 : decode cX1_conflictsWith 15 = .ok (.getfield 9, 3) := by decide +kernel
theorem dX1_conflictsWith_18 : decode cX1_conflictsWith 18 = .ok (.iload_n 2, 1) := by decide +kernel
theorem dX1_conflictsWith_19 : decode cX1_conflictsWith 19 = .ok (.iaload, 1) := by decide +kernel
theorem dX1_conflictsWith_20 : decode cX1_conflictsWith 20 = .ok (.if_icmp .eq 7, 3) := by decide +kernel
theorem dX1_conflictsWith_23 : decode cX1_conflictsWith 23 = .ok (.iconst 1, 1) := by decide +kernel
theorem dX1_conflictsWith_24 : decode cX1_conflictsWith 24 = .ok (.goto 4, 3) := by decide +kernel
theorem dX1_conflictsWith_27 : decode cX1_conflictsWith 27 = .ok (.iconst 0, 1) := by decide +kernel
theorem dX1_conflictsWith_28 : decode cX1_conflictsWith 28 = .ok (.istore_n 3, 1) := by decide +kernel
theorem dX1_conflictsWith_29 : decode cX1_conflictsWith 29 = .ok (.iload_n 3, 1) := by decide +kernel
theorem dX1_conflictsWith_30 : decode cX1_conflictsWith 30 = .ok (.ifCond .eq 29, 3) := by decide +kernel
theorem dX1_conflictsWith_33 : decode cX1_conflictsWith 33 = .ok (.aload_n 1, 1) := by decide +kernel
theorem dX1_conflictsWith_34 : decode cX1_conflictsWith 34 = .ok (.iload_n 2, 1) := by decide +kernel
theorem dX1_conflictsWith_35 : decode cX1_conflictsWith 35 = .ok (.iaload, 1) := by decide +kernel
theorem dX1_conflictsWith_36 : decode cX1_conflictsWith 36 = .ok (.aload_n 0, 1) := by decide +kernel
theorem dX1_conflictsWith_37 : decode cX1_conflictsWith 37 = .ok (.getfield 9, 3) := by decide +kernel
theorem dX1_conflictsWith_40 : decode cX1_conflictsWith 40 = .ok (.iload_n 2, 1) := by decide +kernel
theorem dX1_conflictsWith_41 : decode cX1_conflictsWith 41 = .ok (.iaload, 1) := by decide +kernel
theorem dX1_conflictsWith_42 : decode cX1_conflictsWith 42 = .ok (.if_icmp .eq 17, 3) := by decide +kernel
theorem dX1_conflictsWith_45 : decode cX1_conflictsWith 45 = .ok (.aload_n 1, 1) := by decide +kernel
theorem dX1_conflictsWith_46 : decode cX1_conflictsWith 46 = .ok (.iload_n 2, 1) := by decide +kernel
theorem dX1_conflictsWith_47 : decode cX1_conflictsWith 47 = .ok (.iaload, 1) := by decide +kernel
theorem dX1_conflictsWith_48 : decode cX1_conflictsWith 48 = .ok (.aload_n 0, 1) := by decide +kernel
theorem dX1_conflictsWith_49 : decode cX1_conflictsWith 49 = .ok (.getfield 15, 3) := by decide +kernel
theorem dX1_conflictsWith_52 : decode cX1_conflictsWith 52 = .ok (.iload_n 2, 1) := by decide +kernel
theorem dX1_conflictsWith_53 : decode cX1_conflictsWith 53 = .ok (.iaload, 1) := by decide +kernel
theorem dX1_conflictsWith_54 : decode cX1_conflictsWith 54 = .ok (.if_icmp .eq 5, 3) := by decide +kernel
theorem dX1_conflictsWith_57 : decode cX1_conflictsWith 57 = .ok (.iconst 1, 1) := by decide +kernel
theorem dX1_conflictsWith_58 : decode cX1_conflictsWith 58 = .ok (.ireturn, 1) := by decide +kernel
theorem dX1_conflictsWith_59 : decode cX1_conflictsWith 59 = .ok (.iinc 2 1, 3) := by decide +kernel
theorem dX1_conflictsWith_62 : decode cX1_conflictsWith 62 = .ok (.goto (-60), 3) := by decide +kernel
theorem dX1_conflictsWith_65 : decode cX1_conflictsWith 65 = .ok (.iconst 0, 1) := by decide +kernel
theorem dX1_conflictsWith_66 : decode cX1_conflictsWith 66 = .ok (.ireturn, 1) := by decide +kernel
theorem dX1_mergeInto_0 : decode cX1_mergeInto 0 = .ok (.iconst 0, 1) := by decide +kernel
theorem dX1_mergeInto_1 : decode cX1_mergeInto 1 = .ok (.istore_n 2, 1) := by decide +kernel
theorem dX1_mergeInto_2 : decode cX1_mergeInto 2 = .ok (.iload_n 2, 1) := by decide +kernel
theorem dX1_mergeInto_3 : decode cX1_mergeInto 3 = .ok (.bipush 6, 2) := by decide +kernel
theorem dX1_mergeInto_5 : decode cX1_mergeInto 5 = .ok (.if_icmp .ge 33, 3) := by decide +kernel
theorem dX1_mergeInto_8 : decode cX1_mergeInto 8 = .ok (.aload_n 0, 1) := by decide +kernel
theorem dX1_mergeInto_9 : decode cX1_mergeInto 9 = .ok (.getfield 15, 3) := by decide +kernel
theorem dX1_mergeInto_12 : decode cX1_mergeInto 12 = .ok (.iload_n 2, 1) := by decide +kernel
theorem dX1_mergeInto_13 : decode cX1_mergeInto 13 = .ok (.iaload, 1) := by decide +kernel
theorem dX1_mergeInto_14 : decode cX1_mergeInto 14 = .ok (.aload_n 0, 1) := by decide +kernel
theorem dX1_mergeInto_15 : decode cX1_mergeInto 15 = .ok (.getfield 9, 3) := by decide +kernel
theorem dX1_mergeInto_18 : decode cX1_mergeInto 18 = .ok (.iload_n 2, 1) := by decide +kernel
theorem dX1_mergeInto_19 : decode cX1_mergeInto 19 = .ok (.iaload, 1) := by decide +kernel
theorem dX1_mergeInto_20 : decode cX1_mergeInto 20 = .ok (.if_icmp .eq 12, 3) := by decide +kernel
theorem dX1_mergeInto_23 : decode cX1_mergeInto 23 = .ok (.aload_n 1, 1) := by decide +kernel
theorem dX1_mergeInto_24 : decode cX1_mergeInto 24 = .ok (.iload_n 2, 1) := by decide +kernel
theorem dX1_mergeInto_25 : decode cX1_mergeInto 25 = .ok (.aload_n 0, 1) := by decide +kernel
theorem dX1_mergeInto_26 : decode cX1_mergeInto 26 = .ok (.getfield 15, 3) := by decide +kernel
theorem dX1_mergeInto_29 : decode cX1_mergeInto 29 = .ok (.iload_n 2, 1) := by decide +kernel
theorem dX1_mergeInto_30 : decode cX1_mergeInto 30 = .ok (.iaload, 1) := by decide +kernel
theorem dX1_mergeInto_31 : decode cX1_mergeInto 31 = .ok (.iastore, 1) := by decide +kernel
theorem dX1_mergeInto_32 : decode cX1_mergeInto 32 = .ok (.iinc 2 1, 3) := by decide +kernel
theorem dX1_mergeInto_35 : decode cX1_mergeInto 35 = .ok (.goto (-33), 3) := by decide +kernel
theorem dX1_mergeInto_38 : decode cX1_mergeInto 38 = .ok (.return_, 1) := by decide +kernel
theorem dX1_moveOnto_0 : decode cX1_moveOnto 0 = .ok (.iconst 0, 1) := by decide +kernel
theorem dX1_moveOnto_1 : decode cX1_moveOnto 1 = .ok (.istore_n 2, 1) := by decide +kernel
theorem dX1_moveOnto_2 : decode cX1_moveOnto 2 = .ok (.iload_n 2, 1) := by decide +kernel
theorem dX1_moveOnto_3 : decode cX1_moveOnto 3 = .ok (.bipush 6, 2) := by decide +kernel
theorem dX1_moveOnto_5 : decode cX1_moveOnto 5 = .ok (.if_icmp .ge 33, 3) := by decide +kernel
theorem dX1_moveOnto_8 : decode cX1_moveOnto 8 = .ok (.aload_n 0, 1) := by decide +kernel
theorem dX1_moveOnto_9 : decode cX1_moveOnto 9 = .ok (.getfield 15, 3) := by decide +kernel
theorem dX1_moveOnto_12 : decode cX1_moveOnto 12 = .ok (.iload_n 2, 1) := by decide +kernel
theorem dX1_moveOnto_13 : decode cX1_moveOnto 13 = .ok (.iaload, 1) := by decide +kernel
theorem dX1_moveOnto_14 : decode cX1_moveOnto 14 = .ok (.aload_n 0, 1) := by decide +kernel
theorem dX1_moveOnto_15 : decode cX1_moveOnto 15 = .ok (.getfield 9, 3) := by decide +kernel
theorem dX1_moveOnto_18 : decode cX1_moveOnto 18 = .ok (.iload_n 2, 1) := by decide +kernel
theorem dX1_moveOnto_19 : decode cX1_moveOnto 19 = .ok (.iaload, 1) := by decide +kernel
theorem dX1_moveOnto_20 : decode cX1_moveOnto 20 = .ok (.if_icmp .ne 12, 3) := by decide +kernel
theorem dX1_moveOnto_23 : decode cX1_moveOnto 23 = .ok (.aload_n 0, 1) := by decide +kernel
theorem dX1_moveOnto_24 : decode cX1_moveOnto 24 = .ok (.getfield 15, 3) := by decide +kernel
theorem dX1_moveOnto_27 : decode cX1_moveOnto 27 = .ok (.iload_n 2, 1) := by decide +kernel
theorem dX1_moveOnto_28 : decode cX1_moveOnto 28 = .ok (.aload_n 1, 1) := by decide +kernel
theorem dX1_moveOnto_29 : decode cX1_moveOnto 29 = .ok (.iload_n 2, 1) := by decide +kernel
theorem dX1_moveOnto_30 : decode cX1_moveOnto 30 = .ok (.iaload, 1) := by decide +kernel
theorem dX1_moveOnto_31 : decode cX1_moveOnto 31 = .ok (.iastore, 1) := by decide +kernel
theorem dX1_moveOnto_32 : decode cX1_moveOnto 32 = .ok (.iinc 2 1, 3) := by decide +kernel
theorem dX1_moveOnto_35 : decode cX1_moveOnto 35 = .ok (.goto (-33), 3) := by decide +kernel
theorem dX1_moveOnto_38 : decode cX1_moveOnto 38 = .ok (.aload_n 1, 1) := by decide +kernel
theorem dX1_moveOnto_39 : decode cX1_moveOnto 39 = .ok (.aload_n 0, 1) := by decide +kernel
theorem dX1_moveOnto_40 : decode cX1_moveOnto 40 = .ok (.getfield 9, 3) := by decide +kernel
theorem dX1_moveOnto_43 : decode cX1_moveOnto 43 = .ok (.invokestatic 18, 3) := by decide +kernel
theorem dX1_moveOnto_46 : decode cX1_moveOnto 46 = .ok (.aload_n 0, 1) := by decide +kernel
theorem dX1_moveOnto_47 : decode cX1_moveOnto 47 = .ok (.iconst 0, 1) := by decide +kernel
theorem dX1_moveOnto_48 : decode cX1_moveOnto 48 = .ok (.iconst 0, 1) := by decide +kernel
theorem dX1_moveOnto_49 : decode cX1_moveOnto 49 = .ok (.invokevirtual 35, 3) := by decide +kernel
theorem dX1_moveOnto_52 : decode cX1_moveOnto 52 = .ok (.aload_n 0, 1) := by decide +kernel
theorem dX1_moveOnto_53 : decode cX1_moveOnto 53 = .ok (.invokevirtual 39, 3) := by decide +kernel
theorem dX1_moveOnto_56 : decode cX1_moveOnto 56 = .ok (.return_, 1) := by decide +kernel
theorem dX2_init_0 : decode cX2_init 0 = .ok (.aload_n 0, 1) := by decide +kernel
theorem dX2_init_1 : decode cX2_init 1 = .ok (.invokespecial 1, 3) := by decide +kernel
theorem dX2_init_4 : decode cX2_init 4 = .ok (.return_, 1) := by decide +kernel
theorem dX3_isThere_0 : decode cX3_isThere 0 = .ok (.iload_n 0, 1) := by decide +kernel
theorem dX3_isThere_1 : decode cX3_isThere 1 = .ok (.iload_n 1, 1) := by decide +kernel
theorem dX3_isThere_2 : decode cX3_isThere 2 = .ok (.ishr, 1) := by decide +kernel
theorem dX3_isThere_3 : decode cX3_isThere 3 = .ok (.iconst 1, 1) := by decide +kernel
theorem dX3_isThere_4 : decode cX3_isThere 4 = .ok (.iand, 1) := by decide +kernel
theorem dX3_isThere_5 : decode cX3_isThere 5 = .ok (.ifCond .eq 7, 3) := by decide +kernel
theorem dX3_isThere_8 : decode cX3_isThere 8 = .ok (.iconst 1, 1) := by decide +kernel
theorem dX3_isThere_9 : decode cX3_isThere 9 = .ok (.goto 4, 3) := by decide +kernel
theorem dX3_isThere_12 : decode cX3_isThere 12 = .ok (.iconst 0, 1) := by decide +kernel
theorem dX3_isThere_13 : decode cX3_isThere 13 = .ok (.ireturn, 1) := by decide +kernel
theorem dX3_isRequired_0 : decode cX3_isRequired 0 = .ok (.iload_n 0, 1) := by decide +kernel
theorem dX3_isRequired_1 : decode cX3_isRequired 1 = .ok (.iload_n 1, 1) := by decide +kernel
theorem dX3_isRequired_2 : decode cX3_isRequired 2 = .ok (.invokestatic 9, 3) := by decide +kernel
theorem dX3_isRequired_5 : decode cX3_isRequired 5 = .ok (.ifCond .eq 17, 3) := by decide +kernel
theorem dX3_isRequired_8 : decode cX3_isRequired 8 = .ok (.iload_n 0, 1) := by decide +kernel
theorem dX3_isRequired_9 : decode cX3_isRequired 9 = .ok (.iconst 4, 1) := by decide +kernel
theorem dX3_isRequired_10 : decode cX3_isRequired 10 = .ok (.iload_n 1, 1) := by decide +kernel
theorem dX3_isRequired_11 : decode cX3_isRequired 11 = .ok (.iadd, 1) := by decide +kernel
theorem dX3_isRequired_12 : decode cX3_isRequired 12 = .ok (.ishr, 1) := by decide +kernel
theorem dX3_isRequired_13 : decode cX3_isRequired 13 = .ok (.iconst 1, 1) := by decide +kernel
theorem dX3_isRequired_14 : decode cX3_isRequired 14 = .ok (.iand, 1) := by decide +kernel
theorem dX3_isRequired_15 : decode cX3_isRequired 15 = .ok (.ifCond .eq 7, 3) := by decide +kernel
theorem dX3_isRequired_18 : decode cX3_isRequired 18 = .ok (.iconst 1, 1) := by decide +kernel
theorem dX3_isRequired_19 : decode cX3_isRequired 19 = .ok (.goto 4, 3) := by decide +kernel
theorem dX3_isRequired_22 : decode cX3_isRequired 22 = .ok (.iconst 0, 1) := by decide +kernel
theorem dX3_isRequired_23 : decode cX3_isRequired 23 = .ok (.ireturn, 1) := by decide +kernel
theorem dX3_needsOf_0 : decode cX3_needsOf 0 = .ok (.iload_n 0, 1) := by decide +kernel
theorem dX3_needsOf_1 : decode cX3_needsOf 1 = .ok (.bipush 8, 2) := by decide +kernel
theorem dX3_needsOf_3 : decode cX3_needsOf 3 = .ok (.iconst 4, 1) := by decide +kernel
theorem dX3_needsOf_4 : decode cX3_needsOf 4 = .ok (.iload_n 1, 1) := by decide +kernel
theorem dX3_needsOf_5 : decode cX3_needsOf 5 = .ok (.imul, 1) := by decide +kernel
theorem dX3_needsOf_6 : decode cX3_needsOf 6 = .ok (.iadd, 1) := by decide +kernel
theorem dX3_needsOf_7 : decode cX3_needsOf 7 = .ok (.ishr, 1) := by decide +kernel
theorem dX3_needsOf_8 : decode cX3_needsOf 8 = .ok (.bipush 15, 2) := by decide +kernel
theorem dX3_needsOf_10 : decode cX3_needsOf 10 = .ok (.iand, 1) := by decide +kernel
theorem dX3_needsOf_11 : decode cX3_needsOf 11 = .ok (.ireturn, 1) := by decide +kernel
theorem dX3_allThatNeed_0 : decode cX3_allThatNeed 0 = .ok (.iconst 0, 1) := by decide +kernel
theorem dX3_allThatNeed_1 : decode cX3_allThatNeed 1 = .ok (.istore_n 2, 1) := by decide +kernel
theorem dX3_allThatNeed_2 : decode cX3_allThatNeed 2 = .ok (.iconst 0, 1) := by decide +kernel
theorem dX3_allThatNeed_3 : decode cX3_allThatNeed 3 = .ok (.istore_n 3, 1) := by decide +kernel
theorem dX3_allThatNeed_4 : decode cX3_allThatNeed 4 = .ok (.iload_n 3, 1) := by decide +kernel
theorem dX3_allThatNeed_5 : decode cX3_allThatNeed 5 = .ok (.iconst 4, 1) := by decide +kernel
theorem dX3_allThatNeed_6 : decode cX3_allThatNeed 6 = .ok (.if_icmp .ge 55, 3) := by decide +kernel
theorem dX3_allThatNeed_9 : decode cX3_allThatNeed 9 = .ok (.iconst 0, 1) := by decide +kernel
theorem dX3_allThatNeed_10 : decode cX3_allThatNeed 10 = .ok (.istore 4, 2) := by decide +kernel
theorem dX3_allThatNeed_12 : decode cX3_allThatNeed 12 = .ok (.iload 4, 2) := by decide +kernel
theorem dX3_allThatNeed_14 : decode cX3_allThatNeed 14 = .ok (.iconst 4, 1) := by decide +kernel
theorem dX3_allThatNeed_15 : decode cX3_allThatNeed 15 = .ok (.if_icmp .ge 40, 3) := by decide +kernel
theorem dX3_allThatNeed_18 : decode cX3_allThatNeed 18 = .ok (.iload_n 0, 1) := by decide +kernel
theorem dX3_allThatNeed_19 : decode cX3_allThatNeed 19 = .ok (.iload 4, 2) := by decide +kernel
theorem dX3_allThatNeed_21 : decode cX3_allThatNeed 21 = .ok (.invokestatic 9, 3) := by decide +kernel
theorem dX3_allThatNeed_24 : decode cX3_allThatNeed 24 = .ok (.ifCond .eq 25, 3) := by decide +kernel
theorem dX3_allThatNeed_27 : decode cX3_allThatNeed 27 = .ok (.iload_n 0, 1) := by decide +kernel
theorem dX3_allThatNeed_28 : decode cX3_allThatNeed 28 = .ok (.iload 4, 2) := by decide +kernel
theorem dX3_allThatNeed_30 : decode cX3_allThatNeed 30 = .ok (.invokestatic 15, 3) := by decide +kernel
theorem dX3_allThatNeed_33 : decode cX3_allThatNeed 33 = .ok (.iload_n 2, 1) := by decide +kernel
theorem dX3_allThatNeed_34 : decode cX3_allThatNeed 34 = .ok (.iconst 1, 1) := by decide +kernel
theorem dX3_allThatNeed_35 : decode cX3_allThatNeed 35 = .ok (.iload_n 1, 1) := by decide +kernel
theorem dX3_allThatNeed_36 : decode cX3_allThatNeed 36 = .ok (.ishl, 1) := by decide +kernel
theorem dX3_allThatNeed_37 : decode cX3_allThatNeed 37 = .ok (.ior, 1) := by decide +kernel
theorem dX3_allThatNeed_38 : decode cX3_allThatNeed 38 = .ok (.iand, 1) := by decide +kernel
theorem dX3_allThatNeed_39 : decode cX3_allThatNeed 39 = .ok (.ifCond .eq 10, 3) := by decide +kernel
theorem dX3_allThatNeed_42 : decode cX3_allThatNeed 42 = .ok (.iload_n 2, 1) := by decide +kernel
theorem dX3_allThatNeed_43 : decode cX3_allThatNeed 43 = .ok (.iconst 1, 1) := by decide +kernel
theorem dX3_allThatNeed_44 : decode cX3_allThatNeed 44 = .ok (.iload 4, 2) := by decide +kernel
theorem dX3_allThatNeed_46 : decode cX3_allThatNeed 46 = .ok (.ishl, 1) := by decide +kernel
theorem dX3_allThatNeed_47 : decode cX3_allThatNeed 47 = .ok (.ior, 1) := by decide +kernel
theorem dX3_allThatNeed_48 : decode cX3_allThatNeed 48 = .ok (.istore_n 2, 1) := by decide +kernel
theorem dX3_allThatNeed_49 : decode cX3_allThatNeed 49 = .ok (.iinc 4 1, 3) := by decide +kernel
theorem dX3_allThatNeed_52 : decode cX3_allThatNeed 52 = .ok (.goto (-40), 3) := by decide +kernel
theorem dX3_allThatNeed_55 : decode cX3_allThatNeed 55 = .ok (.iinc 3 1, 3) := by decide +kernel
theorem dX3_allThatNeed_58 : decode cX3_allThatNeed 58 = .ok (.goto (-54), 3) := by decide +kernel
theorem dX3_allThatNeed_61 : decode cX3_allThatNeed 61 = .ok (.iload_n 2, 1) := by decide +kernel
theorem dX3_allThatNeed_62 : decode cX3_allThatNeed 62 = .ok (.ireturn, 1) := by decide +kernel
theorem dX3_isValid_0 : decode cX3_isValid 0 = .ok (.iconst 0, 1) := by decide +kernel
theorem dX3_isValid_1 : decode cX3_isValid 1 = .ok (.istore_n 1, 1) := by decide +kernel
theorem dX3_isValid_2 : decode cX3_isValid 2 = .ok (.iload_n 0, 1) := by decide +kernel
theorem dX3_isValid_3 : decode cX3_isValid 3 = .ok (.bipush 15, 2) := by decide +kernel
theorem dX3_isValid_5 : decode cX3_isValid 5 = .ok (.iand, 1) := by decide +kernel
theorem dX3_isValid_6 : decode cX3_isValid 6 = .ok (.istore_n 2, 1) := by decide +kernel
theorem dX3_isValid_7 : decode cX3_isValid 7 = .ok (.iconst 0, 1) := by decide +kernel
theorem dX3_isValid_8 : decode cX3_isValid 8 = .ok (.istore_n 3, 1) := by decide +kernel
theorem dX3_isValid_9 : decode cX3_isValid 9 = .ok (.iload_n 3, 1) := by decide +kernel
theorem dX3_isValid_10 : decode cX3_isValid 10 = .ok (.iconst 4, 1) := by decide +kernel
theorem dX3_isValid_11 : decode cX3_isValid 11 = .ok (.if_icmp .ge 85, 3) := by decide +kernel
theorem dX3_isValid_14 : decode cX3_isValid 14 = .ok (.iload_n 1, 1) := by decide +kernel
theorem dX3_isValid_15 : decode cX3_isValid 15 = .ok (.ifCond .ne 11, 3) := by decide +kernel
theorem dX3_isValid_18 : decode cX3_isValid 18 = .ok (.iload_n 0, 1) := by decide +kernel
theorem dX3_isValid_19 : decode cX3_isValid 19 = .ok (.iload_n 3, 1) := by decide +kernel
theorem dX3_isValid_20 : decode cX3_isValid 20 = .ok (.invokestatic 19, 3) := by decide +kernel
theorem dX3_isValid_23 : decode cX3_isValid 23 = .ok (.ifCond .eq 7, 3) := by decide +kernel
theorem dX3_isValid_26 : decode cX3_isValid 26 = .ok (.iconst 1, 1) := by decide +kernel
theorem dX3_isValid_27 : decode cX3_isValid 27 = .ok (.goto 4, 3) := by decide +kernel
theorem dX3_isValid_30 : decode cX3_isValid 30 = .ok (.iconst 0, 1) := by decide +kernel
theorem dX3_isValid_31 : decode cX3_isValid 31 = .ok (.istore_n 1, 1) := by decide +kernel
theorem dX3_isValid_32 : decode cX3_isValid 32 = .ok (.iload_n 0, 1) := by decide +kernel
theorem dX3_isValid_33 : decode cX3_isValid 33 = .ok (.iload_n 3, 1) := by decide +kernel
theorem dX3_isValid_34 : decode cX3_isValid 34 = .ok (.invokestatic 15, 3) := by decide +kernel
theorem dX3_isValid_37 : decode cX3_isValid 37 = .ok (.iload_n 2, 1) := by decide +kernel
theorem dX3_isValid_38 : decode cX3_isValid 38 = .ok (.iconst (-1), 1) := by decide +kernel
theorem dX3_isValid_39 : decode cX3_isValid 39 = .ok (.ixor, 1) := by decide +kernel
theorem dX3_isValid_40 : decode cX3_isValid 40 = .ok (.iand, 1) := by decide +kernel
theorem dX3_isValid_41 : decode cX3_isValid 41 = .ok (.ifCond .eq 7, 3) := by decide +kernel
theorem dX3_isValid_44 : decode cX3_isValid 44 = .ok (.iconst 1, 1) := by decide +kernel
theorem dX3_isValid_45 : decode cX3_isValid 45 = .ok (.goto 4, 3) := by decide +kernel
theorem dX3_isValid_48 : decode cX3_isValid 48 = .ok (.iconst 0, 1) := by decide +kernel
theorem dX3_isValid_49 : decode cX3_isValid 49 = .ok (.istore 4, 2) := by decide +kernel
theorem dX3_isValid_51 : decode cX3_isValid 51 = .ok (.iload_n 0, 1) := by decide +kernel
theorem dX3_isValid_52 : decode cX3_isValid 52 = .ok (.iload_n 3, 1) := by decide +kernel
theorem dX3_isValid_53 : decode cX3_isValid 53 = .ok (.invokestatic 22, 3) := by decide +kernel
theorem dX3_isValid_56 : decode cX3_isValid 56 = .ok (.iload_n 3, 1) := by decide +kernel
theorem dX3_isValid_57 : decode cX3_isValid 57 = .ok (.ishr, 1) := by decide +kernel
theorem dX3_isValid_58 : decode cX3_isValid 58 = .ok (.iconst 1, 1) := by decide +kernel
theorem dX3_isValid_59 : decode cX3_isValid 59 = .ok (.iand, 1) := by decide +kernel
theorem dX3_isValid_60 : decode cX3_isValid 60 = .ok (.ifCond .eq 7, 3) := by decide +kernel
theorem dX3_isValid_63 : decode cX3_isValid 63 = .ok (.iconst 1, 1) := by decide +kernel
theorem dX3_isValid_64 : decode cX3_isValid 64 = .ok (.goto 4, 3) := by decide +kernel
theorem dX3_isValid_67 : decode cX3_isValid 67 = .ok (.iconst 0, 1) := by decide +kernel
theorem dX3_isValid_68 : decode cX3_isValid 68 = .ok (.istore 5, 2) := by decide +kernel
theorem dX3_isValid_70 : decode cX3_isValid 70 = .ok (.iload_n 0, 1) := by decide +kernel
theorem dX3_isValid_71 : decode cX3_isValid 71 = .ok (.iload_n 3, 1) := by decide +kernel
theorem dX3_isValid_72 : decode cX3_isValid 72 = .ok (.invokestatic 9, 3) := by decide +kernel
theorem dX3_isValid_75 : decode cX3_isValid 75 = .ok (.ifCond .eq 15, 3) := by decide +kernel
theorem dX3_isValid_78 : decode cX3_isValid 78 = .ok (.iload 4, 2) := by decide +kernel
theorem dX3_isValid_80 : decode cX3_isValid 80 = .ok (.ifCond .ne 8, 3) := by decide +kernel
theorem dX3_isValid_83 : decode cX3_isValid 83 = .ok (.iload 5, 2) := by decide +kernel
theorem dX3_isValid_85 : decode cX3_isValid 85 = .ok (.ifCond .eq 5, 3) := by decide +kernel
theorem dX3_isValid_88 : decode cX3_isValid 88 = .ok (.iconst 0, 1) := by decide +kernel
theorem dX3_isValid_89 : decode cX3_isValid 89 = .ok (.ireturn, 1) := by decide +kernel
theorem dX3_isValid_90 : decode cX3_isValid 90 = .ok (.iinc 3 1, 3) := by decide +kernel
theorem dX3_isValid_93 : decode cX3_isValid 93 = .ok (.goto (-84), 3) := by decide +kernel
theorem dX3_isValid_96 : decode cX3_isValid 96 = .ok (.iload_n 1, 1) := by decide +kernel
theorem dX3_isValid_97 : decode cX3_isValid 97 = .ok (.ireturn, 1) := by decide +kernel
theorem dX4_init_0 : decode cX4_init 0 = .ok (.aload_n 0, 1) := by decide +kernel
theorem dX4_init_1 : decode cX4_init 1 = .ok (.invokespecial 3, 3) := by decide +kernel
theorem dX4_init_4 : decode cX4_init 4 = .ok (.aload_n 0, 1) := by decide +kernel
theorem dX4_init_5 : decode cX4_init 5 = .ok (.iload_n 1, 1) := by decide +kernel
theorem dX4_init_6 : decode cX4_init 6 = .ok (.newarray .int, 2) := by decide +kernel
theorem dX4_init_8 : decode cX4_init 8 = .ok (.putfield 9, 3) := by decide +kernel
theorem dX4_init_11 : decode cX4_init 11 = .ok (.return_, 1) := by decide +kernel
theorem dX4_copyFrom_0 : decode cX4_copyFrom 0 = .ok (.aload_n 1, 1) := by decide +kernel
theorem dX4_copyFrom_1 : decode cX4_copyFrom 1 = .ok (.getfield 9, 3) := by decide +kernel
theorem dX4_copyFrom_4 : decode cX4_copyFrom 4 = .ok (.aload_n 0, 1) := by decide +kernel
theorem dX4_copyFrom_5 : decode cX4_copyFrom 5 = .ok (.getfield 9, 3) := by decide +kernel
theorem dX4_copyFrom_8 : decode cX4_copyFrom 8 = .ok (.invokestatic 15, 3) := by decide +kernel
theorem dX4_copyFrom_11 : decode cX4_copyFrom 11 = .ok (.aload_n 0, 1) := by decide +kernel
theorem dX4_copyFrom_12 : decode cX4_copyFrom 12 = .ok (.aload_n 1, 1) := by decide +kernel
theorem dX4_copyFrom_13 : decode cX4_copyFrom 13 = .ok (.getfield 19, 3) := by decide +kernel
theorem dX4_copyFrom_16 : decode cX4_copyFrom 16 = .ok (.putfield 19, 3) := by decide +kernel
theorem dX4_copyFrom_19 : decode cX4_copyFrom 19 = .ok (.return_, 1) := by decide +kernel
theorem dX4_at_0 : decode cX4_at 0 = .ok (.iload_n 1, 1) := by decide +kernel
theorem dX4_at_1 : decode cX4_at 1 = .ok (.ifCond .lt 20, 3) := by decide +kernel
theorem dX4_at_4 : decode cX4_at 4 = .ok (.iload_n 1, 1) := by decide +kernel
theorem dX4_at_5 : decode cX4_at 5 = .ok (.aload_n 0, 1) := by decide +kernel
theorem dX4_at_6 : decode cX4_at 6 = .ok (.getfield 19, 3) := by decide +kernel
theorem dX4_at_9 : decode cX4_at 9 = .ok (.if_icmp .ge 12, 3) := by decide +kernel
theorem dX4_at_12 : decode cX4_at 12 = .ok (.aload_n 0, 1) := by decide +kernel
theorem dX4_at_13 : decode cX4_at 13 = .ok (.getfield 9, 3) := by decide +kernel
theorem dX4_at_16 : decode cX4_at 16 = .ok (.iload_n 1, 1) := by decide +kernel
theorem dX4_at_17 : decode cX4_at 17 = .ok (.iaload, 1) := by decide +kernel
theorem dX4_at_18 : decode cX4_at 18 = .ok (.goto 4, 3) := by decide +kernel
theorem dX4_at_21 : decode cX4_at 21 = .ok (.iconst (-1), 1) := by decide +kernel
theorem dX4_at_22 : decode cX4_at 22 = .ok (.ireturn, 1) := by decide +kernel
theorem dX4_insert_0 : decode cX4_insert 0 = .ok (.iload_n 1, 1) := by decide +kernel
theorem dX4_insert_1 : decode cX4_insert 1 = .ok (.ifCond .lt 23, 3) := by decide +kernel
theorem dX4_insert_4 : decode cX4_insert 4 = .ok (.iload_n 1, 1) := by decide +kernel
theorem dX4_insert_5 : decode cX4_insert 5 = .ok (.aload_n 0, 1) := by decide +kernel
theorem dX4_insert_6 : decode cX4_insert 6 = .ok (.getfield 19, 3) := by decide +kernel
theorem dX4_insert_9 : decode cX4_insert 9 = .ok (.if_icmp .gt 15, 3) := by decide +kernel
theorem dX4_insert_12 : decode cX4_insert 12 = .ok (.aload_n 0, 1) := by decide +kernel
theorem dX4_insert_13 : decode cX4_insert 13 = .ok (.getfield 19, 3) := by decide +kernel
theorem dX4_insert_16 : decode cX4_insert 16 = .ok (.aload_n 0, 1) := by decide +kernel
theorem dX4_insert_17 : decode cX4_insert 17 = .ok (.getfield 9, 3) := by decide +kernel
theorem dX4_insert_20 : decode cX4_insert 20 = .ok (.arraylength, 1) := by decide +kernel
theorem dX4_insert_21 : decode cX4_insert 21 = .ok (.if_icmp .lt 4, 3) := by decide +kernel
theorem dX4_insert_24 : decode cX4_insert 24 = .ok (.return_, 1) := by decide +kernel
theorem dX4_insert_25 : decode cX4_insert 25 = .ok (.aload_n 0, 1) := by decide +kernel
theorem dX4_insert_26 : decode cX4_insert 26 = .ok (.getfield 19, 3) := by decide +kernel
theorem dX4_insert_29 : decode cX4_insert 29 = .ok (.istore_n 3, 1) := by decide +kernel
theorem dX4_insert_30 : decode cX4_insert 30 = .ok (.iload_n 3, 1) := by decide +kernel
theorem dX4_insert_31 : decode cX4_insert 31 = .ok (.iload_n 1, 1) := by decide +kernel
theorem dX4_insert_32 : decode cX4_insert 32 = .ok (.if_icmp .le 23, 3) := by decide +kernel
theorem dX4_insert_35 : decode cX4_insert 35 = .ok (.aload_n 0, 1) := by decide +kernel
theorem dX4_insert_36 : decode cX4_insert 36 = .ok (.getfield 9, 3) := by decide +kernel
theorem dX4_insert_39 : decode cX4_insert 39 = .ok (.iload_n 3, 1) := by decide +kernel
theorem dX4_insert_40 : decode cX4_insert 40 = .ok (.aload_n 0, 1) := by decide +kernel
theorem dX4_insert_41 : decode cX4_insert 41 = .ok (.getfield 9, 3) := by decide +kernel
theorem dX4_insert_44 : decode cX4_insert 44 = .ok (.iload_n 3, 1) := by decide +kernel
theorem dX4_insert_45 : decode cX4_insert 45 = .ok (.iconst 1, 1) := by decide +kernel
theorem dX4_insert_46 : decode cX4_insert 46 = .ok (.isub, 1) := by decide +kernel
theorem dX4_insert_47 : decode cX4_insert 47 = .ok (.iaload, 1) := by decide +kernel
theorem dX4_insert_48 : decode cX4_insert 48 = .ok (.iastore, 1) := by decide +kernel
theorem dX4_insert_49 : decode cX4_insert 49 = .ok (.iinc 3 (-1), 3) := by decide +kernel
theorem dX4_insert_52 : decode cX4_insert 52 = .ok (.goto (-22), 3) := by decide +kernel
theorem dX4_insert_55 : decode cX4_insert 55 = .ok (.aload_n 0, 1) := by decide +kernel
theorem dX4_insert_56 : decode cX4_insert 56 = .ok (.getfield 9, 3) := by decide +kernel
theorem dX4_insert_59 : decode cX4_insert 59 = .ok (.iload_n 1, 1) := by decide +kernel
theorem dX4_insert_60 : decode cX4_insert 60 = .ok (.iload_n 2, 1) := by decide +kernel
theorem dX4_insert_61 : decode cX4_insert 61 = .ok (.iastore, 1) := by decide +kernel
theorem dX4_insert_62 : decode cX4_insert 62 = .ok (.aload_n 0, 1) := by decide +kernel
theorem dX4_insert_63 : decode cX4_insert 63 = .ok (.dup, 1) := by decide +kernel
theorem dX4_insert_64 : decode cX4_insert 64 = .ok (.getfield 19, 3) := by decide +kernel
theorem dX4_insert_67 : decode cX4_insert 67 = .ok (.iconst 1, 1) := by decide +kernel
theorem dX4_insert_68 : decode cX4_insert 68 = .ok (.iadd, 1) := by decide +kernel
theorem dX4_insert_69 : decode cX4_insert 69 = .ok (.putfield 19, 3) := by decide +kernel
theorem dX4_insert_72 : decode cX4_insert 72 = .ok (.return_, 1) := by decide +kernel
theorem dX4_append_0 : decode cX4_append 0 = .ok (.aload_n 0, 1) := by decide +kernel
theorem dX4_append_1 : decode cX4_append 1 = .ok (.aload_n 0, 1) := by decide +kernel
theorem dX4_append_2 : decode cX4_append 2 = .ok (.getfield 19, 3) := by decide +kernel
theorem dX4_append_5 : decode cX4_append 5 = .ok (.iload_n 1, 1) := by decide +kernel
theorem dX4_append_6 : decode cX4_append 6 = .ok (.invokevirtual 23, 3) := by decide +kernel
theorem dX4_append_9 : decode cX4_append 9 = .ok (.return_, 1) := by decide +kernel
theorem dX4_removeAt_0 : decode cX4_removeAt 0 = .ok (.iload_n 1, 1) := by decide +kernel
theorem dX4_removeAt_1 : decode cX4_removeAt 1 = .ok (.ifCond .lt 11, 3) := by decide +kernel
theorem dX4_removeAt_4 : decode cX4_removeAt 4 = .ok (.iload_n 1, 1) := by decide +kernel
theorem dX4_removeAt_5 : decode cX4_removeAt 5 = .ok (.aload_n 0, 1) := by decide +kernel
theorem dX4_removeAt_6 : decode cX4_removeAt 6 = .ok (.getfield 19, 3) := by decide +kernel
theorem dX4_removeAt_9 : decode cX4_removeAt 9 = .ok (.if_icmp .lt 4, 3) := by decide +kernel
theorem dX4_removeAt_12 : decode cX4_removeAt 12 = .ok (.return_, 1) := by decide +kernel
theorem dX4_removeAt_13 : decode cX4_removeAt 13 = .ok (.aload_n 0, 1) := by decide +kernel
theorem dX4_removeAt_14 : decode cX4_removeAt 14 = .ok (.dup, 1) := by decide +kernel
theorem dX4_removeAt_15 : decode cX4_removeAt 15 = .ok (.getfield 19, 3) := by decide +kernel
theorem dX4_removeAt_18 : decode cX4_removeAt 18 = .ok (.iconst 1, 1) := by decide +kernel
theorem dX4_removeAt_19 : decode cX4_removeAt 19 = .ok (.isub, 1) := by decide +kernel
theorem dX4_removeAt_20 : decode cX4_removeAt 20 = .ok (.putfield 19, 3) := by decide +kernel
theorem dX4_removeAt_23 : decode cX4_removeAt 23 = .ok (.iload_n 1, 1) := by decide +kernel
theorem dX4_removeAt_24 : decode cX4_removeAt 24 = .ok (.istore_n 2, 1) := by decide +kernel
theorem dX4_removeAt_25 : decode cX4_removeAt 25 = .ok (.iload_n 2, 1) := by decide +kernel
theorem dX4_removeAt_26 : decode cX4_removeAt 26 = .ok (.aload_n 0, 1) := by decide +kernel
theorem dX4_removeAt_27 : decode cX4_removeAt 27 = .ok (.getfield 19, 3) := by decide +kernel
theorem dX4_removeAt_30 : decode cX4_removeAt 30 = .ok (.if_icmp .ge 23, 3) := by decide +kernel
theorem dX4_removeAt_33 : decode cX4_removeAt 33 = .ok (.aload_n 0, 1) := by decide +kernel
theorem dX4_removeAt_34 : decode cX4_removeAt 34 = .ok (.getfield 9, 3) := by decide +kernel
theorem dX4_removeAt_37 : decode cX4_removeAt 37 = .ok (.iload_n 2, 1) := by decide +kernel
theorem dX4_removeAt_38 : decode cX4_removeAt 38 = .ok (.aload_n 0, 1) := by decide +kernel
theorem dX4_removeAt_39 : decode cX4_removeAt 39 = .ok (.getfield 9, 3) := by decide +kernel
theorem dX4_removeAt_42 : decode cX4_removeAt 42 = .ok (.iload_n 2, 1) := by decide +kernel
theorem dX4_removeAt_43 : decode cX4_removeAt 43 = .ok (.iconst 1, 1) := by decide +kernel
theorem dX4_removeAt_44 : decode cX4_removeAt 44 = .ok (.iadd, 1) := by decide +kernel
theorem dX4_removeAt_45 : decode cX4_removeAt 45 = .ok (.iaload, 1) := by decide +kernel
theorem dX4_removeAt_46 : decode cX4_removeAt 46 = .ok (.iastore, 1) := by decide +kernel
theorem dX4_removeAt_47 : decode cX4_removeAt 47 = .ok (.iinc 2 1, 3) := by decide +kernel
theorem dX4_removeAt_50 : decode cX4_removeAt 50 = .ok (.goto (-25), 3) := by decide +kernel
theorem dX4_removeAt_53 : decode cX4_removeAt 53 = .ok (.return_, 1) := by decide +kernel
theorem dX4_replaceFirst_0 : decode cX4_replaceFirst 0 = .ok (.aload_n 0, 1) := by decide +kernel
theorem dX4_replaceFirst_1 : decode cX4_replaceFirst 1 = .ok (.iconst 0, 1) := by decide +kernel
theorem dX4_replaceFirst_2 : decode cX4_replaceFirst 2 = .ok (.invokevirtual 27, 3) := by decide +kernel
theorem dX4_replaceFirst_5 : decode cX4_replaceFirst 5 = .ok (.aload_n 0, 1) := by decide +kernel
theorem dX4_replaceFirst_6 : decode cX4_replaceFirst 6 = .ok (.iconst 0, 1) := by decide +kernel
theorem dX4_replaceFirst_7 : decode cX4_replaceFirst 7 = .ok (.iload_n 1, 1) := by decide +kernel
theorem dX4_replaceFirst_8 : decode cX4_replaceFirst 8 = .ok (.invokevirtual 23, 3) := by decide +kernel
theorem dX4_replaceFirst_11 : decode cX4_replaceFirst 11 = .ok (.return_, 1) := by decide +kernel
theorem dX5_init_0 : decode cX5_init 0 = .ok (.aload_n 0, 1) := by decide +kernel
theorem dX5_init_1 : decode cX5_init 1 = .ok (.invokespecial 1, 3) := by decide +kernel
theorem dX5_init_4 : decode cX5_init 4 = .ok (.return_, 1) := by decide +kernel
theorem dX6_init_0 : decode cX6_init 0 = .ok (.aload_n 0, 1) := by decide +kernel
theorem dX6_init_1 : decode cX6_init 1 = .ok (.invokespecial 3, 3) := by decide +kernel
theorem dX6_init_4 : decode cX6_init 4 = .ok (.aload_n 0, 1) := by decide +kernel
theorem dX6_init_5 : decode cX6_init 5 = .ok (.bipush 6, 2) := by decide +kernel
theorem dX6_init_7 : decode cX6_init 7 = .ok (.newarray .int, 2) := by decide +kernel
theorem dX6_init_9 : decode cX6_init 9 = .ok (.putfield 9, 3) := by decide +kernel
theorem dX6_init_12 : decode cX6_init 12 = .ok (.aload_n 0, 1) := by decide +kernel
theorem dX6_init_13 : decode cX6_init 13 = .ok (.bipush 16, 2) := by decide +kernel
theorem dX6_init_15 : decode cX6_init 15 = .ok (.anewarray 15, 3) := by decide +kernel
theorem dX6_init_18 : decode cX6_init 18 = .ok (.putfield 17, 3) := by decide +kernel
theorem dX6_init_21 : decode cX6_init 21 = .ok (.aload_n 0, 1) := by decide +kernel
theorem dX6_init_22 : decode cX6_init 22 = .ok (.new 21, 3) := by decide +kernel
theorem dX6_init_25 : decode cX6_init 25 = .ok (.dup, 1) := by decide +kernel
theorem dX6_init_26 : decode cX6_init 26 = .ok (.bipush 16, 2) := by decide +kernel
theorem dX6_init_28 : decode cX6_init 28 = .ok (.invokespecial 23, 3) := by decide +kernel
theorem dX6_init_31 : decode cX6_init 31 = .ok (.putfield 26, 3) := by decide +kernel
theorem dX6_init_34 : decode cX6_init 34 = .ok (.aload_n 0, 1) := by decide +kernel
theorem dX6_init_35 : decode cX6_init 35 = .ok (.new 21, 3) := by decide +kernel
theorem dX6_init_38 : decode cX6_init 38 = .ok (.dup, 1) := by decide +kernel
theorem dX6_init_39 : decode cX6_init 39 = .ok (.bipush 8, 2) := by decide +kernel
theorem dX6_init_41 : decode cX6_init 41 = .ok (.invokespecial 23, 3) := by decide +kernel
theorem dX6_init_44 : decode cX6_init 44 = .ok (.putfield 30, 3) := by decide +kernel
theorem dX6_init_47 : decode cX6_init 47 = .ok (.aload_n 0, 1) := by decide +kernel
theorem dX6_init_48 : decode cX6_init 48 = .ok (.new 33, 3) := by decide +kernel
theorem dX6_init_51 : decode cX6_init 51 = .ok (.dup, 1) := by decide +kernel
theorem dX6_init_52 : decode cX6_init 52 = .ok (.invokespecial 35, 3) := by decide +kernel
theorem dX6_init_55 : decode cX6_init 55 = .ok (.putfield 36, 3) := by decide +kernel
theorem dX6_init_58 : decode cX6_init 58 = .ok (.aload_n 0, 1) := by decide +kernel
theorem dX6_init_59 : decode cX6_init 59 = .ok (.aload_n 1, 1) := by decide +kernel
theorem dX6_init_60 : decode cX6_init 60 = .ok (.putfield 40, 3) := by decide +kernel
theorem dX6_init_63 : decode cX6_init 63 = .ok (.aload_n 0, 1) := by decide +kernel
theorem dX6_init_64 : decode cX6_init 64 = .ok (.getfield 9, 3) := by decide +kernel
theorem dX6_init_67 : decode cX6_init 67 = .ok (.iconst 0, 1) := by decide +kernel
theorem dX6_init_68 : decode cX6_init 68 = .ok (.bipush 17, 2) := by decide +kernel
theorem dX6_init_70 : decode cX6_init 70 = .ok (.iastore, 1) := by decide +kernel
theorem dX6_init_71 : decode cX6_init 71 = .ok (.iconst 0, 1) := by decide +kernel
theorem dX6_init_72 : decode cX6_init 72 = .ok (.istore_n 2, 1) := by decide +kernel
theorem dX6_init_73 : decode cX6_init 73 = .ok (.iload_n 2, 1) := by decide +kernel
theorem dX6_init_74 : decode cX6_init 74 = .ok (.bipush 16, 2) := by decide +kernel
theorem dX6_init_76 : decode cX6_init 76 = .ok (.if_icmp .ge 22, 3) := by decide +kernel
theorem dX6_init_79 : decode cX6_init 79 = .ok (.aload_n 0, 1) := by decide +kernel
theorem dX6_init_80 : decode cX6_init 80 = .ok (.getfield 17, 3) := by decide +kernel
theorem dX6_init_83 : decode cX6_init 83 = .ok (.iload_n 2, 1) := by decide +kernel
theorem dX6_init_84 : decode cX6_init 84 = .ok (.new 15, 3) := by decide +kernel
theorem dX6_init_87 : decode cX6_init 87 = .ok (.dup, 1) := by decide +kernel
theorem dX6_init_88 : decode cX6_init 88 = .ok (.invokespecial 44, 3) := by decide +kernel
theorem dX6_init_91 : decode cX6_init 91 = .ok (.aastore, 1) := by decide +kernel
theorem dX6_init_92 : decode cX6_init 92 = .ok (.iinc 2 1, 3) := by decide +kernel
theorem dX6_init_95 : decode cX6_init 95 = .ok (.goto (-22), 3) := by decide +kernel
theorem dX6_init_98 : decode cX6_init 98 = .ok (.return_, 1) := by decide +kernel
theorem dX6_copyFrom_0 : decode cX6_copyFrom 0 = .ok (.aload_n 1, 1) := by decide +kernel
theorem dX6_copyFrom_1 : decode cX6_copyFrom 1 = .ok (.getfield 9, 3) := by decide +kernel
theorem dX6_copyFrom_4 : decode cX6_copyFrom 4 = .ok (.aload_n 0, 1) := by decide +kernel
theorem dX6_copyFrom_5 : decode cX6_copyFrom 5 = .ok (.getfield 9, 3) := by decide +kernel
theorem dX6_copyFrom_8 : decode cX6_copyFrom 8 = .ok (.invokestatic 45, 3) := by decide +kernel
theorem dX6_copyFrom_11 : decode cX6_copyFrom 11 = .ok (.aload_n 0, 1) := by decide +kernel
theorem dX6_copyFrom_12 : decode cX6_copyFrom 12 = .ok (.aload_n 1, 1) := by decide +kernel
theorem dX6_copyFrom_13 : decode cX6_copyFrom 13 = .ok (.getfield 49, 3) := by decide +kernel
theorem dX6_copyFrom_16 : decode cX6_copyFrom 16 = .ok (.putfield 49, 3) := by decide +kernel
theorem dX6_copyFrom_19 : decode cX6_copyFrom 19 = .ok (.iconst 0, 1) := by decide +kernel
theorem dX6_copyFrom_20 : decode cX6_copyFrom 20 = .ok (.istore_n 2, 1) := by decide +kernel
theorem dX6_copyFrom_21 : decode cX6_copyFrom 21 = .ok (.iload_n 2, 1) := by decide +kernel
theorem dX6_copyFrom_22 : decode cX6_copyFrom 22 = .ok (.bipush 16, 2) := by decide +kernel
theorem dX6_copyFrom_24 : decode cX6_copyFrom 24 = .ok (.if_icmp .ge 24, 3) := by decide +kernel
theorem dX6_copyFrom_27 : decode cX6_copyFrom 27 = .ok (.aload_n 0, 1) := by decide +kernel
theorem dX6_copyFrom_28 : decode cX6_copyFrom 28 = .ok (.getfield 17, 3) := by decide +kernel
theorem dX6_copyFrom_31 : decode cX6_copyFrom 31 = .ok (.iload_n 2, 1) := by decide +kernel
theorem dX6_copyFrom_32 : decode cX6_copyFrom 32 = .ok (.aaload, 1) := by decide +kernel
theorem dX6_copyFrom_33 : decode cX6_copyFrom 33 = .ok (.aload_n 1, 1) := by decide +kernel
theorem dX6_copyFrom_34 : decode cX6_copyFrom 34 = .ok (.getfield 17, 3) := by decide +kernel
theorem dX6_copyFrom_37 : decode cX6_copyFrom 37 = .ok (.iload_n 2, 1) := by decide +kernel
theorem dX6_copyFrom_38 : decode cX6_copyFrom 38 = .ok (.aaload, 1) := by decide +kernel
theorem dX6_copyFrom_39 : decode cX6_copyFrom 39 = .ok (.invokevirtual 53, 3) := by decide +kernel
theorem dX6_copyFrom_42 : decode cX6_copyFrom 42 = .ok (.iinc 2 1, 3) := by decide +kernel
theorem dX6_copyFrom_45 : decode cX6_copyFrom 45 = .ok (.goto (-24), 3) := by decide +kernel
theorem dX6_copyFrom_48 : decode cX6_copyFrom 48 = .ok (.aload_n 0, 1) := by decide +kernel
theorem dX6_copyFrom_49 : decode cX6_copyFrom 49 = .ok (.aload_n 1, 1) := by decide +kernel
theorem dX6_copyFrom_50 : decode cX6_copyFrom 50 = .ok (.getfield 57, 3) := by decide +kernel
theorem dX6_copyFrom_53 : decode cX6_copyFrom 53 = .ok (.putfield 57, 3) := by decide +kernel
theorem dX6_copyFrom_56 : decode cX6_copyFrom 56 = .ok (.aload_n 0, 1) := by decide +kernel
theorem dX6_copyFrom_57 : decode cX6_copyFrom 57 = .ok (.getfield 26, 3) := by decide +kernel
theorem dX6_copyFrom_60 : decode cX6_copyFrom 60 = .ok (.aload_n 1, 1) := by decide +kernel
theorem dX6_copyFrom_61 : decode cX6_copyFrom 61 = .ok (.getfield 26, 3) := by decide +kernel
theorem dX6_copyFrom_64 : decode cX6_copyFrom 64 = .ok (.invokevirtual 60, 3) := by decide +kernel
theorem dX6_copyFrom_67 : decode cX6_copyFrom 67 = .ok (.aload_n 0, 1) := by decide +kernel
theorem dX6_copyFrom_68 : decode cX6_copyFrom 68 = .ok (.getfield 30, 3) := by decide +kernel
theorem dX6_copyFrom_71 : decode cX6_copyFrom 71 = .ok (.aload_n 1, 1) := by decide +kernel
theorem dX6_copyFrom_72 : decode cX6_copyFrom 72 = .ok (.getfield 30, 3) := by decide +kernel
theorem dX6_copyFrom_75 : decode cX6_copyFrom 75 = .ok (.invokevirtual 60, 3) := by decide +kernel
theorem dX6_copyFrom_78 : decode cX6_copyFrom 78 = .ok (.aload_n 0, 1) := by decide +kernel
theorem dX6_copyFrom_79 : decode cX6_copyFrom 79 = .ok (.getfield 36, 3) := by decide +kernel
theorem dX6_copyFrom_82 : decode cX6_copyFrom 82 = .ok (.aload_n 1, 1) := by decide +kernel
theorem dX6_copyFrom_83 : decode cX6_copyFrom 83 = .ok (.getfield 36, 3) := by decide +kernel
theorem dX6_copyFrom_86 : decode cX6_copyFrom 86 = .ok (.invokevirtual 63, 3) := by decide +kernel
theorem dX6_copyFrom_89 : decode cX6_copyFrom 89 = .ok (.aload_n 0, 1) := by decide +kernel
theorem dX6_copyFrom_90 : decode cX6_copyFrom 90 = .ok (.aload_n 1, 1) := by decide +kernel
theorem dX6_copyFrom_91 : decode cX6_copyFrom 91 = .ok (.getfield 66, 3) := by decide +kernel
theorem dX6_copyFrom_94 : decode cX6_copyFrom 94 = .ok (.putfield 66, 3) := by decide +kernel
theorem dX6_copyFrom_97 : decode cX6_copyFrom 97 = .ok (.return_, 1) := by decide +kernel
theorem dX6_isChange_0 : decode cX6_isChange 0 = .ok (.iload_n 1, 1) := by decide +kernel
theorem dX6_isChange_1 : decode cX6_isChange 1 = .ok (.ifCond .lt 15, 3) := by decide +kernel
theorem dX6_isChange_4 : decode cX6_isChange 4 = .ok (.iload_n 1, 1) := by decide +kernel
theorem dX6_isChange_5 : decode cX6_isChange 5 = .ok (.aload_n 0, 1) := by decide +kernel
theorem dX6_isChange_6 : decode cX6_isChange 6 = .ok (.getfield 57, 3) := by decide +kernel
theorem dX6_isChange_9 : decode cX6_isChange 9 = .ok (.if_icmp .ge 7, 3) := by decide +kernel
theorem dX6_isChange_12 : decode cX6_isChange 12 = .ok (.iconst 1, 1) := by decide +kernel
theorem dX6_isChange_13 : decode cX6_isChange 13 = .ok (.goto 4, 3) := by decide +kernel
theorem dX6_isChange_16 : decode cX6_isChange 16 = .ok (.iconst 0, 1) := by decide +kernel
theorem dX6_isChange_17 : decode cX6_isChange 17 = .ok (.ireturn, 1) := by decide +kernel
theorem dX6_isOpen_0 : decode cX6_isOpen 0 = .ok (.aload_n 0, 1) := by decide +kernel
theorem dX6_isOpen_1 : decode cX6_isOpen 1 = .ok (.iload_n 1, 1) := by decide +kernel
theorem dX6_isOpen_2 : decode cX6_isOpen 2 = .ok (.invokevirtual 69, 3) := by decide +kernel
theorem dX6_isOpen_5 : decode cX6_isOpen 5 = .ok (.ifCond .eq 19, 3) := by decide +kernel
theorem dX6_isOpen_8 : decode cX6_isOpen 8 = .ok (.aload_n 0, 1) := by decide +kernel
theorem dX6_isOpen_9 : decode cX6_isOpen 9 = .ok (.getfield 17, 3) := by decide +kernel
theorem dX6_isOpen_12 : decode cX6_isOpen 12 = .ok (.iload_n 1, 1) := by decide +kernel
theorem dX6_isOpen_13 : decode cX6_isOpen 13 = .ok (.aaload, 1) := by decide +kernel
theorem dX6_isOpen_14 : decode cX6_isOpen 14 = .ok (.getfield 73, 3) := by decide +kernel
theorem dX6_isOpen_17 : decode cX6_isOpen 17 = .ok (.ifCond .ne 7, 3) := by decide +kernel
theorem dX6_isOpen_20 : decode cX6_isOpen 20 = .ok (.iconst 1, 1) := by decide +kernel
theorem dX6_isOpen_21 : decode cX6_isOpen 21 = .ok (.goto 4, 3) := by decide +kernel
theorem dX6_isOpen_24 : decode cX6_isOpen 24 = .ok (.iconst 0, 1) := by decide +kernel
theorem dX6_isOpen_25 : decode cX6_isOpen 25 = .ok (.ireturn, 1) := by decide +kernel
theorem dX6_isOpenOrRejected_0 : decode cX6_isOpenOrRejected 0 = .ok (.aload_n 0, 1) := by decide +kernel
theorem dX6_isOpenOrRejected_1 : decode cX6_isOpenOrRejected 1 = .ok (.iload_n 1, 1) := by decide +kernel
theorem dX6_isOpenOrRejected_2 : decode cX6_isOpenOrRejected 2 = .ok (.invokevirtual 76, 3) := by decide +kernel
theorem dX6_isOpenOrRejected_5 : decode cX6_isOpenOrRejected 5 = .ok (.ifCond .ne 24, 3) := by decide +kernel
theorem dX6_isOpenOrRejected_8 : decode cX6_isOpenOrRejected 8 = .ok (.aload_n 0, 1) := by decide +kernel
theorem dX6_isOpenOrRejected_9 : decode cX6_isOpenOrRejected 9 = .ok (.iload_n 1, 1) := by decide +kernel
theorem dX6_isOpenOrRejected_10 : decode cX6_isOpenOrRejected 10 = .ok (.invokevirtual 69, 3) := by decide +kernel
theorem dX6_isOpenOrRejected_13 : decode cX6_isOpenOrRejected 13 = .ok (.ifCond .eq 20, 3) := by decide +kernel
theorem dX6_isOpenOrRejected_16 : decode cX6_isOpenOrRejected 16 = .ok (.aload_n 0, 1) := by decide +kernel
theorem dX6_isOpenOrRejected_17 : decode cX6_isOpenOrRejected 17 = .ok (.getfield 17, 3) := by decide +kernel
theorem dX6_isOpenOrRejected_20 : decode cX6_isOpenOrRejected 20 = .ok (.iload_n 1, 1) := by decide +kernel
theorem dX6_isOpenOrRejected_21 : decode cX6_isOpenOrRejected 21 = .ok (.aaload, 1) := by decide +kernel
theorem dX6_isOpenOrRejected_22 : decode cX6_isOpenOrRejected 22 = .ok (.getfield 73, 3) := by decide +kernel
theorem dX6_isOpenOrRejected_25 : decode cX6_isOpenOrRejected 25 = .ok (.iconst 3, 1) := by decide +kernel
theorem dX6_isOpenOrRejected_26 : decode cX6_isOpenOrRejected 26 = .ok (.if_icmp .ne 7, 3) := by decide +kernel
theorem dX6_isOpenOrRejected_29 : decode cX6_isOpenOrRejected 29 = .ok (.iconst 1, 1) := by decide +kernel
theorem dX6_isOpenOrRejected_30 : decode cX6_isOpenOrRejected 30 = .ok (.goto 4, 3) := by decide +kernel
theorem dX6_isOpenOrRejected_33 : decode cX6_isOpenOrRejected 33 = .ok (.iconst 0, 1) := by decide +kernel
theorem dX6_isOpenOrRejected_34 : decode cX6_isOpenOrRejected 34 = .ok (.ireturn, 1) := by decide +kernel
theorem dX6_mayBeQueued_0 : decode cX6_mayBeQueued 0 = .ok (.aload_n 0, 1) := by decide +kernel
theorem dX6_mayBeQueued_1 : decode cX6_mayBeQueued 1 = .ok (.iload_n 1, 1) := by decide +kernel
theorem dX6_mayBeQueued_2 : decode cX6_mayBeQueued 2 = .ok (.invokevirtual 76, 3) := by decide +kernel
theorem dX6_mayBeQueued_5 : decode cX6_mayBeQueued 5 = .ok (.ifCond .eq 38, 3) := by decide +kernel
theorem dX6_mayBeQueued_8 : decode cX6_mayBeQueued 8 = .ok (.aload_n 0, 1) := by decide +kernel
theorem dX6_mayBeQueued_9 : decode cX6_mayBeQueued 9 = .ok (.getfield 17, 3) := by decide +kernel
theorem dX6_mayBeQueued_12 : decode cX6_mayBeQueued 12 = .ok (.iload_n 1, 1) := by decide +kernel
theorem dX6_mayBeQueued_13 : decode cX6_mayBeQueued 13 = .ok (.aaload, 1) := by decide +kernel
theorem dX6_mayBeQueued_14 : decode cX6_mayBeQueued 14 = .ok (.invokevirtual 79, 3) := by decide +kernel
theorem dX6_mayBeQueued_17 : decode cX6_mayBeQueued 17 = .ok (.aload_n 0, 1) := by decide +kernel
theorem dX6_mayBeQueued_18 : decode cX6_mayBeQueued 18 = .ok (.getfield 40, 3) := by decide +kernel
theorem dX6_mayBeQueued_21 : decode cX6_mayBeQueued 21 = .ok (.getfield 83, 3) := by decide +kernel
theorem dX6_mayBeQueued_24 : decode cX6_mayBeQueued 24 = .ok (.if_icmp .lt 19, 3) := by decide +kernel
theorem dX6_mayBeQueued_27 : decode cX6_mayBeQueued 27 = .ok (.aload_n 0, 1) := by decide +kernel
theorem dX6_mayBeQueued_28 : decode cX6_mayBeQueued 28 = .ok (.getfield 17, 3) := by decide +kernel
theorem dX6_mayBeQueued_31 : decode cX6_mayBeQueued 31 = .ok (.iload_n 1, 1) := by decide +kernel
theorem dX6_mayBeQueued_32 : decode cX6_mayBeQueued 32 = .ok (.aaload, 1) := by decide +kernel
theorem dX6_mayBeQueued_33 : decode cX6_mayBeQueued 33 = .ok (.invokevirtual 88, 3) := by decide +kernel
theorem dX6_mayBeQueued_36 : decode cX6_mayBeQueued 36 = .ok (.ifCond .ne 7, 3) := by decide +kernel
theorem dX6_mayBeQueued_39 : decode cX6_mayBeQueued 39 = .ok (.iconst 1, 1) := by decide +kernel
theorem dX6_mayBeQueued_40 : decode cX6_mayBeQueued 40 = .ok (.goto 4, 3) := by decide +kernel
theorem dX6_mayBeQueued_43 : decode cX6_mayBeQueued 43 = .ok (.iconst 0, 1) := by decide +kernel
theorem dX6_mayBeQueued_44 : decode cX6_mayBeQueued 44 = .ok (.ireturn, 1) := by decide +kernel
theorem dX6_mayBeRebased_0 : decode cX6_mayBeRebased 0 = .ok (.aload_n 0, 1) := by decide +kernel
theorem dX6_mayBeRebased_1 : decode cX6_mayBeRebased 1 = .ok (.iload_n 1, 1) := by decide +kernel
theorem dX6_mayBeRebased_2 : decode cX6_mayBeRebased 2 = .ok (.invokevirtual 91, 3) := by decide +kernel
theorem dX6_mayBeRebased_5 : decode cX6_mayBeRebased 5 = .ok (.ifCond .eq 23, 3) := by decide +kernel
theorem dX6_mayBeRebased_8 : decode cX6_mayBeRebased 8 = .ok (.aload_n 0, 1) := by decide +kernel
theorem dX6_mayBeRebased_9 : decode cX6_mayBeRebased 9 = .ok (.getfield 17, 3) := by decide +kernel
theorem dX6_mayBeRebased_12 : decode cX6_mayBeRebased 12 = .ok (.iload_n 1, 1) := by decide +kernel
theorem dX6_mayBeRebased_13 : decode cX6_mayBeRebased 13 = .ok (.aaload, 1) := by decide +kernel
theorem dX6_mayBeRebased_14 : decode cX6_mayBeRebased 14 = .ok (.aload_n 0, 1) := by decide +kernel
theorem dX6_mayBeRebased_15 : decode cX6_mayBeRebased 15 = .ok (.getfield 9, 3) := by decide +kernel
theorem dX6_mayBeRebased_18 : decode cX6_mayBeRebased 18 = .ok (.invokevirtual 94, 3) := by decide +kernel
theorem dX6_mayBeRebased_21 : decode cX6_mayBeRebased 21 = .ok (.ifCond .ne 7, 3) := by decide +kernel
theorem dX6_mayBeRebased_24 : decode cX6_mayBeRebased 24 = .ok (.iconst 1, 1) := by decide +kernel
theorem dX6_mayBeRebased_25 : decode cX6_mayBeRebased 25 = .ok (.goto 4, 3) := by decide +kernel
theorem dX6_mayBeRebased_28 : decode cX6_mayBeRebased 28 = .ok (.iconst 0, 1) := by decide +kernel
theorem dX6_mayBeRebased_29 : decode cX6_mayBeRebased 29 = .ok (.ireturn, 1) := by decide +kernel
theorem dX6_jobToLease_0 : decode cX6_jobToLease 0 = .ok (.iload_n 1, 1) := by decide +kernel
theorem dX6_jobToLease_1 : decode cX6_jobToLease 1 = .ok (.invokestatic 98, 3) := by decide +kernel
theorem dX6_jobToLease_4 : decode cX6_jobToLease 4 = .ok (.ifCond .eq 25, 3) := by decide +kernel
theorem dX6_jobToLease_7 : decode cX6_jobToLease 7 = .ok (.aload_n 0, 1) := by decide +kernel
theorem dX6_jobToLease_8 : decode cX6_jobToLease 8 = .ok (.getfield 36, 3) := by decide +kernel
theorem dX6_jobToLease_11 : decode cX6_jobToLease 11 = .ok (.iload_n 1, 1) := by decide +kernel
theorem dX6_jobToLease_12 : decode cX6_jobToLease 12 = .ok (.invokevirtual 101, 3) := by decide +kernel
theorem dX6_jobToLease_15 : decode cX6_jobToLease 15 = .ok (.iconst (-1), 1) := by decide +kernel
theorem dX6_jobToLease_16 : decode cX6_jobToLease 16 = .ok (.if_icmp .ne 13, 3) := by decide +kernel
theorem dX6_jobToLease_19 : decode cX6_jobToLease 19 = .ok (.aload_n 0, 1) := by decide +kernel
theorem dX6_jobToLease_20 : decode cX6_jobToLease 20 = .ok (.getfield 36, 3) := by decide +kernel
theorem dX6_jobToLease_23 : decode cX6_jobToLease 23 = .ok (.invokevirtual 105, 3) := by decide +kernel
theorem dX6_jobToLease_26 : decode cX6_jobToLease 26 = .ok (.goto 4, 3) := by decide +kernel
theorem dX6_jobToLease_29 : decode cX6_jobToLease 29 = .ok (.iconst (-1), 1) := by decide +kernel
theorem dX6_jobToLease_30 : decode cX6_jobToLease 30 = .ok (.ireturn, 1) := by decide +kernel
theorem dX6_carryOut_0 : decode cX6_carryOut 0 = .ok (.iconst 0, 1) := by decide +kernel
theorem dX6_carryOut_1 : decode cX6_carryOut 1 = .ok (.istore_n 2, 1) := by decide +kernel
theorem dX6_carryOut_2 : decode cX6_carryOut 2 = .ok (.aload_n 1, 1) := by decide +kernel
theorem dX6_carryOut_3 : decode cX6_carryOut 3 = .ok (.getfield 108, 3) := by decide +kernel
theorem dX6_carryOut_6 : decode cX6_carryOut 6 = .ok (.tableswitch 262 0 9 #[54, 62, 85, 104, 123, 140, 168, 187, 199, 221], 54) := by decide +kernel
theorem dX6_carryOut_60 : decode cX6_carryOut 60 = .ok (.aload_n 0, 1) := by decide +kernel
theorem dX6_carryOut_61 : decode cX6_carryOut 61 = .ok (.invokevirtual 113, 3) := by decide +kernel
theorem dX6_carryOut_64 : decode cX6_carryOut 64 = .ok (.istore_n 2, 1) := by decide +kernel
theorem dX6_carryOut_65 : decode cX6_carryOut 65 = .ok (.goto 203, 3) := by decide +kernel
theorem dX6_carryOut_68 : decode cX6_carryOut 68 = .ok (.aload_n 0, 1) := by decide +kernel
theorem dX6_carryOut_69 : decode cX6_carryOut 69 = .ok (.getfield 17, 3) := by decide +kernel
theorem dX6_carryOut_72 : decode cX6_carryOut 72 = .ok (.aload_n 1, 1) := by decide +kernel
theorem dX6_carryOut_73 : decode cX6_carryOut 73 = .ok (.getfield 116, 3) := by decide +kernel
theorem dX6_carryOut_76 : decode cX6_carryOut 76 = .ok (.aaload, 1) := by decide +kernel
theorem dX6_carryOut_77 : decode cX6_carryOut 77 = .ok (.aload_n 1, 1) := by decide +kernel
theorem dX6_carryOut_78 : decode cX6_carryOut 78 = .ok (.getfield 119, 3) := by decide +kernel
theorem dX6_carryOut_81 : decode cX6_carryOut 81 = .ok (.aload_n 1, 1) := by decide +kernel
theorem dX6_carryOut_82 : decode cX6_carryOut 82 = .ok (.getfield 122, 3) := by decide +kernel
theorem dX6_carryOut_85 : decode cX6_carryOut 85 = .ok (.invokevirtual 125, 3) := by decide +kernel
theorem dX6_carryOut_88 : decode cX6_carryOut 88 = .ok (.goto 180, 3) := by decide +kernel
theorem dX6_carryOut_91 : decode cX6_carryOut 91 = .ok (.aload_n 0, 1) := by decide +kernel
theorem dX6_carryOut_92 : decode cX6_carryOut 92 = .ok (.getfield 17, 3) := by decide +kernel
theorem dX6_carryOut_95 : decode cX6_carryOut 95 = .ok (.aload_n 1, 1) := by decide +kernel
theorem dX6_carryOut_96 : decode cX6_carryOut 96 = .ok (.getfield 116, 3) := by decide +kernel
theorem dX6_carryOut_99 : decode cX6_carryOut 99 = .ok (.aaload, 1) := by decide +kernel
theorem dX6_carryOut_100 : decode cX6_carryOut 100 = .ok (.aload_n 1, 1) := by decide +kernel
theorem dX6_carryOut_101 : decode cX6_carryOut 101 = .ok (.getfield 119, 3) := by decide +kernel
theorem dX6_carryOut_104 : decode cX6_carryOut 104 = .ok (.invokevirtual 129, 3) := by decide +kernel
theorem dX6_carryOut_107 : decode cX6_carryOut 107 = .ok (.goto 161, 3) := by decide +kernel
theorem dX6_carryOut_110 : decode cX6_carryOut 110 = .ok (.aload_n 0, 1) := by decide +kernel
theorem dX6_carryOut_111 : decode cX6_carryOut 111 = .ok (.getfield 17, 3) := by decide +kernel
theorem dX6_carryOut_114 : decode cX6_carryOut 114 = .ok (.aload_n 1, 1) := by decide +kernel
theorem dX6_carryOut_115 : decode cX6_carryOut 115 = .ok (.getfield 116, 3) := by decide +kernel
theorem dX6_carryOut_118 : decode cX6_carryOut 118 = .ok (.aaload, 1) := by decide +kernel
theorem dX6_carryOut_119 : decode cX6_carryOut 119 = .ok (.aload_n 1, 1) := by decide +kernel
theorem dX6_carryOut_120 : decode cX6_carryOut 120 = .ok (.getfield 119, 3) := by decide +kernel
theorem dX6_carryOut_123 : decode cX6_carryOut 123 = .ok (.invokevirtual 132, 3) := by decide +kernel
theorem dX6_carryOut_126 : decode cX6_carryOut 126 = .ok (.goto 142, 3) := by decide +kernel
theorem dX6_carryOut_129 : decode cX6_carryOut 129 = .ok (.aload_n 0, 1) := by decide +kernel
theorem dX6_carryOut_130 : decode cX6_carryOut 130 = .ok (.getfield 17, 3) := by decide +kernel
theorem dX6_carryOut_133 : decode cX6_carryOut 133 = .ok (.aload_n 1, 1) := by decide +kernel
theorem dX6_carryOut_134 : decode cX6_carryOut 134 = .ok (.getfield 116, 3) := by decide +kernel
theorem dX6_carryOut_137 : decode cX6_carryOut 137 = .ok (.aaload, 1) := by decide +kernel
theorem dX6_carryOut_138 : decode cX6_carryOut 138 = .ok (.iconst 4, 1) := by decide +kernel
theorem dX6_carryOut_139 : decode cX6_carryOut 139 = .ok (.iconst 0, 1) := by decide +kernel
theorem dX6_carryOut_140 : decode cX6_carryOut 140 = .ok (.invokevirtual 135, 3) := by decide +kernel
theorem dX6_carryOut_143 : decode cX6_carryOut 143 = .ok (.goto 125, 3) := by decide +kernel
theorem dX6_carryOut_146 : decode cX6_carryOut 146 = .ok (.aload_n 0, 1) := by decide +kernel
theorem dX6_carryOut_147 : decode cX6_carryOut 147 = .ok (.getfield 17, 3) := by decide +kernel
theorem dX6_carryOut_150 : decode cX6_carryOut 150 = .ok (.aload_n 1, 1) := by decide +kernel
theorem dX6_carryOut_151 : decode cX6_carryOut 151 = .ok (.getfield 116, 3) := by decide +kernel
theorem dX6_carryOut_154 : decode cX6_carryOut 154 = .ok (.aaload, 1) := by decide +kernel
theorem dX6_carryOut_155 : decode cX6_carryOut 155 = .ok (.iconst 1, 1) := by decide +kernel
theorem dX6_carryOut_156 : decode cX6_carryOut 156 = .ok (.iconst 0, 1) := by decide +kernel
theorem dX6_carryOut_157 : decode cX6_carryOut 157 = .ok (.invokevirtual 135, 3) := by decide +kernel
theorem dX6_carryOut_160 : decode cX6_carryOut 160 = .ok (.aload_n 0, 1) := by decide +kernel
theorem dX6_carryOut_161 : decode cX6_carryOut 161 = .ok (.getfield 26, 3) := by decide +kernel
theorem dX6_carryOut_164 : decode cX6_carryOut 164 = .ok (.aload_n 1, 1) := by decide +kernel
theorem dX6_carryOut_165 : decode cX6_carryOut 165 = .ok (.getfield 116, 3) := by decide +kernel
theorem dX6_carryOut_168 : decode cX6_carryOut 168 = .ok (.invokevirtual 138, 3) := by decide +kernel
theorem dX6_carryOut_171 : decode cX6_carryOut 171 = .ok (.goto 97, 3) := by decide +kernel
theorem dX6_carryOut_174 : decode cX6_carryOut 174 = .ok (.aload_n 0, 1) := by decide +kernel
theorem dX6_carryOut_175 : decode cX6_carryOut 175 = .ok (.getfield 17, 3) := by decide +kernel
theorem dX6_carryOut_178 : decode cX6_carryOut 178 = .ok (.aload_n 1, 1) := by decide +kernel
theorem dX6_carryOut_179 : decode cX6_carryOut 179 = .ok (.getfield 116, 3) := by decide +kernel
theorem dX6_carryOut_182 : decode cX6_carryOut 182 = .ok (.aaload, 1) := by decide +kernel
theorem dX6_carryOut_183 : decode cX6_carryOut 183 = .ok (.aload_n 0, 1) := by decide +kernel
theorem dX6_carryOut_184 : decode cX6_carryOut 184 = .ok (.getfield 9, 3) := by decide +kernel
theorem dX6_carryOut_187 : decode cX6_carryOut 187 = .ok (.invokevirtual 141, 3) := by decide +kernel
theorem dX6_carryOut_190 : decode cX6_carryOut 190 = .ok (.goto 78, 3) := by decide +kernel
theorem dX6_carryOut_193 : decode cX6_carryOut 193 = .ok (.aload_n 0, 1) := by decide +kernel
theorem dX6_carryOut_194 : decode cX6_carryOut 194 = .ok (.aload_n 1, 1) := by decide +kernel
theorem dX6_carryOut_195 : decode cX6_carryOut 195 = .ok (.getfield 116, 3) := by decide +kernel
theorem dX6_carryOut_198 : decode cX6_carryOut 198 = .ok (.invokevirtual 145, 3) := by decide +kernel
theorem dX6_carryOut_201 : decode cX6_carryOut 201 = .ok (.istore_n 2, 1) := by decide +kernel
theorem dX6_carryOut_202 : decode cX6_carryOut 202 = .ok (.goto 66, 3) := by decide +kernel
theorem dX6_carryOut_205 : decode cX6_carryOut 205 = .ok (.aload_n 0, 1) := by decide +kernel
theorem dX6_carryOut_206 : decode cX6_carryOut 206 = .ok (.aload_n 0, 1) := by decide +kernel
theorem dX6_carryOut_207 : decode cX6_carryOut 207 = .ok (.getfield 36, 3) := by decide +kernel
theorem dX6_carryOut_210 : decode cX6_carryOut 210 = .ok (.aload_n 1, 1) := by decide +kernel
theorem dX6_carryOut_211 : decode cX6_carryOut 211 = .ok (.getfield 116, 3) := by decide +kernel
theorem dX6_carryOut_214 : decode cX6_carryOut 214 = .ok (.invokevirtual 101, 3) := by decide +kernel
theorem dX6_carryOut_217 : decode cX6_carryOut 217 = .ok (.aload_n 1, 1) := by decide +kernel
theorem dX6_carryOut_218 : decode cX6_carryOut 218 = .ok (.getfield 119, 3) := by decide +kernel
theorem dX6_carryOut_221 : decode cX6_carryOut 221 = .ok (.invokevirtual 148, 3) := by decide +kernel
theorem dX6_carryOut_224 : decode cX6_carryOut 224 = .ok (.goto 44, 3) := by decide +kernel
theorem dX6_carryOut_227 : decode cX6_carryOut 227 = .ok (.iconst 0, 1) := by decide +kernel
theorem dX6_carryOut_228 : decode cX6_carryOut 228 = .ok (.istore_n 3, 1) := by decide +kernel
theorem dX6_carryOut_229 : decode cX6_carryOut 229 = .ok (.iload_n 3, 1) := by decide +kernel
theorem dX6_carryOut_230 : decode cX6_carryOut 230 = .ok (.aload_n 1, 1) := by decide +kernel
theorem dX6_carryOut_231 : decode cX6_carryOut 231 = .ok (.getfield 116, 3) := by decide +kernel
theorem dX6_carryOut_234 : decode cX6_carryOut 234 = .ok (.if_icmp .ge 31, 3) := by decide +kernel
theorem dX6_carryOut_237 : decode cX6_carryOut 237 = .ok (.aload_n 0, 1) := by decide +kernel
theorem dX6_carryOut_238 : decode cX6_carryOut 238 = .ok (.dup, 1) := by decide +kernel
theorem dX6_carryOut_239 : decode cX6_carryOut 239 = .ok (.getfield 66, 3) := by decide +kernel
theorem dX6_carryOut_242 : decode cX6_carryOut 242 = .ok (.iconst 1, 1) := by decide +kernel
theorem dX6_carryOut_243 : decode cX6_carryOut 243 = .ok (.iadd, 1) := by decide +kernel
theorem dX6_carryOut_244 : decode cX6_carryOut 244 = .ok (.putfield 66, 3) := by decide +kernel
theorem dX6_carryOut_247 : decode cX6_carryOut 247 = .ok (.iload_n 2, 1) := by decide +kernel
theorem dX6_carryOut_248 : decode cX6_carryOut 248 = .ok (.aload_n 0, 1) := by decide +kernel
theorem dX6_carryOut_249 : decode cX6_carryOut 249 = .ok (.iconst 0, 1) := by decide +kernel
theorem dX6_carryOut_250 : decode cX6_carryOut 250 = .ok (.invokevirtual 151, 3) := by decide +kernel
theorem dX6_carryOut_253 : decode cX6_carryOut 253 = .ok (.iadd, 1) := by decide +kernel
theorem dX6_carryOut_254 : decode cX6_carryOut 254 = .ok (.istore_n 2, 1) := by decide +kernel
theorem dX6_carryOut_255 : decode cX6_carryOut 255 = .ok (.aload_n 0, 1) := by decide +kernel
theorem dX6_carryOut_256 : decode cX6_carryOut 256 = .ok (.invokevirtual 155, 3) := by decide +kernel
theorem dX6_carryOut_259 : decode cX6_carryOut 259 = .ok (.iinc 3 1, 3) := by decide +kernel
theorem dX6_carryOut_262 : decode cX6_carryOut 262 = .ok (.goto (-33), 3) := by decide +kernel
theorem dX6_carryOut_265 : decode cX6_carryOut 265 = .ok (.goto 3, 3) := by decide +kernel
theorem dX6_carryOut_268 : decode cX6_carryOut 268 = .ok (.aload_n 0, 1) := by decide +kernel
theorem dX6_carryOut_269 : decode cX6_carryOut 269 = .ok (.invokevirtual 155, 3) := by decide +kernel
theorem dX6_carryOut_272 : decode cX6_carryOut 272 = .ok (.iload_n 2, 1) := by decide +kernel
theorem dX6_carryOut_273 : decode cX6_carryOut 273 = .ok (.ireturn, 1) := by decide +kernel
theorem dX6_addChange_0 : decode cX6_addChange 0 = .ok (.aload_n 0, 1) := by decide +kernel
theorem dX6_addChange_1 : decode cX6_addChange 1 = .ok (.getfield 57, 3) := by decide +kernel
theorem dX6_addChange_4 : decode cX6_addChange 4 = .ok (.istore_n 1, 1) := by decide +kernel
theorem dX6_addChange_5 : decode cX6_addChange 5 = .ok (.aload_n 0, 1) := by decide +kernel
theorem dX6_addChange_6 : decode cX6_addChange 6 = .ok (.getfield 17, 3) := by decide +kernel
theorem dX6_addChange_9 : decode cX6_addChange 9 = .ok (.iload_n 1, 1) := by decide +kernel
theorem dX6_addChange_10 : decode cX6_addChange 10 = .ok (.aaload, 1) := by decide +kernel
theorem dX6_addChange_11 : decode cX6_addChange 11 = .ok (.aload_n 0, 1) := by decide +kernel
theorem dX6_addChange_12 : decode cX6_addChange 12 = .ok (.getfield 9, 3) := by decide +kernel
theorem dX6_addChange_15 : decode cX6_addChange 15 = .ok (.invokevirtual 158, 3) := by decide +kernel
theorem dX6_addChange_18 : decode cX6_addChange 18 = .ok (.aload_n 0, 1) := by decide +kernel
theorem dX6_addChange_19 : decode cX6_addChange 19 = .ok (.dup, 1) := by decide +kernel
theorem dX6_addChange_20 : decode cX6_addChange 20 = .ok (.getfield 57, 3) := by decide +kernel
theorem dX6_addChange_23 : decode cX6_addChange 23 = .ok (.iconst 1, 1) := by decide +kernel
theorem dX6_addChange_24 : decode cX6_addChange 24 = .ok (.iadd, 1) := by decide +kernel
theorem dX6_addChange_25 : decode cX6_addChange 25 = .ok (.putfield 57, 3) := by decide +kernel
theorem dX6_addChange_28 : decode cX6_addChange 28 = .ok (.iload_n 1, 1) := by decide +kernel
theorem dX6_addChange_29 : decode cX6_addChange 29 = .ok (.ireturn, 1) := by decide +kernel
theorem dX6_leaseNextJob_0 : decode cX6_leaseNextJob 0 = .ok (.aload_n 0, 1) := by decide +kernel
theorem dX6_leaseNextJob_1 : decode cX6_leaseNextJob 1 = .ok (.getfield 36, 3) := by decide +kernel
theorem dX6_leaseNextJob_4 : decode cX6_leaseNextJob 4 = .ok (.invokevirtual 105, 3) := by decide +kernel
theorem dX6_leaseNextJob_7 : decode cX6_leaseNextJob 7 = .ok (.istore_n 2, 1) := by decide +kernel
theorem dX6_leaseNextJob_8 : decode cX6_leaseNextJob 8 = .ok (.iload_n 2, 1) := by decide +kernel
theorem dX6_leaseNextJob_9 : decode cX6_leaseNextJob 9 = .ok (.iconst (-1), 1) := by decide +kernel
theorem dX6_leaseNextJob_10 : decode cX6_leaseNextJob 10 = .ok (.if_icmp .eq 24, 3) := by decide +kernel
theorem dX6_leaseNextJob_13 : decode cX6_leaseNextJob 13 = .ok (.aload_n 0, 1) := by decide +kernel
theorem dX6_leaseNextJob_14 : decode cX6_leaseNextJob 14 = .ok (.getfield 36, 3) := by decide +kernel
theorem dX6_leaseNextJob_17 : decode cX6_leaseNextJob 17 = .ok (.iload_n 2, 1) := by decide +kernel
theorem dX6_leaseNextJob_18 : decode cX6_leaseNextJob 18 = .ok (.iload_n 1, 1) := by decide +kernel
theorem dX6_leaseNextJob_19 : decode cX6_leaseNextJob 19 = .ok (.aload_n 0, 1) := by decide +kernel
theorem dX6_leaseNextJob_20 : decode cX6_leaseNextJob 20 = .ok (.getfield 66, 3) := by decide +kernel
theorem dX6_leaseNextJob_23 : decode cX6_leaseNextJob 23 = .ok (.aload_n 0, 1) := by decide +kernel
theorem dX6_leaseNextJob_24 : decode cX6_leaseNextJob 24 = .ok (.getfield 40, 3) := by decide +kernel
theorem dX6_leaseNextJob_27 : decode cX6_leaseNextJob 27 = .ok (.getfield 161, 3) := by decide +kernel
theorem dX6_leaseNextJob_30 : decode cX6_leaseNextJob 30 = .ok (.iadd, 1) := by decide +kernel
theorem dX6_leaseNextJob_31 : decode cX6_leaseNextJob 31 = .ok (.invokevirtual 164, 3) := by decide +kernel
theorem dX6_leaseNextJob_34 : decode cX6_leaseNextJob 34 = .ok (.iload_n 2, 1) := by decide +kernel
theorem dX6_leaseNextJob_35 : decode cX6_leaseNextJob 35 = .ok (.ireturn, 1) := by decide +kernel
theorem dX6_recover_0 : decode cX6_recover 0 = .ok (.aload_n 0, 1) := by decide +kernel
theorem dX6_recover_1 : decode cX6_recover 1 = .ok (.iconst 1, 1) := by decide +kernel
theorem dX6_recover_2 : decode cX6_recover 2 = .ok (.invokevirtual 151, 3) := by decide +kernel
theorem dX6_recover_5 : decode cX6_recover 5 = .ok (.pop, 1) := by decide +kernel
theorem dX6_recover_6 : decode cX6_recover 6 = .ok (.aload_n 0, 1) := by decide +kernel
theorem dX6_recover_7 : decode cX6_recover 7 = .ok (.invokevirtual 155, 3) := by decide +kernel
theorem dX6_recover_10 : decode cX6_recover 10 = .ok (.return_, 1) := by decide +kernel
theorem dX6_expireLeases_0 : decode cX6_expireLeases 0 = .ok (.iconst 0, 1) := by decide +kernel
theorem dX6_expireLeases_1 : decode cX6_expireLeases 1 = .ok (.istore_n 2, 1) := by decide +kernel
theorem dX6_expireLeases_2 : decode cX6_expireLeases 2 = .ok (.iconst 0, 1) := by decide +kernel
theorem dX6_expireLeases_3 : decode cX6_expireLeases 3 = .ok (.istore_n 3, 1) := by decide +kernel
theorem dX6_expireLeases_4 : decode cX6_expireLeases 4 = .ok (.iload_n 3, 1) := by decide +kernel
theorem dX6_expireLeases_5 : decode cX6_expireLeases 5 = .ok (.iconst 4, 1) := by decide +kernel
theorem dX6_expireLeases_6 : decode cX6_expireLeases 6 = .ok (.if_icmp .ge 70, 3) := by decide +kernel
theorem dX6_expireLeases_9 : decode cX6_expireLeases 9 = .ok (.aload_n 0, 1) := by decide +kernel
theorem dX6_expireLeases_10 : decode cX6_expireLeases 10 = .ok (.getfield 36, 3) := by decide +kernel
theorem dX6_expireLeases_13 : decode cX6_expireLeases 13 = .ok (.iload_n 3, 1) := by decide +kernel
theorem dX6_expireLeases_14 : decode cX6_expireLeases 14 = .ok (.invokevirtual 101, 3) := by decide +kernel
theorem dX6_expireLeases_17 : decode cX6_expireLeases 17 = .ok (.istore 4, 2) := by decide +kernel
theorem dX6_expireLeases_19 : decode cX6_expireLeases 19 = .ok (.iload 4, 2) := by decide +kernel
theorem dX6_expireLeases_21 : decode cX6_expireLeases 21 = .ok (.iconst (-1), 1) := by decide +kernel
theorem dX6_expireLeases_22 : decode cX6_expireLeases 22 = .ok (.if_icmp .eq 48, 3) := by decide +kernel
theorem dX6_expireLeases_25 : decode cX6_expireLeases 25 = .ok (.iload_n 1, 1) := by decide +kernel
theorem dX6_expireLeases_26 : decode cX6_expireLeases 26 = .ok (.ifCond .ne 19, 3) := by decide +kernel
theorem dX6_expireLeases_29 : decode cX6_expireLeases 29 = .ok (.aload_n 0, 1) := by decide +kernel
theorem dX6_expireLeases_30 : decode cX6_expireLeases 30 = .ok (.getfield 36, 3) := by decide +kernel
theorem dX6_expireLeases_33 : decode cX6_expireLeases 33 = .ok (.getfield 168, 3) := by decide +kernel
theorem dX6_expireLeases_36 : decode cX6_expireLeases 36 = .ok (.iload_n 3, 1) := by decide +kernel
theorem dX6_expireLeases_37 : decode cX6_expireLeases 37 = .ok (.iaload, 1) := by decide +kernel
theorem dX6_expireLeases_38 : decode cX6_expireLeases 38 = .ok (.aload_n 0, 1) := by decide +kernel
theorem dX6_expireLeases_39 : decode cX6_expireLeases 39 = .ok (.getfield 66, 3) := by decide +kernel
theorem dX6_expireLeases_42 : decode cX6_expireLeases 42 = .ok (.if_icmp .ne 28, 3) := by decide +kernel
theorem dX6_expireLeases_45 : decode cX6_expireLeases 45 = .ok (.aload_n 0, 1) := by decide +kernel
theorem dX6_expireLeases_46 : decode cX6_expireLeases 46 = .ok (.getfield 36, 3) := by decide +kernel
theorem dX6_expireLeases_49 : decode cX6_expireLeases 49 = .ok (.iload 4, 2) := by decide +kernel
theorem dX6_expireLeases_51 : decode cX6_expireLeases 51 = .ok (.aload_n 0, 1) := by decide +kernel
theorem dX6_expireLeases_52 : decode cX6_expireLeases 52 = .ok (.getfield 40, 3) := by decide +kernel
theorem dX6_expireLeases_55 : decode cX6_expireLeases 55 = .ok (.getfield 171, 3) := by decide +kernel
theorem dX6_expireLeases_58 : decode cX6_expireLeases 58 = .ok (.iconst 1, 1) := by decide +kernel
theorem dX6_expireLeases_59 : decode cX6_expireLeases 59 = .ok (.iadd, 1) := by decide +kernel
theorem dX6_expireLeases_60 : decode cX6_expireLeases 60 = .ok (.invokevirtual 174, 3) := by decide +kernel
theorem dX6_expireLeases_63 : decode cX6_expireLeases 63 = .ok (.aload_n 0, 1) := by decide +kernel
theorem dX6_expireLeases_64 : decode cX6_expireLeases 64 = .ok (.invokevirtual 177, 3) := by decide +kernel
theorem dX6_expireLeases_67 : decode cX6_expireLeases 67 = .ok (.iinc 2 1, 3) := by decide +kernel
theorem dX6_expireLeases_70 : decode cX6_expireLeases 70 = .ok (.iinc 3 1, 3) := by decide +kernel
theorem dX6_expireLeases_73 : decode cX6_expireLeases 73 = .ok (.goto (-69), 3) := by decide +kernel
theorem dX6_expireLeases_76 : decode cX6_expireLeases 76 = .ok (.iload_n 2, 1) := by decide +kernel
theorem dX6_expireLeases_77 : decode cX6_expireLeases 77 = .ok (.ireturn, 1) := by decide +kernel
theorem dX6_endJob_0 : decode cX6_endJob 0 = .ok (.iload_n 1, 1) := by decide +kernel
theorem dX6_endJob_1 : decode cX6_endJob 1 = .ok (.iconst (-1), 1) := by decide +kernel
theorem dX6_endJob_2 : decode cX6_endJob 2 = .ok (.if_icmp .ne 4, 3) := by decide +kernel
theorem dX6_endJob_5 : decode cX6_endJob 5 = .ok (.return_, 1) := by decide +kernel
theorem dX6_endJob_6 : decode cX6_endJob 6 = .ok (.iload_n 2, 1) := by decide +kernel
theorem dX6_endJob_7 : decode cX6_endJob 7 = .ok (.iconst 2, 1) := by decide +kernel
theorem dX6_endJob_8 : decode cX6_endJob 8 = .ok (.if_icmp .ne 16, 3) := by decide +kernel
theorem dX6_endJob_11 : decode cX6_endJob 11 = .ok (.aload_n 0, 1) := by decide +kernel
theorem dX6_endJob_12 : decode cX6_endJob 12 = .ok (.getfield 36, 3) := by decide +kernel
theorem dX6_endJob_15 : decode cX6_endJob 15 = .ok (.getfield 180, 3) := by decide +kernel
theorem dX6_endJob_18 : decode cX6_endJob 18 = .ok (.iload_n 1, 1) := by decide +kernel
theorem dX6_endJob_19 : decode cX6_endJob 19 = .ok (.iconst 2, 1) := by decide +kernel
theorem dX6_endJob_20 : decode cX6_endJob 20 = .ok (.iastore, 1) := by decide +kernel
theorem dX6_endJob_21 : decode cX6_endJob 21 = .ok (.goto 11, 3) := by decide +kernel
theorem dX6_endJob_24 : decode cX6_endJob 24 = .ok (.aload_n 0, 1) := by decide +kernel
theorem dX6_endJob_25 : decode cX6_endJob 25 = .ok (.getfield 36, 3) := by decide +kernel
theorem dX6_endJob_28 : decode cX6_endJob 28 = .ok (.iload_n 1, 1) := by decide +kernel
theorem dX6_endJob_29 : decode cX6_endJob 29 = .ok (.invokevirtual 183, 3) := by decide +kernel
theorem dX6_endJob_32 : decode cX6_endJob 32 = .ok (.aload_n 0, 1) := by decide +kernel
theorem dX6_endJob_33 : decode cX6_endJob 33 = .ok (.invokevirtual 177, 3) := by decide +kernel
theorem dX6_endJob_36 : decode cX6_endJob 36 = .ok (.return_, 1) := by decide +kernel
theorem dX6_judgeBatch_0 : decode cX6_judgeBatch 0 = .ok (.aload_n 0, 1) := by decide +kernel
theorem dX6_judgeBatch_1 : decode cX6_judgeBatch 1 = .ok (.getfield 36, 3) := by decide +kernel
theorem dX6_judgeBatch_4 : decode cX6_judgeBatch 4 = .ok (.invokevirtual 186, 3) := by decide +kernel
theorem dX6_judgeBatch_7 : decode cX6_judgeBatch 7 = .ok (.istore_n 1, 1) := by decide +kernel
theorem dX6_judgeBatch_8 : decode cX6_judgeBatch 8 = .ok (.iload_n 1, 1) := by decide +kernel
theorem dX6_judgeBatch_9 : decode cX6_judgeBatch 9 = .ok (.iconst (-1), 1) := by decide +kernel
theorem dX6_judgeBatch_10 : decode cX6_judgeBatch 10 = .ok (.if_icmp .eq 21, 3) := by decide +kernel
theorem dX6_judgeBatch_13 : decode cX6_judgeBatch 13 = .ok (.aload_n 0, 1) := by decide +kernel
theorem dX6_judgeBatch_14 : decode cX6_judgeBatch 14 = .ok (.aload_n 0, 1) := by decide +kernel
theorem dX6_judgeBatch_15 : decode cX6_judgeBatch 15 = .ok (.getfield 36, 3) := by decide +kernel
theorem dX6_judgeBatch_18 : decode cX6_judgeBatch 18 = .ok (.getfield 189, 3) := by decide +kernel
theorem dX6_judgeBatch_21 : decode cX6_judgeBatch 21 = .ok (.bipush 10, 2) := by decide +kernel
theorem dX6_judgeBatch_23 : decode cX6_judgeBatch 23 = .ok (.iload_n 1, 1) := by decide +kernel
theorem dX6_judgeBatch_24 : decode cX6_judgeBatch 24 = .ok (.iadd, 1) := by decide +kernel
theorem dX6_judgeBatch_25 : decode cX6_judgeBatch 25 = .ok (.invokevirtual 192, 3) := by decide +kernel
theorem dX6_judgeBatch_28 : decode cX6_judgeBatch 28 = .ok (.goto 17, 3) := by decide +kernel
theorem dX6_judgeBatch_31 : decode cX6_judgeBatch 31 = .ok (.aload_n 0, 1) := by decide +kernel
theorem dX6_judgeBatch_32 : decode cX6_judgeBatch 32 = .ok (.getfield 36, 3) := by decide +kernel
theorem dX6_judgeBatch_35 : decode cX6_judgeBatch 35 = .ok (.invokevirtual 195, 3) := by decide +kernel
theorem dX6_judgeBatch_38 : decode cX6_judgeBatch 38 = .ok (.ifCond .eq 7, 3) := by decide +kernel
theorem dX6_judgeBatch_41 : decode cX6_judgeBatch 41 = .ok (.aload_n 0, 1) := by decide +kernel
theorem dX6_judgeBatch_42 : decode cX6_judgeBatch 42 = .ok (.invokevirtual 199, 3) := by decide +kernel
theorem dX6_judgeBatch_45 : decode cX6_judgeBatch 45 = .ok (.return_, 1) := by decide +kernel
theorem dX6_passBatch_0 : decode cX6_passBatch 0 = .ok (.aload_n 0, 1) := by decide +kernel
theorem dX6_passBatch_1 : decode cX6_passBatch 1 = .ok (.getfield 36, 3) := by decide +kernel
theorem dX6_passBatch_4 : decode cX6_passBatch 4 = .ok (.getfield 202, 3) := by decide +kernel
theorem dX6_passBatch_7 : decode cX6_passBatch 7 = .ok (.aload_n 0, 1) := by decide +kernel
theorem dX6_passBatch_8 : decode cX6_passBatch 8 = .ok (.getfield 9, 3) := by decide +kernel
theorem dX6_passBatch_11 : decode cX6_passBatch 11 = .ok (.invokestatic 45, 3) := by decide +kernel
theorem dX6_passBatch_14 : decode cX6_passBatch 14 = .ok (.aload_n 0, 1) := by decide +kernel
theorem dX6_passBatch_15 : decode cX6_passBatch 15 = .ok (.dup, 1) := by decide +kernel
theorem dX6_passBatch_16 : decode cX6_passBatch 16 = .ok (.getfield 49, 3) := by decide +kernel
theorem dX6_passBatch_19 : decode cX6_passBatch 19 = .ok (.iconst 1, 1) := by decide +kernel
theorem dX6_passBatch_20 : decode cX6_passBatch 20 = .ok (.iadd, 1) := by decide +kernel
theorem dX6_passBatch_21 : decode cX6_passBatch 21 = .ok (.putfield 49, 3) := by decide +kernel
theorem dX6_passBatch_24 : decode cX6_passBatch 24 = .ok (.iconst 0, 1) := by decide +kernel
theorem dX6_passBatch_25 : decode cX6_passBatch 25 = .ok (.istore_n 1, 1) := by decide +kernel
theorem dX6_passBatch_26 : decode cX6_passBatch 26 = .ok (.iload_n 1, 1) := by decide +kernel
theorem dX6_passBatch_27 : decode cX6_passBatch 27 = .ok (.aload_n 0, 1) := by decide +kernel
theorem dX6_passBatch_28 : decode cX6_passBatch 28 = .ok (.getfield 36, 3) := by decide +kernel
theorem dX6_passBatch_31 : decode cX6_passBatch 31 = .ok (.getfield 189, 3) := by decide +kernel
theorem dX6_passBatch_34 : decode cX6_passBatch 34 = .ok (.if_icmp .ge 16, 3) := by decide +kernel
theorem dX6_passBatch_37 : decode cX6_passBatch 37 = .ok (.aload_n 0, 1) := by decide +kernel
theorem dX6_passBatch_38 : decode cX6_passBatch 38 = .ok (.iconst 0, 1) := by decide +kernel
theorem dX6_passBatch_39 : decode cX6_passBatch 39 = .ok (.iconst 2, 1) := by decide +kernel
theorem dX6_passBatch_40 : decode cX6_passBatch 40 = .ok (.iconst 0, 1) := by decide +kernel
theorem dX6_passBatch_41 : decode cX6_passBatch 41 = .ok (.invokevirtual 205, 3) := by decide +kernel
theorem dX6_passBatch_44 : decode cX6_passBatch 44 = .ok (.iinc 1 1, 3) := by decide +kernel
theorem dX6_passBatch_47 : decode cX6_passBatch 47 = .ok (.goto (-21), 3) := by decide +kernel
theorem dX6_passBatch_50 : decode cX6_passBatch 50 = .ok (.aload_n 0, 1) := by decide +kernel
theorem dX6_passBatch_51 : decode cX6_passBatch 51 = .ok (.getfield 30, 3) := by decide +kernel
theorem dX6_passBatch_54 : decode cX6_passBatch 54 = .ok (.iconst 0, 1) := by decide +kernel
theorem dX6_passBatch_55 : decode cX6_passBatch 55 = .ok (.invokevirtual 208, 3) := by decide +kernel
theorem dX6_passBatch_58 : decode cX6_passBatch 58 = .ok (.aload_n 0, 1) := by decide +kernel
theorem dX6_passBatch_59 : decode cX6_passBatch 59 = .ok (.getfield 36, 3) := by decide +kernel
theorem dX6_passBatch_62 : decode cX6_passBatch 62 = .ok (.invokevirtual 211, 3) := by decide +kernel
theorem dX6_passBatch_65 : decode cX6_passBatch 65 = .ok (.return_, 1) := by decide +kernel
theorem dX6_failBatch_0 : decode cX6_failBatch 0 = .ok (.aload_n 0, 1) := by decide +kernel
theorem dX6_failBatch_1 : decode cX6_failBatch 1 = .ok (.getfield 36, 3) := by decide +kernel
theorem dX6_failBatch_4 : decode cX6_failBatch 4 = .ok (.invokevirtual 211, 3) := by decide +kernel
theorem dX6_failBatch_7 : decode cX6_failBatch 7 = .ok (.iload_n 1, 1) := by decide +kernel
theorem dX6_failBatch_8 : decode cX6_failBatch 8 = .ok (.iconst 1, 1) := by decide +kernel
theorem dX6_failBatch_9 : decode cX6_failBatch 9 = .ok (.if_icmp .ne 21, 3) := by decide +kernel
theorem dX6_failBatch_12 : decode cX6_failBatch 12 = .ok (.aload_n 0, 1) := by decide +kernel
theorem dX6_failBatch_13 : decode cX6_failBatch 13 = .ok (.iconst 0, 1) := by decide +kernel
theorem dX6_failBatch_14 : decode cX6_failBatch 14 = .ok (.iconst 3, 1) := by decide +kernel
theorem dX6_failBatch_15 : decode cX6_failBatch 15 = .ok (.iload_n 2, 1) := by decide +kernel
theorem dX6_failBatch_16 : decode cX6_failBatch 16 = .ok (.invokevirtual 205, 3) := by decide +kernel
theorem dX6_failBatch_19 : decode cX6_failBatch 19 = .ok (.aload_n 0, 1) := by decide +kernel
theorem dX6_failBatch_20 : decode cX6_failBatch 20 = .ok (.getfield 30, 3) := by decide +kernel
theorem dX6_failBatch_23 : decode cX6_failBatch 23 = .ok (.iconst 0, 1) := by decide +kernel
theorem dX6_failBatch_24 : decode cX6_failBatch 24 = .ok (.invokevirtual 208, 3) := by decide +kernel
theorem dX6_failBatch_27 : decode cX6_failBatch 27 = .ok (.goto 26, 3) := by decide +kernel
theorem dX6_failBatch_30 : decode cX6_failBatch 30 = .ok (.aload_n 0, 1) := by decide +kernel
theorem dX6_failBatch_31 : decode cX6_failBatch 31 = .ok (.getfield 30, 3) := by decide +kernel
theorem dX6_failBatch_34 : decode cX6_failBatch 34 = .ok (.iload_n 1, 1) := by decide +kernel
theorem dX6_failBatch_35 : decode cX6_failBatch 35 = .ok (.iconst 2, 1) := by decide +kernel
theorem dX6_failBatch_36 : decode cX6_failBatch 36 = .ok (.idiv, 1) := by decide +kernel
theorem dX6_failBatch_37 : decode cX6_failBatch 37 = .ok (.invokevirtual 214, 3) := by decide +kernel
theorem dX6_failBatch_40 : decode cX6_failBatch 40 = .ok (.aload_n 0, 1) := by decide +kernel
theorem dX6_failBatch_41 : decode cX6_failBatch 41 = .ok (.getfield 30, 3) := by decide +kernel
theorem dX6_failBatch_44 : decode cX6_failBatch 44 = .ok (.iconst 0, 1) := by decide +kernel
theorem dX6_failBatch_45 : decode cX6_failBatch 45 = .ok (.iload_n 1, 1) := by decide +kernel
theorem dX6_failBatch_46 : decode cX6_failBatch 46 = .ok (.iconst 1, 1) := by decide +kernel
theorem dX6_failBatch_47 : decode cX6_failBatch 47 = .ok (.iadd, 1) := by decide +kernel
theorem dX6_failBatch_48 : decode cX6_failBatch 48 = .ok (.iconst 2, 1) := by decide +kernel
theorem dX6_failBatch_49 : decode cX6_failBatch 49 = .ok (.idiv, 1) := by decide +kernel
theorem dX6_failBatch_50 : decode cX6_failBatch 50 = .ok (.invokevirtual 217, 3) := by decide +kernel
theorem dX6_failBatch_53 : decode cX6_failBatch 53 = .ok (.return_, 1) := by decide +kernel
theorem dX6_takeFromQueue_0 : decode cX6_takeFromQueue 0 = .ok (.aload_n 0, 1) := by decide +kernel
theorem dX6_takeFromQueue_1 : decode cX6_takeFromQueue 1 = .ok (.getfield 26, 3) := by decide +kernel
theorem dX6_takeFromQueue_4 : decode cX6_takeFromQueue 4 = .ok (.iload_n 1, 1) := by decide +kernel
theorem dX6_takeFromQueue_5 : decode cX6_takeFromQueue 5 = .ok (.invokevirtual 220, 3) := by decide +kernel
theorem dX6_takeFromQueue_8 : decode cX6_takeFromQueue 8 = .ok (.istore 4, 2) := by decide +kernel
theorem dX6_takeFromQueue_10 : decode cX6_takeFromQueue 10 = .ok (.aload_n 0, 1) := by decide +kernel
theorem dX6_takeFromQueue_11 : decode cX6_takeFromQueue 11 = .ok (.iload 4, 2) := by decide +kernel
theorem dX6_takeFromQueue_13 : decode cX6_takeFromQueue 13 = .ok (.invokevirtual 69, 3) := by decide +kernel
theorem dX6_takeFromQueue_16 : decode cX6_takeFromQueue 16 = .ok (.ifCond .eq 23, 3) := by decide +kernel
theorem dX6_takeFromQueue_19 : decode cX6_takeFromQueue 19 = .ok (.aload_n 0, 1) := by decide +kernel
theorem dX6_takeFromQueue_20 : decode cX6_takeFromQueue 20 = .ok (.getfield 17, 3) := by decide +kernel
theorem dX6_takeFromQueue_23 : decode cX6_takeFromQueue 23 = .ok (.iload 4, 2) := by decide +kernel
theorem dX6_takeFromQueue_25 : decode cX6_takeFromQueue 25 = .ok (.aaload, 1) := by decide +kernel
theorem dX6_takeFromQueue_26 : decode cX6_takeFromQueue 26 = .ok (.iload_n 2, 1) := by decide +kernel
theorem dX6_takeFromQueue_27 : decode cX6_takeFromQueue 27 = .ok (.iload_n 3, 1) := by decide +kernel
theorem dX6_takeFromQueue_28 : decode cX6_takeFromQueue 28 = .ok (.invokevirtual 135, 3) := by decide +kernel
theorem dX6_takeFromQueue_31 : decode cX6_takeFromQueue 31 = .ok (.aload_n 0, 1) := by decide +kernel
theorem dX6_takeFromQueue_32 : decode cX6_takeFromQueue 32 = .ok (.getfield 26, 3) := by decide +kernel
theorem dX6_takeFromQueue_35 : decode cX6_takeFromQueue 35 = .ok (.iload_n 1, 1) := by decide +kernel
theorem dX6_takeFromQueue_36 : decode cX6_takeFromQueue 36 = .ok (.invokevirtual 208, 3) := by decide +kernel
theorem dX6_takeFromQueue_39 : decode cX6_takeFromQueue 39 = .ok (.return_, 1) := by decide +kernel
theorem dX6_buildBatches_0 : decode cX6_buildBatches 0 = .ok (.iconst 0, 1) := by decide +kernel
theorem dX6_buildBatches_1 : decode cX6_buildBatches 1 = .ok (.istore_n 1, 1) := by decide +kernel
theorem dX6_buildBatches_2 : decode cX6_buildBatches 2 = .ok (.iload_n 1, 1) := by decide +kernel
theorem dX6_buildBatches_3 : decode cX6_buildBatches 3 = .ok (.ldc 223, 2) := by decide +kernel
theorem dX6_buildBatches_5 : decode cX6_buildBatches 5 = .ok (.if_icmp .ge 33, 3) := by decide +kernel
theorem dX6_buildBatches_8 : decode cX6_buildBatches 8 = .ok (.aload_n 0, 1) := by decide +kernel
theorem dX6_buildBatches_9 : decode cX6_buildBatches 9 = .ok (.getfield 36, 3) := by decide +kernel
theorem dX6_buildBatches_12 : decode cX6_buildBatches 12 = .ok (.invokevirtual 224, 3) := by decide +kernel
theorem dX6_buildBatches_15 : decode cX6_buildBatches 15 = .ok (.ifCond .ne 23, 3) := by decide +kernel
theorem dX6_buildBatches_18 : decode cX6_buildBatches 18 = .ok (.aload_n 0, 1) := by decide +kernel
theorem dX6_buildBatches_19 : decode cX6_buildBatches 19 = .ok (.getfield 26, 3) := by decide +kernel
theorem dX6_buildBatches_22 : decode cX6_buildBatches 22 = .ok (.getfield 227, 3) := by decide +kernel
theorem dX6_buildBatches_25 : decode cX6_buildBatches 25 = .ok (.ifCond .le 13, 3) := by decide +kernel
theorem dX6_buildBatches_28 : decode cX6_buildBatches 28 = .ok (.aload_n 0, 1) := by decide +kernel
theorem dX6_buildBatches_29 : decode cX6_buildBatches 29 = .ok (.invokevirtual 230, 3) := by decide +kernel
theorem dX6_buildBatches_32 : decode cX6_buildBatches 32 = .ok (.iinc 1 1, 3) := by decide +kernel
theorem dX6_buildBatches_35 : decode cX6_buildBatches 35 = .ok (.goto (-33), 3) := by decide +kernel
theorem dX6_buildBatches_38 : decode cX6_buildBatches 38 = .ok (.return_, 1) := by decide +kernel
theorem dX6_buildBatch_0 : decode cX6_buildBatch 0 = .ok (.aload_n 0, 1) := by decide +kernel
theorem dX6_buildBatch_1 : decode cX6_buildBatch 1 = .ok (.getfield 30, 3) := by decide +kernel
theorem dX6_buildBatch_4 : decode cX6_buildBatch 4 = .ok (.getfield 227, 3) := by decide +kernel
theorem dX6_buildBatch_7 : decode cX6_buildBatch 7 = .ok (.ifCond .ne 27, 3) := by decide +kernel
theorem dX6_buildBatch_10 : decode cX6_buildBatch 10 = .ok (.aload_n 0, 1) := by decide +kernel
theorem dX6_buildBatch_11 : decode cX6_buildBatch 11 = .ok (.getfield 30, 3) := by decide +kernel
theorem dX6_buildBatch_14 : decode cX6_buildBatch 14 = .ok (.aload_n 0, 1) := by decide +kernel
theorem dX6_buildBatch_15 : decode cX6_buildBatch 15 = .ok (.getfield 40, 3) := by decide +kernel
theorem dX6_buildBatch_18 : decode cX6_buildBatch 18 = .ok (.getfield 233, 3) := by decide +kernel
theorem dX6_buildBatch_21 : decode cX6_buildBatch 21 = .ok (.aload_n 0, 1) := by decide +kernel
theorem dX6_buildBatch_22 : decode cX6_buildBatch 22 = .ok (.getfield 26, 3) := by decide +kernel
theorem dX6_buildBatch_25 : decode cX6_buildBatch 25 = .ok (.getfield 227, 3) := by decide +kernel
theorem dX6_buildBatch_28 : decode cX6_buildBatch 28 = .ok (.invokestatic 236, 3) := by decide +kernel
theorem dX6_buildBatch_31 : decode cX6_buildBatch 31 = .ok (.invokevirtual 138, 3) := by decide +kernel
theorem dX6_buildBatch_34 : decode cX6_buildBatch 34 = .ok (.aload_n 0, 1) := by decide +kernel
theorem dX6_buildBatch_35 : decode cX6_buildBatch 35 = .ok (.aload_n 0, 1) := by decide +kernel
theorem dX6_buildBatch_36 : decode cX6_buildBatch 36 = .ok (.getfield 30, 3) := by decide +kernel
theorem dX6_buildBatch_39 : decode cX6_buildBatch 39 = .ok (.iconst 0, 1) := by decide +kernel
theorem dX6_buildBatch_40 : decode cX6_buildBatch 40 = .ok (.invokevirtual 220, 3) := by decide +kernel
theorem dX6_buildBatch_43 : decode cX6_buildBatch 43 = .ok (.invokevirtual 242, 3) := by decide +kernel
theorem dX6_buildBatch_46 : decode cX6_buildBatch 46 = .ok (.istore_n 1, 1) := by decide +kernel
theorem dX6_buildBatch_47 : decode cX6_buildBatch 47 = .ok (.iload_n 1, 1) := by decide +kernel
theorem dX6_buildBatch_48 : decode cX6_buildBatch 48 = .ok (.ifCond .ne 12, 3) := by decide +kernel
theorem dX6_buildBatch_51 : decode cX6_buildBatch 51 = .ok (.aload_n 0, 1) := by decide +kernel
theorem dX6_buildBatch_52 : decode cX6_buildBatch 52 = .ok (.getfield 30, 3) := by decide +kernel
theorem dX6_buildBatch_55 : decode cX6_buildBatch 55 = .ok (.iconst 0, 1) := by decide +kernel
theorem dX6_buildBatch_56 : decode cX6_buildBatch 56 = .ok (.invokevirtual 208, 3) := by decide +kernel
theorem dX6_buildBatch_59 : decode cX6_buildBatch 59 = .ok (.return_, 1) := by decide +kernel
theorem dX6_buildBatch_60 : decode cX6_buildBatch 60 = .ok (.aload_n 0, 1) := by decide +kernel
theorem dX6_buildBatch_61 : decode cX6_buildBatch 61 = .ok (.getfield 30, 3) := by decide +kernel
theorem dX6_buildBatch_64 : decode cX6_buildBatch 64 = .ok (.iload_n 1, 1) := by decide +kernel
theorem dX6_buildBatch_65 : decode cX6_buildBatch 65 = .ok (.invokevirtual 214, 3) := by decide +kernel
theorem dX6_buildBatch_68 : decode cX6_buildBatch 68 = .ok (.aload_n 0, 1) := by decide +kernel
theorem dX6_buildBatch_69 : decode cX6_buildBatch 69 = .ok (.getfield 36, 3) := by decide +kernel
theorem dX6_buildBatch_72 : decode cX6_buildBatch 72 = .ok (.invokevirtual 245, 3) := by decide +kernel
theorem dX6_buildBatch_75 : decode cX6_buildBatch 75 = .ok (.invokestatic 248, 3) := by decide +kernel
theorem dX6_buildBatch_78 : decode cX6_buildBatch 78 = .ok (.ifCond .eq 14, 3) := by decide +kernel
theorem dX6_buildBatch_81 : decode cX6_buildBatch 81 = .ok (.aload_n 0, 1) := by decide +kernel
theorem dX6_buildBatch_82 : decode cX6_buildBatch 82 = .ok (.getfield 36, 3) := by decide +kernel
theorem dX6_buildBatch_85 : decode cX6_buildBatch 85 = .ok (.iload_n 1, 1) := by decide +kernel
theorem dX6_buildBatch_86 : decode cX6_buildBatch 86 = .ok (.invokevirtual 253, 3) := by decide +kernel
theorem dX6_buildBatch_89 : decode cX6_buildBatch 89 = .ok (.goto 9, 3) := by decide +kernel
theorem dX6_buildBatch_92 : decode cX6_buildBatch 92 = .ok (.aload_n 0, 1) := by decide +kernel
theorem dX6_buildBatch_93 : decode cX6_buildBatch 93 = .ok (.iload_n 1, 1) := by decide +kernel
theorem dX6_buildBatch_94 : decode cX6_buildBatch 94 = .ok (.iconst 2, 1) := by decide +kernel
theorem dX6_buildBatch_95 : decode cX6_buildBatch 95 = .ok (.invokevirtual 192, 3) := by decide +kernel
theorem dX6_buildBatch_98 : decode cX6_buildBatch 98 = .ok (.return_, 1) := by decide +kernel
theorem dX6_mergeFirst_0 : decode cX6_mergeFirst 0 = .ok (.aload_n 0, 1) := by decide +kernel
theorem dX6_mergeFirst_1 : decode cX6_mergeFirst 1 = .ok (.getfield 9, 3) := by decide +kernel
theorem dX6_mergeFirst_4 : decode cX6_mergeFirst 4 = .ok (.aload_n 0, 1) := by decide +kernel
theorem dX6_mergeFirst_5 : decode cX6_mergeFirst 5 = .ok (.getfield 36, 3) := by decide +kernel
theorem dX6_mergeFirst_8 : decode cX6_mergeFirst 8 = .ok (.getfield 202, 3) := by decide +kernel
theorem dX6_mergeFirst_11 : decode cX6_mergeFirst 11 = .ok (.invokestatic 45, 3) := by decide +kernel
theorem dX6_mergeFirst_14 : decode cX6_mergeFirst 14 = .ok (.iconst 0, 1) := by decide +kernel
theorem dX6_mergeFirst_15 : decode cX6_mergeFirst 15 = .ok (.istore_n 2, 1) := by decide +kernel
theorem dX6_mergeFirst_16 : decode cX6_mergeFirst 16 = .ok (.iconst 0, 1) := by decide +kernel
theorem dX6_mergeFirst_17 : decode cX6_mergeFirst 17 = .ok (.istore_n 3, 1) := by decide +kernel
theorem dX6_mergeFirst_18 : decode cX6_mergeFirst 18 = .ok (.iload_n 3, 1) := by decide +kernel
theorem dX6_mergeFirst_19 : decode cX6_mergeFirst 19 = .ok (.iload_n 1, 1) := by decide +kernel
theorem dX6_mergeFirst_20 : decode cX6_mergeFirst 20 = .ok (.if_icmp .ge 75, 3) := by decide +kernel
theorem dX6_mergeFirst_23 : decode cX6_mergeFirst 23 = .ok (.iload_n 2, 1) := by decide +kernel
theorem dX6_mergeFirst_24 : decode cX6_mergeFirst 24 = .ok (.aload_n 0, 1) := by decide +kernel
theorem dX6_mergeFirst_25 : decode cX6_mergeFirst 25 = .ok (.getfield 26, 3) := by decide +kernel
theorem dX6_mergeFirst_28 : decode cX6_mergeFirst 28 = .ok (.getfield 227, 3) := by decide +kernel
theorem dX6_mergeFirst_31 : decode cX6_mergeFirst 31 = .ok (.if_icmp .ge 64, 3) := by decide +kernel
theorem dX6_mergeFirst_34 : decode cX6_mergeFirst 34 = .ok (.aload_n 0, 1) := by decide +kernel
theorem dX6_mergeFirst_35 : decode cX6_mergeFirst 35 = .ok (.getfield 17, 3) := by decide +kernel
theorem dX6_mergeFirst_38 : decode cX6_mergeFirst 38 = .ok (.aload_n 0, 1) := by decide +kernel
theorem dX6_mergeFirst_39 : decode cX6_mergeFirst 39 = .ok (.getfield 26, 3) := by decide +kernel
theorem dX6_mergeFirst_42 : decode cX6_mergeFirst 42 = .ok (.iload_n 2, 1) := by decide +kernel
theorem dX6_mergeFirst_43 : decode cX6_mergeFirst 43 = .ok (.invokevirtual 220, 3) := by decide +kernel
theorem dX6_mergeFirst_46 : decode cX6_mergeFirst 46 = .ok (.aaload, 1) := by decide +kernel
theorem dX6_mergeFirst_47 : decode cX6_mergeFirst 47 = .ok (.astore 4, 2) := by decide +kernel
theorem dX6_mergeFirst_49 : decode cX6_mergeFirst 49 = .ok (.aload 4, 2) := by decide +kernel
theorem dX6_mergeFirst_51 : decode cX6_mergeFirst 51 = .ok (.aload_n 0, 1) := by decide +kernel
theorem dX6_mergeFirst_52 : decode cX6_mergeFirst 52 = .ok (.getfield 36, 3) := by decide +kernel
theorem dX6_mergeFirst_55 : decode cX6_mergeFirst 55 = .ok (.getfield 202, 3) := by decide +kernel
theorem dX6_mergeFirst_58 : decode cX6_mergeFirst 58 = .ok (.invokevirtual 94, 3) := by decide +kernel
theorem dX6_mergeFirst_61 : decode cX6_mergeFirst 61 = .ok (.ifCond .eq 13, 3) := by decide +kernel
theorem dX6_mergeFirst_64 : decode cX6_mergeFirst 64 = .ok (.aload_n 0, 1) := by decide +kernel
theorem dX6_mergeFirst_65 : decode cX6_mergeFirst 65 = .ok (.iload_n 2, 1) := by decide +kernel
theorem dX6_mergeFirst_66 : decode cX6_mergeFirst 66 = .ok (.iconst 3, 1) := by decide +kernel
theorem dX6_mergeFirst_67 : decode cX6_mergeFirst 67 = .ok (.iconst 1, 1) := by decide +kernel
theorem dX6_mergeFirst_68 : decode cX6_mergeFirst 68 = .ok (.invokevirtual 205, 3) := by decide +kernel
theorem dX6_mergeFirst_71 : decode cX6_mergeFirst 71 = .ok (.goto 18, 3) := by decide +kernel
theorem dX6_mergeFirst_74 : decode cX6_mergeFirst 74 = .ok (.aload 4, 2) := by decide +kernel
theorem dX6_mergeFirst_76 : decode cX6_mergeFirst 76 = .ok (.aload_n 0, 1) := by decide +kernel
theorem dX6_mergeFirst_77 : decode cX6_mergeFirst 77 = .ok (.getfield 36, 3) := by decide +kernel
theorem dX6_mergeFirst_80 : decode cX6_mergeFirst 80 = .ok (.getfield 202, 3) := by decide +kernel
theorem dX6_mergeFirst_83 : decode cX6_mergeFirst 83 = .ok (.invokevirtual 256, 3) := by decide +kernel
theorem dX6_mergeFirst_86 : decode cX6_mergeFirst 86 = .ok (.iinc 2 1, 3) := by decide +kernel
theorem dX6_mergeFirst_89 : decode cX6_mergeFirst 89 = .ok (.iinc 3 1, 3) := by decide +kernel
theorem dX6_mergeFirst_92 : decode cX6_mergeFirst 92 = .ok (.goto (-74), 3) := by decide +kernel
theorem dX6_mergeFirst_95 : decode cX6_mergeFirst 95 = .ok (.iload_n 2, 1) := by decide +kernel
theorem dX6_mergeFirst_96 : decode cX6_mergeFirst 96 = .ok (.ireturn, 1) := by decide +kernel
theorem dX7_init_0 : decode cX7_init 0 = .ok (.aload_n 0, 1) := by decide +kernel
theorem dX7_init_1 : decode cX7_init 1 = .ok (.invokespecial 1, 3) := by decide +kernel
theorem dX7_init_4 : decode cX7_init 4 = .ok (.new 7, 3) := by decide +kernel
theorem dX7_init_7 : decode cX7_init 7 = .ok (.dup, 1) := by decide +kernel
theorem dX7_init_8 : decode cX7_init 8 = .ok (.invokespecial 9, 3) := by decide +kernel
theorem dX7_init_11 : decode cX7_init 11 = .ok (.astore 5, 2) := by decide +kernel
theorem dX7_init_13 : decode cX7_init 13 = .ok (.aload 5, 2) := by decide +kernel
theorem dX7_init_15 : decode cX7_init 15 = .ok (.iload_n 1, 1) := by decide +kernel
theorem dX7_init_16 : decode cX7_init 16 = .ok (.iconst 0, 1) := by decide +kernel
theorem dX7_init_17 : decode cX7_init 17 = .ok (.iconst 3, 1) := by decide +kernel
theorem dX7_init_18 : decode cX7_init 18 = .ok (.invokestatic 12, 3) := by decide +kernel
theorem dX7_init_21 : decode cX7_init 21 = .ok (.putfield 16, 3) := by decide +kernel
theorem dX7_init_24 : decode cX7_init 24 = .ok (.aload 5, 2) := by decide +kernel
theorem dX7_init_26 : decode cX7_init 26 = .ok (.iload_n 2, 1) := by decide +kernel
theorem dX7_init_27 : decode cX7_init 27 = .ok (.iconst 1, 1) := by decide +kernel
theorem dX7_init_28 : decode cX7_init 28 = .ok (.bipush 8, 2) := by decide +kernel
theorem dX7_init_30 : decode cX7_init 30 = .ok (.invokestatic 12, 3) := by decide +kernel
theorem dX7_init_33 : decode cX7_init 33 = .ok (.putfield 20, 3) := by decide +kernel
theorem dX7_init_36 : decode cX7_init 36 = .ok (.aload 5, 2) := by decide +kernel
theorem dX7_init_38 : decode cX7_init 38 = .ok (.iload_n 3, 1) := by decide +kernel
theorem dX7_init_39 : decode cX7_init 39 = .ok (.iconst 0, 1) := by decide +kernel
theorem dX7_init_40 : decode cX7_init 40 = .ok (.iconst 2, 1) := by decide +kernel
theorem dX7_init_41 : decode cX7_init 41 = .ok (.invokestatic 12, 3) := by decide +kernel
theorem dX7_init_44 : decode cX7_init 44 = .ok (.putfield 23, 3) := by decide +kernel
theorem dX7_init_47 : decode cX7_init 47 = .ok (.aload 5, 2) := by decide +kernel
theorem dX7_init_49 : decode cX7_init 49 = .ok (.iload 4, 2) := by decide +kernel
theorem dX7_init_51 : decode cX7_init 51 = .ok (.iconst 1, 1) := by decide +kernel
theorem dX7_init_52 : decode cX7_init 52 = .ok (.bipush 9, 2) := by decide +kernel
theorem dX7_init_54 : decode cX7_init 54 = .ok (.invokestatic 12, 3) := by decide +kernel
theorem dX7_init_57 : decode cX7_init 57 = .ok (.putfield 26, 3) := by decide +kernel
theorem dX7_init_60 : decode cX7_init 60 = .ok (.aload_n 0, 1) := by decide +kernel
theorem dX7_init_61 : decode cX7_init 61 = .ok (.new 29, 3) := by decide +kernel
theorem dX7_init_64 : decode cX7_init 64 = .ok (.dup, 1) := by decide +kernel
theorem dX7_init_65 : decode cX7_init 65 = .ok (.aload 5, 2) := by decide +kernel
theorem dX7_init_67 : decode cX7_init 67 = .ok (.invokespecial 31, 3) := by decide +kernel
theorem dX7_init_70 : decode cX7_init 70 = .ok (.putfield 34, 3) := by decide +kernel
theorem dX7_init_73 : decode cX7_init 73 = .ok (.aload_n 0, 1) := by decide +kernel
theorem dX7_init_74 : decode cX7_init 74 = .ok (.new 29, 3) := by decide +kernel
theorem dX7_init_77 : decode cX7_init 77 = .ok (.dup, 1) := by decide +kernel
theorem dX7_init_78 : decode cX7_init 78 = .ok (.aload 5, 2) := by decide +kernel
theorem dX7_init_80 : decode cX7_init 80 = .ok (.invokespecial 31, 3) := by decide +kernel
theorem dX7_init_83 : decode cX7_init 83 = .ok (.putfield 38, 3) := by decide +kernel
theorem dX7_init_86 : decode cX7_init 86 = .ok (.aload_n 0, 1) := by decide +kernel
theorem dX7_init_87 : decode cX7_init 87 = .ok (.bipush 16, 2) := by decide +kernel
theorem dX7_init_89 : decode cX7_init 89 = .ok (.anewarray 41, 3) := by decide +kernel
theorem dX7_init_92 : decode cX7_init 92 = .ok (.putfield 43, 3) := by decide +kernel
theorem dX7_init_95 : decode cX7_init 95 = .ok (.iconst 0, 1) := by decide +kernel
theorem dX7_init_96 : decode cX7_init 96 = .ok (.istore 6, 2) := by decide +kernel
theorem dX7_init_98 : decode cX7_init 98 = .ok (.iload 6, 2) := by decide +kernel
theorem dX7_init_100 : decode cX7_init 100 = .ok (.bipush 16, 2) := by decide +kernel
theorem dX7_init_102 : decode cX7_init 102 = .ok (.if_icmp .ge 23, 3) := by decide +kernel
theorem dX7_init_105 : decode cX7_init 105 = .ok (.aload_n 0, 1) := by decide +kernel
theorem dX7_init_106 : decode cX7_init 106 = .ok (.getfield 43, 3) := by decide +kernel
theorem dX7_init_109 : decode cX7_init 109 = .ok (.iload 6, 2) := by decide +kernel
theorem dX7_init_111 : decode cX7_init 111 = .ok (.new 41, 3) := by decide +kernel
theorem dX7_init_114 : decode cX7_init 114 = .ok (.dup, 1) := by decide +kernel
theorem dX7_init_115 : decode cX7_init 115 = .ok (.invokespecial 47, 3) := by decide +kernel
theorem dX7_init_118 : decode cX7_init 118 = .ok (.aastore, 1) := by decide +kernel
theorem dX7_init_119 : decode cX7_init 119 = .ok (.iinc 6 1, 3) := by decide +kernel
theorem dX7_init_122 : decode cX7_init 122 = .ok (.goto (-24), 3) := by decide +kernel
theorem dX7_init_125 : decode cX7_init 125 = .ok (.aload_n 0, 1) := by decide +kernel
theorem dX7_init_126 : decode cX7_init 126 = .ok (.iconst 0, 1) := by decide +kernel
theorem dX7_init_127 : decode cX7_init 127 = .ok (.putfield 48, 3) := by decide +kernel
theorem dX7_init_130 : decode cX7_init 130 = .ok (.return_, 1) := by decide +kernel
theorem dX7_open_0 : decode cX7_open 0 = .ok (.aload_n 0, 1) := by decide +kernel
theorem dX7_open_1 : decode cX7_open 1 = .ok (.getfield 34, 3) := by decide +kernel
theorem dX7_open_4 : decode cX7_open 4 = .ok (.getfield 51, 3) := by decide +kernel
theorem dX7_open_7 : decode cX7_open 7 = .ok (.bipush 16, 2) := by decide +kernel
theorem dX7_open_9 : decode cX7_open 9 = .ok (.if_icmp .lt 5, 3) := by decide +kernel
theorem dX7_open_12 : decode cX7_open 12 = .ok (.iconst (-1), 1) := by decide +kernel
theorem dX7_open_13 : decode cX7_open 13 = .ok (.ireturn, 1) := by decide +kernel
theorem dX7_open_14 : decode cX7_open 14 = .ok (.aload_n 0, 1) := by decide +kernel
theorem dX7_open_15 : decode cX7_open 15 = .ok (.getfield 34, 3) := by decide +kernel
theorem dX7_open_18 : decode cX7_open 18 = .ok (.aload_n 0, 1) := by decide +kernel
theorem dX7_open_19 : decode cX7_open 19 = .ok (.iconst 0, 1) := by decide +kernel
theorem dX7_open_20 : decode cX7_open 20 = .ok (.iconst 0, 1) := by decide +kernel
theorem dX7_open_21 : decode cX7_open 21 = .ok (.iconst 0, 1) := by decide +kernel
theorem dX7_open_22 : decode cX7_open 22 = .ok (.iconst 0, 1) := by decide +kernel
theorem dX7_open_23 : decode cX7_open 23 = .ok (.invokevirtual 54, 3) := by decide +kernel
theorem dX7_open_26 : decode cX7_open 26 = .ok (.invokevirtual 58, 3) := by decide +kernel
theorem dX7_open_29 : decode cX7_open 29 = .ok (.ireturn, 1) := by decide +kernel
theorem dX7_push_0 : decode cX7_push 0 = .ok (.aload_n 0, 1) := by decide +kernel
theorem dX7_push_1 : decode cX7_push 1 = .ok (.getfield 34, 3) := by decide +kernel
theorem dX7_push_4 : decode cX7_push 4 = .ok (.iload_n 1, 1) := by decide +kernel
theorem dX7_push_5 : decode cX7_push 5 = .ok (.invokevirtual 62, 3) := by decide +kernel
theorem dX7_push_8 : decode cX7_push 8 = .ok (.ifCond .eq 10, 3) := by decide +kernel
theorem dX7_push_11 : decode cX7_push 11 = .ok (.iload_n 2, 1) := by decide +kernel
theorem dX7_push_12 : decode cX7_push 12 = .ok (.invokestatic 66, 3) := by decide +kernel
theorem dX7_push_15 : decode cX7_push 15 = .ok (.ifCond .ne 5, 3) := by decide +kernel
theorem dX7_push_18 : decode cX7_push 18 = .ok (.iconst 0, 1) := by decide +kernel
theorem dX7_push_19 : decode cX7_push 19 = .ok (.ireturn, 1) := by decide +kernel
theorem dX7_push_20 : decode cX7_push 20 = .ok (.aload_n 0, 1) := by decide +kernel
theorem dX7_push_21 : decode cX7_push 21 = .ok (.getfield 34, 3) := by decide +kernel
theorem dX7_push_24 : decode cX7_push 24 = .ok (.aload_n 0, 1) := by decide +kernel
theorem dX7_push_25 : decode cX7_push 25 = .ok (.iconst 1, 1) := by decide +kernel
theorem dX7_push_26 : decode cX7_push 26 = .ok (.iload_n 1, 1) := by decide +kernel
theorem dX7_push_27 : decode cX7_push 27 = .ok (.iload_n 2, 1) := by decide +kernel
theorem dX7_push_28 : decode cX7_push 28 = .ok (.iload_n 3, 1) := by decide +kernel
theorem dX7_push_29 : decode cX7_push 29 = .ok (.invokevirtual 54, 3) := by decide +kernel
theorem dX7_push_32 : decode cX7_push 32 = .ok (.invokevirtual 58, 3) := by decide +kernel
theorem dX7_push_35 : decode cX7_push 35 = .ok (.pop, 1) := by decide +kernel
theorem dX7_push_36 : decode cX7_push 36 = .ok (.iconst 1, 1) := by decide +kernel
theorem dX7_push_37 : decode cX7_push 37 = .ok (.ireturn, 1) := by decide +kernel
theorem dX7_approve_0 : decode cX7_approve 0 = .ok (.aload_n 0, 1) := by decide +kernel
theorem dX7_approve_1 : decode cX7_approve 1 = .ok (.getfield 34, 3) := by decide +kernel
theorem dX7_approve_4 : decode cX7_approve 4 = .ok (.iload_n 1, 1) := by decide +kernel
theorem dX7_approve_5 : decode cX7_approve 5 = .ok (.invokevirtual 62, 3) := by decide +kernel
theorem dX7_approve_8 : decode cX7_approve 8 = .ok (.ifCond .eq 10, 3) := by decide +kernel
theorem dX7_approve_11 : decode cX7_approve 11 = .ok (.iload_n 2, 1) := by decide +kernel
theorem dX7_approve_12 : decode cX7_approve 12 = .ok (.invokestatic 69, 3) := by decide +kernel
theorem dX7_approve_15 : decode cX7_approve 15 = .ok (.ifCond .ne 5, 3) := by decide +kernel
theorem dX7_approve_18 : decode cX7_approve 18 = .ok (.iconst 0, 1) := by decide +kernel
theorem dX7_approve_19 : decode cX7_approve 19 = .ok (.ireturn, 1) := by decide +kernel
theorem dX7_approve_20 : decode cX7_approve 20 = .ok (.aload_n 0, 1) := by decide +kernel
theorem dX7_approve_21 : decode cX7_approve 21 = .ok (.getfield 34, 3) := by decide +kernel
theorem dX7_approve_24 : decode cX7_approve 24 = .ok (.aload_n 0, 1) := by decide +kernel
theorem dX7_approve_25 : decode cX7_approve 25 = .ok (.iconst 2, 1) := by decide +kernel
theorem dX7_approve_26 : decode cX7_approve 26 = .ok (.iload_n 1, 1) := by decide +kernel
theorem dX7_approve_27 : decode cX7_approve 27 = .ok (.iload_n 2, 1) := by decide +kernel
theorem dX7_approve_28 : decode cX7_approve 28 = .ok (.iconst 0, 1) := by decide +kernel
theorem dX7_approve_29 : decode cX7_approve 29 = .ok (.invokevirtual 54, 3) := by decide +kernel
theorem dX7_approve_32 : decode cX7_approve 32 = .ok (.invokevirtual 58, 3) := by decide +kernel
theorem dX7_approve_35 : decode cX7_approve 35 = .ok (.pop, 1) := by decide +kernel
theorem dX7_approve_36 : decode cX7_approve 36 = .ok (.iconst 1, 1) := by decide +kernel
theorem dX7_approve_37 : decode cX7_approve 37 = .ok (.ireturn, 1) := by decide +kernel
theorem dX7_object_0 : decode cX7_object 0 = .ok (.aload_n 0, 1) := by decide +kernel
theorem dX7_object_1 : decode cX7_object 1 = .ok (.getfield 34, 3) := by decide +kernel
theorem dX7_object_4 : decode cX7_object 4 = .ok (.iload_n 1, 1) := by decide +kernel
theorem dX7_object_5 : decode cX7_object 5 = .ok (.invokevirtual 62, 3) := by decide +kernel
theorem dX7_object_8 : decode cX7_object 8 = .ok (.ifCond .eq 10, 3) := by decide +kernel
theorem dX7_object_11 : decode cX7_object 11 = .ok (.iload_n 2, 1) := by decide +kernel
theorem dX7_object_12 : decode cX7_object 12 = .ok (.invokestatic 69, 3) := by decide +kernel
theorem dX7_object_15 : decode cX7_object 15 = .ok (.ifCond .ne 5, 3) := by decide +kernel
theorem dX7_object_18 : decode cX7_object 18 = .ok (.iconst 0, 1) := by decide +kernel
theorem dX7_object_19 : decode cX7_object 19 = .ok (.ireturn, 1) := by decide +kernel
theorem dX7_object_20 : decode cX7_object 20 = .ok (.aload_n 0, 1) := by decide +kernel
theorem dX7_object_21 : decode cX7_object 21 = .ok (.getfield 34, 3) := by decide +kernel
theorem dX7_object_24 : decode cX7_object 24 = .ok (.aload_n 0, 1) := by decide +kernel
theorem dX7_object_25 : decode cX7_object 25 = .ok (.iconst 3, 1) := by decide +kernel
theorem dX7_object_26 : decode cX7_object 26 = .ok (.iload_n 1, 1) := by decide +kernel
theorem dX7_object_27 : decode cX7_object 27 = .ok (.iload_n 2, 1) := by decide +kernel
theorem dX7_object_28 : decode cX7_object 28 = .ok (.iconst 0, 1) := by decide +kernel
theorem dX7_object_29 : decode cX7_object 29 = .ok (.invokevirtual 54, 3) := by decide +kernel
theorem dX7_object_32 : decode cX7_object 32 = .ok (.invokevirtual 58, 3) := by decide +kernel
theorem dX7_object_35 : decode cX7_object 35 = .ok (.pop, 1) := by decide +kernel
theorem dX7_object_36 : decode cX7_object 36 = .ok (.iconst 1, 1) := by decide +kernel
theorem dX7_object_37 : decode cX7_object 37 = .ok (.ireturn, 1) := by decide +kernel
theorem dX7_close_0 : decode cX7_close 0 = .ok (.aload_n 0, 1) := by decide +kernel
theorem dX7_close_1 : decode cX7_close 1 = .ok (.getfield 34, 3) := by decide +kernel
theorem dX7_close_4 : decode cX7_close 4 = .ok (.iload_n 1, 1) := by decide +kernel
theorem dX7_close_5 : decode cX7_close 5 = .ok (.invokevirtual 72, 3) := by decide +kernel
theorem dX7_close_8 : decode cX7_close 8 = .ok (.ifCond .ne 5, 3) := by decide +kernel
theorem dX7_close_11 : decode cX7_close 11 = .ok (.iconst 0, 1) := by decide +kernel
theorem dX7_close_12 : decode cX7_close 12 = .ok (.ireturn, 1) := by decide +kernel
theorem dX7_close_13 : decode cX7_close 13 = .ok (.aload_n 0, 1) := by decide +kernel
theorem dX7_close_14 : decode cX7_close 14 = .ok (.getfield 34, 3) := by decide +kernel
theorem dX7_close_17 : decode cX7_close 17 = .ok (.aload_n 0, 1) := by decide +kernel
theorem dX7_close_18 : decode cX7_close 18 = .ok (.iconst 4, 1) := by decide +kernel
theorem dX7_close_19 : decode cX7_close 19 = .ok (.iload_n 1, 1) := by decide +kernel
theorem dX7_close_20 : decode cX7_close 20 = .ok (.iconst 0, 1) := by decide +kernel
theorem dX7_close_21 : decode cX7_close 21 = .ok (.iconst 0, 1) := by decide +kernel
theorem dX7_close_22 : decode cX7_close 22 = .ok (.invokevirtual 54, 3) := by decide +kernel
theorem dX7_close_25 : decode cX7_close 25 = .ok (.invokevirtual 58, 3) := by decide +kernel
theorem dX7_close_28 : decode cX7_close 28 = .ok (.pop, 1) := by decide +kernel
theorem dX7_close_29 : decode cX7_close 29 = .ok (.iconst 1, 1) := by decide +kernel
theorem dX7_close_30 : decode cX7_close 30 = .ok (.ireturn, 1) := by decide +kernel
theorem dX7_enqueue_0 : decode cX7_enqueue 0 = .ok (.aload_n 0, 1) := by decide +kernel
theorem dX7_enqueue_1 : decode cX7_enqueue 1 = .ok (.getfield 34, 3) := by decide +kernel
theorem dX7_enqueue_4 : decode cX7_enqueue 4 = .ok (.iload_n 1, 1) := by decide +kernel
theorem dX7_enqueue_5 : decode cX7_enqueue 5 = .ok (.invokevirtual 75, 3) := by decide +kernel
theorem dX7_enqueue_8 : decode cX7_enqueue 8 = .ok (.ifCond .ne 5, 3) := by decide +kernel
theorem dX7_enqueue_11 : decode cX7_enqueue 11 = .ok (.iconst 0, 1) := by decide +kernel
theorem dX7_enqueue_12 : decode cX7_enqueue 12 = .ok (.ireturn, 1) := by decide +kernel
theorem dX7_enqueue_13 : decode cX7_enqueue 13 = .ok (.aload_n 0, 1) := by decide +kernel
theorem dX7_enqueue_14 : decode cX7_enqueue 14 = .ok (.getfield 34, 3) := by decide +kernel
theorem dX7_enqueue_17 : decode cX7_enqueue 17 = .ok (.aload_n 0, 1) := by decide +kernel
theorem dX7_enqueue_18 : decode cX7_enqueue 18 = .ok (.iconst 5, 1) := by decide +kernel
theorem dX7_enqueue_19 : decode cX7_enqueue 19 = .ok (.iload_n 1, 1) := by decide +kernel
theorem dX7_enqueue_20 : decode cX7_enqueue 20 = .ok (.iconst 0, 1) := by decide +kernel
theorem dX7_enqueue_21 : decode cX7_enqueue 21 = .ok (.iconst 0, 1) := by decide +kernel
theorem dX7_enqueue_22 : decode cX7_enqueue 22 = .ok (.invokevirtual 54, 3) := by decide +kernel
theorem dX7_enqueue_25 : decode cX7_enqueue 25 = .ok (.invokevirtual 58, 3) := by decide +kernel
theorem dX7_enqueue_28 : decode cX7_enqueue 28 = .ok (.pop, 1) := by decide +kernel
theorem dX7_enqueue_29 : decode cX7_enqueue 29 = .ok (.iconst 1, 1) := by decide +kernel
theorem dX7_enqueue_30 : decode cX7_enqueue 30 = .ok (.ireturn, 1) := by decide +kernel
theorem dX7_rebase_0 : decode cX7_rebase 0 = .ok (.aload_n 0, 1) := by decide +kernel
theorem dX7_rebase_1 : decode cX7_rebase 1 = .ok (.getfield 34, 3) := by decide +kernel
theorem dX7_rebase_4 : decode cX7_rebase 4 = .ok (.iload_n 1, 1) := by decide +kernel
theorem dX7_rebase_5 : decode cX7_rebase 5 = .ok (.invokevirtual 78, 3) := by decide +kernel
theorem dX7_rebase_8 : decode cX7_rebase 8 = .ok (.ifCond .ne 5, 3) := by decide +kernel
theorem dX7_rebase_11 : decode cX7_rebase 11 = .ok (.iconst 0, 1) := by decide +kernel
theorem dX7_rebase_12 : decode cX7_rebase 12 = .ok (.ireturn, 1) := by decide +kernel
theorem dX7_rebase_13 : decode cX7_rebase 13 = .ok (.aload_n 0, 1) := by decide +kernel
theorem dX7_rebase_14 : decode cX7_rebase 14 = .ok (.getfield 34, 3) := by decide +kernel
theorem dX7_rebase_17 : decode cX7_rebase 17 = .ok (.aload_n 0, 1) := by decide +kernel
theorem dX7_rebase_18 : decode cX7_rebase 18 = .ok (.bipush 6, 2) := by decide +kernel
theorem dX7_rebase_20 : decode cX7_rebase 20 = .ok (.iload_n 1, 1) := by decide +kernel
theorem dX7_rebase_21 : decode cX7_rebase 21 = .ok (.iconst 0, 1) := by decide +kernel
theorem dX7_rebase_22 : decode cX7_rebase 22 = .ok (.iconst 0, 1) := by decide +kernel
theorem dX7_rebase_23 : decode cX7_rebase 23 = .ok (.invokevirtual 54, 3) := by decide +kernel
theorem dX7_rebase_26 : decode cX7_rebase 26 = .ok (.invokevirtual 58, 3) := by decide +kernel
theorem dX7_rebase_29 : decode cX7_rebase 29 = .ok (.pop, 1) := by decide +kernel
theorem dX7_rebase_30 : decode cX7_rebase 30 = .ok (.iconst 1, 1) := by decide +kernel
theorem dX7_rebase_31 : decode cX7_rebase 31 = .ok (.ireturn, 1) := by decide +kernel
theorem dX7_claim_0 : decode cX7_claim 0 = .ok (.aload_n 0, 1) := by decide +kernel
theorem dX7_claim_1 : decode cX7_claim 1 = .ok (.getfield 34, 3) := by decide +kernel
theorem dX7_claim_4 : decode cX7_claim 4 = .ok (.iload_n 1, 1) := by decide +kernel
theorem dX7_claim_5 : decode cX7_claim 5 = .ok (.invokevirtual 81, 3) := by decide +kernel
theorem dX7_claim_8 : decode cX7_claim 8 = .ok (.iconst (-1), 1) := by decide +kernel
theorem dX7_claim_9 : decode cX7_claim 9 = .ok (.if_icmp .ne 5, 3) := by decide +kernel
theorem dX7_claim_12 : decode cX7_claim 12 = .ok (.iconst (-1), 1) := by decide +kernel
theorem dX7_claim_13 : decode cX7_claim 13 = .ok (.ireturn, 1) := by decide +kernel
theorem dX7_claim_14 : decode cX7_claim 14 = .ok (.aload_n 0, 1) := by decide +kernel
theorem dX7_claim_15 : decode cX7_claim 15 = .ok (.getfield 34, 3) := by decide +kernel
theorem dX7_claim_18 : decode cX7_claim 18 = .ok (.aload_n 0, 1) := by decide +kernel
theorem dX7_claim_19 : decode cX7_claim 19 = .ok (.bipush 7, 2) := by decide +kernel
theorem dX7_claim_21 : decode cX7_claim 21 = .ok (.iload_n 1, 1) := by decide +kernel
theorem dX7_claim_22 : decode cX7_claim 22 = .ok (.iconst 0, 1) := by decide +kernel
theorem dX7_claim_23 : decode cX7_claim 23 = .ok (.iconst 0, 1) := by decide +kernel
theorem dX7_claim_24 : decode cX7_claim 24 = .ok (.invokevirtual 54, 3) := by decide +kernel
theorem dX7_claim_27 : decode cX7_claim 27 = .ok (.invokevirtual 58, 3) := by decide +kernel
theorem dX7_claim_30 : decode cX7_claim 30 = .ok (.ireturn, 1) := by decide +kernel
theorem dX7_report_0 : decode cX7_report 0 = .ok (.aload_n 0, 1) := by decide +kernel
theorem dX7_report_1 : decode cX7_report 1 = .ok (.getfield 34, 3) := by decide +kernel
theorem dX7_report_4 : decode cX7_report 4 = .ok (.getfield 85, 3) := by decide +kernel
theorem dX7_report_7 : decode cX7_report 7 = .ok (.iload_n 1, 1) := by decide +kernel
theorem dX7_report_8 : decode cX7_report 8 = .ok (.invokevirtual 89, 3) := by decide +kernel
theorem dX7_report_11 : decode cX7_report 11 = .ok (.iconst (-1), 1) := by decide +kernel
theorem dX7_report_12 : decode cX7_report 12 = .ok (.if_icmp .ne 5, 3) := by decide +kernel
theorem dX7_report_15 : decode cX7_report 15 = .ok (.iconst 0, 1) := by decide +kernel
theorem dX7_report_16 : decode cX7_report 16 = .ok (.ireturn, 1) := by decide +kernel
theorem dX7_report_17 : decode cX7_report 17 = .ok (.aload_n 0, 1) := by decide +kernel
theorem dX7_report_18 : decode cX7_report 18 = .ok (.getfield 34, 3) := by decide +kernel
theorem dX7_report_21 : decode cX7_report 21 = .ok (.aload_n 0, 1) := by decide +kernel
theorem dX7_report_22 : decode cX7_report 22 = .ok (.bipush 8, 2) := by decide +kernel
theorem dX7_report_24 : decode cX7_report 24 = .ok (.iload_n 1, 1) := by decide +kernel
theorem dX7_report_25 : decode cX7_report 25 = .ok (.iload_n 2, 1) := by decide +kernel
theorem dX7_report_26 : decode cX7_report 26 = .ok (.ifCond .eq 7, 3) := by decide +kernel
theorem dX7_report_29 : decode cX7_report 29 = .ok (.iconst 2, 1) := by decide +kernel
theorem dX7_report_30 : decode cX7_report 30 = .ok (.goto 4, 3) := by decide +kernel
theorem dX7_report_33 : decode cX7_report 33 = .ok (.iconst 3, 1) := by decide +kernel
theorem dX7_report_34 : decode cX7_report 34 = .ok (.iconst 0, 1) := by decide +kernel
theorem dX7_report_35 : decode cX7_report 35 = .ok (.invokevirtual 54, 3) := by decide +kernel
theorem dX7_report_38 : decode cX7_report 38 = .ok (.invokevirtual 58, 3) := by decide +kernel
theorem dX7_report_41 : decode cX7_report 41 = .ok (.pop, 1) := by decide +kernel
theorem dX7_report_42 : decode cX7_report 42 = .ok (.iconst 1, 1) := by decide +kernel
theorem dX7_report_43 : decode cX7_report 43 = .ok (.ireturn, 1) := by decide +kernel
theorem dX7_tick_0 : decode cX7_tick 0 = .ok (.iload_n 1, 1) := by decide +kernel
theorem dX7_tick_1 : decode cX7_tick 1 = .ok (.iconst 1, 1) := by decide +kernel
theorem dX7_tick_2 : decode cX7_tick 2 = .ok (.if_icmp .lt 9, 3) := by decide +kernel
theorem dX7_tick_5 : decode cX7_tick 5 = .ok (.iload_n 1, 1) := by decide +kernel
theorem dX7_tick_6 : decode cX7_tick 6 = .ok (.bipush 20, 2) := by decide +kernel
theorem dX7_tick_8 : decode cX7_tick 8 = .ok (.if_icmp .le 5, 3) := by decide +kernel
theorem dX7_tick_11 : decode cX7_tick 11 = .ok (.iconst (-1), 1) := by decide +kernel
theorem dX7_tick_12 : decode cX7_tick 12 = .ok (.ireturn, 1) := by decide +kernel
theorem dX7_tick_13 : decode cX7_tick 13 = .ok (.aload_n 0, 1) := by decide +kernel
theorem dX7_tick_14 : decode cX7_tick 14 = .ok (.getfield 34, 3) := by decide +kernel
theorem dX7_tick_17 : decode cX7_tick 17 = .ok (.aload_n 0, 1) := by decide +kernel
theorem dX7_tick_18 : decode cX7_tick 18 = .ok (.bipush 9, 2) := by decide +kernel
theorem dX7_tick_20 : decode cX7_tick 20 = .ok (.iload_n 1, 1) := by decide +kernel
theorem dX7_tick_21 : decode cX7_tick 21 = .ok (.iconst 0, 1) := by decide +kernel
theorem dX7_tick_22 : decode cX7_tick 22 = .ok (.iconst 0, 1) := by decide +kernel
theorem dX7_tick_23 : decode cX7_tick 23 = .ok (.invokevirtual 54, 3) := by decide +kernel
theorem dX7_tick_26 : decode cX7_tick 26 = .ok (.invokevirtual 58, 3) := by decide +kernel
theorem dX7_tick_29 : decode cX7_tick 29 = .ok (.ireturn, 1) := by decide +kernel
theorem dX7_flush_0 : decode cX7_flush 0 = .ok (.aload_n 0, 1) := by decide +kernel
theorem dX7_flush_1 : decode cX7_flush 1 = .ok (.getfield 48, 3) := by decide +kernel
theorem dX7_flush_4 : decode cX7_flush 4 = .ok (.istore_n 1, 1) := by decide +kernel
theorem dX7_flush_5 : decode cX7_flush 5 = .ok (.aload_n 0, 1) := by decide +kernel
theorem dX7_flush_6 : decode cX7_flush 6 = .ok (.invokevirtual 94, 3) := by decide +kernel
theorem dX7_flush_9 : decode cX7_flush 9 = .ok (.iload_n 1, 1) := by decide +kernel
theorem dX7_flush_10 : decode cX7_flush 10 = .ok (.ireturn, 1) := by decide +kernel
theorem dX7_crash_0 : decode cX7_crash 0 = .ok (.iload_n 1, 1) := by decide +kernel
theorem dX7_crash_1 : decode cX7_crash 1 = .ok (.iconst 0, 1) := by decide +kernel
theorem dX7_crash_2 : decode cX7_crash 2 = .ok (.aload_n 0, 1) := by decide +kernel
theorem dX7_crash_3 : decode cX7_crash 3 = .ok (.getfield 48, 3) := by decide +kernel
theorem dX7_crash_6 : decode cX7_crash 6 = .ok (.invokestatic 12, 3) := by decide +kernel
theorem dX7_crash_9 : decode cX7_crash 9 = .ok (.istore_n 2, 1) := by decide +kernel
theorem dX7_crash_10 : decode cX7_crash 10 = .ok (.aload_n 0, 1) := by decide +kernel
theorem dX7_crash_11 : decode cX7_crash 11 = .ok (.getfield 48, 3) := by decide +kernel
theorem dX7_crash_14 : decode cX7_crash 14 = .ok (.iload_n 2, 1) := by decide +kernel
theorem dX7_crash_15 : decode cX7_crash 15 = .ok (.isub, 1) := by decide +kernel
theorem dX7_crash_16 : decode cX7_crash 16 = .ok (.istore_n 3, 1) := by decide +kernel
theorem dX7_crash_17 : decode cX7_crash 17 = .ok (.aload_n 0, 1) := by decide +kernel
theorem dX7_crash_18 : decode cX7_crash 18 = .ok (.getfield 34, 3) := by decide +kernel
theorem dX7_crash_21 : decode cX7_crash 21 = .ok (.aload_n 0, 1) := by decide +kernel
theorem dX7_crash_22 : decode cX7_crash 22 = .ok (.getfield 38, 3) := by decide +kernel
theorem dX7_crash_25 : decode cX7_crash 25 = .ok (.invokevirtual 97, 3) := by decide +kernel
theorem dX7_crash_28 : decode cX7_crash 28 = .ok (.iconst 0, 1) := by decide +kernel
theorem dX7_crash_29 : decode cX7_crash 29 = .ok (.istore 4, 2) := by decide +kernel
theorem dX7_crash_31 : decode cX7_crash 31 = .ok (.iload 4, 2) := by decide +kernel
theorem dX7_crash_33 : decode cX7_crash 33 = .ok (.iload_n 2, 1) := by decide +kernel
theorem dX7_crash_34 : decode cX7_crash 34 = .ok (.if_icmp .ge 24, 3) := by decide +kernel
theorem dX7_crash_37 : decode cX7_crash 37 = .ok (.aload_n 0, 1) := by decide +kernel
theorem dX7_crash_38 : decode cX7_crash 38 = .ok (.getfield 34, 3) := by decide +kernel
theorem dX7_crash_41 : decode cX7_crash 41 = .ok (.aload_n 0, 1) := by decide +kernel
theorem dX7_crash_42 : decode cX7_crash 42 = .ok (.getfield 43, 3) := by decide +kernel
theorem dX7_crash_45 : decode cX7_crash 45 = .ok (.iload 4, 2) := by decide +kernel
theorem dX7_crash_47 : decode cX7_crash 47 = .ok (.aaload, 1) := by decide +kernel
theorem dX7_crash_48 : decode cX7_crash 48 = .ok (.invokevirtual 58, 3) := by decide +kernel
theorem dX7_crash_51 : decode cX7_crash 51 = .ok (.pop, 1) := by decide +kernel
theorem dX7_crash_52 : decode cX7_crash 52 = .ok (.iinc 4 1, 3) := by decide +kernel
theorem dX7_crash_55 : decode cX7_crash 55 = .ok (.goto (-24), 3) := by decide +kernel
theorem dX7_crash_58 : decode cX7_crash 58 = .ok (.aload_n 0, 1) := by decide +kernel
theorem dX7_crash_59 : decode cX7_crash 59 = .ok (.getfield 34, 3) := by decide +kernel
theorem dX7_crash_62 : decode cX7_crash 62 = .ok (.invokevirtual 101, 3) := by decide +kernel
theorem dX7_crash_65 : decode cX7_crash 65 = .ok (.aload_n 0, 1) := by decide +kernel
theorem dX7_crash_66 : decode cX7_crash 66 = .ok (.invokevirtual 94, 3) := by decide +kernel
theorem dX7_crash_69 : decode cX7_crash 69 = .ok (.iload_n 3, 1) := by decide +kernel
theorem dX7_crash_70 : decode cX7_crash 70 = .ok (.ireturn, 1) := by decide +kernel
theorem dX7_state_0 : decode cX7_state 0 = .ok (.aload_n 0, 1) := by decide +kernel
theorem dX7_state_1 : decode cX7_state 1 = .ok (.getfield 34, 3) := by decide +kernel
theorem dX7_state_4 : decode cX7_state 4 = .ok (.iload_n 1, 1) := by decide +kernel
theorem dX7_state_5 : decode cX7_state 5 = .ok (.invokevirtual 104, 3) := by decide +kernel
theorem dX7_state_8 : decode cX7_state 8 = .ok (.ifCond .eq 18, 3) := by decide +kernel
theorem dX7_state_11 : decode cX7_state 11 = .ok (.aload_n 0, 1) := by decide +kernel
theorem dX7_state_12 : decode cX7_state 12 = .ok (.getfield 34, 3) := by decide +kernel
theorem dX7_state_15 : decode cX7_state 15 = .ok (.getfield 107, 3) := by decide +kernel
theorem dX7_state_18 : decode cX7_state 18 = .ok (.iload_n 1, 1) := by decide +kernel
theorem dX7_state_19 : decode cX7_state 19 = .ok (.aaload, 1) := by decide +kernel
theorem dX7_state_20 : decode cX7_state 20 = .ok (.getfield 111, 3) := by decide +kernel
theorem dX7_state_23 : decode cX7_state 23 = .ok (.goto 4, 3) := by decide +kernel
theorem dX7_state_26 : decode cX7_state 26 = .ok (.iconst (-1), 1) := by decide +kernel
theorem dX7_state_27 : decode cX7_state 27 = .ok (.ireturn, 1) := by decide +kernel
theorem dX7_cause_0 : decode cX7_cause 0 = .ok (.aload_n 0, 1) := by decide +kernel
theorem dX7_cause_1 : decode cX7_cause 1 = .ok (.getfield 34, 3) := by decide +kernel
theorem dX7_cause_4 : decode cX7_cause 4 = .ok (.iload_n 1, 1) := by decide +kernel
theorem dX7_cause_5 : decode cX7_cause 5 = .ok (.invokevirtual 104, 3) := by decide +kernel
theorem dX7_cause_8 : decode cX7_cause 8 = .ok (.ifCond .eq 18, 3) := by decide +kernel
theorem dX7_cause_11 : decode cX7_cause 11 = .ok (.aload_n 0, 1) := by decide +kernel
theorem dX7_cause_12 : decode cX7_cause 12 = .ok (.getfield 34, 3) := by decide +kernel
theorem dX7_cause_15 : decode cX7_cause 15 = .ok (.getfield 107, 3) := by decide +kernel
theorem dX7_cause_18 : decode cX7_cause 18 = .ok (.iload_n 1, 1) := by decide +kernel
theorem dX7_cause_19 : decode cX7_cause 19 = .ok (.aaload, 1) := by decide +kernel
theorem dX7_cause_20 : decode cX7_cause 20 = .ok (.getfield 116, 3) := by decide +kernel
theorem dX7_cause_23 : decode cX7_cause 23 = .ok (.goto 4, 3) := by decide +kernel
theorem dX7_cause_26 : decode cX7_cause 26 = .ok (.iconst (-1), 1) := by decide +kernel
theorem dX7_cause_27 : decode cX7_cause 27 = .ok (.ireturn, 1) := by decide +kernel
theorem dX7_standing_0 : decode cX7_standing 0 = .ok (.aload_n 0, 1) := by decide +kernel
theorem dX7_standing_1 : decode cX7_standing 1 = .ok (.getfield 34, 3) := by decide +kernel
theorem dX7_standing_4 : decode cX7_standing 4 = .ok (.iload_n 1, 1) := by decide +kernel
theorem dX7_standing_5 : decode cX7_standing 5 = .ok (.invokevirtual 104, 3) := by decide +kernel
theorem dX7_standing_8 : decode cX7_standing 8 = .ok (.ifCond .ne 5, 3) := by decide +kernel
theorem dX7_standing_11 : decode cX7_standing 11 = .ok (.iconst (-1), 1) := by decide +kernel
theorem dX7_standing_12 : decode cX7_standing 12 = .ok (.ireturn, 1) := by decide +kernel
theorem dX7_standing_13 : decode cX7_standing 13 = .ok (.aload_n 0, 1) := by decide +kernel
theorem dX7_standing_14 : decode cX7_standing 14 = .ok (.getfield 34, 3) := by decide +kernel
theorem dX7_standing_17 : decode cX7_standing 17 = .ok (.getfield 107, 3) := by decide +kernel
theorem dX7_standing_20 : decode cX7_standing 20 = .ok (.iload_n 1, 1) := by decide +kernel
theorem dX7_standing_21 : decode cX7_standing 21 = .ok (.aaload, 1) := by decide +kernel
theorem dX7_standing_22 : decode cX7_standing 22 = .ok (.invokevirtual 119, 3) := by decide +kernel
theorem dX7_standing_25 : decode cX7_standing 25 = .ok (.bipush 10, 2) := by decide +kernel
theorem dX7_standing_27 : decode cX7_standing 27 = .ok (.aload_n 0, 1) := by decide +kernel
theorem dX7_standing_28 : decode cX7_standing 28 = .ok (.getfield 34, 3) := by decide +kernel
theorem dX7_standing_31 : decode cX7_standing 31 = .ok (.getfield 107, 3) := by decide +kernel
theorem dX7_standing_34 : decode cX7_standing 34 = .ok (.iload_n 1, 1) := by decide +kernel
theorem dX7_standing_35 : decode cX7_standing 35 = .ok (.aaload, 1) := by decide +kernel
theorem dX7_standing_36 : decode cX7_standing 36 = .ok (.invokevirtual 123, 3) := by decide +kernel
theorem dX7_standing_39 : decode cX7_standing 39 = .ok (.imul, 1) := by decide +kernel
theorem dX7_standing_40 : decode cX7_standing 40 = .ok (.iadd, 1) := by decide +kernel
theorem dX7_standing_41 : decode cX7_standing 41 = .ok (.ireturn, 1) := by decide +kernel
theorem dX7_file_0 : decode cX7_file 0 = .ok (.iload_n 2, 1) := by decide +kernel
theorem dX7_file_1 : decode cX7_file 1 = .ok (.invokestatic 66, 3) := by decide +kernel
theorem dX7_file_4 : decode cX7_file 4 = .ok (.ifCond .ne 5, 3) := by decide +kernel
theorem dX7_file_7 : decode cX7_file 7 = .ok (.iconst 0, 1) := by decide +kernel
theorem dX7_file_8 : decode cX7_file 8 = .ok (.ireturn, 1) := by decide +kernel
theorem dX7_file_9 : decode cX7_file 9 = .ok (.iload_n 1, 1) := by decide +kernel
theorem dX7_file_10 : decode cX7_file 10 = .ok (.iconst (-1), 1) := by decide +kernel
theorem dX7_file_11 : decode cX7_file 11 = .ok (.if_icmp .ne 13, 3) := by decide +kernel
theorem dX7_file_14 : decode cX7_file 14 = .ok (.aload_n 0, 1) := by decide +kernel
theorem dX7_file_15 : decode cX7_file 15 = .ok (.getfield 34, 3) := by decide +kernel
theorem dX7_file_18 : decode cX7_file 18 = .ok (.getfield 126, 3) := by decide +kernel
theorem dX7_file_21 : decode cX7_file 21 = .ok (.iload_n 2, 1) := by decide +kernel
theorem dX7_file_22 : decode cX7_file 22 = .ok (.iaload, 1) := by decide +kernel
theorem dX7_file_23 : decode cX7_file 23 = .ok (.ireturn, 1) := by decide +kernel
theorem dX7_file_24 : decode cX7_file 24 = .ok (.iload_n 1, 1) := by decide +kernel
theorem dX7_file_25 : decode cX7_file 25 = .ok (.bipush (-2), 2) := by decide +kernel
theorem dX7_file_27 : decode cX7_file 27 = .ok (.if_icmp .ne 33, 3) := by decide +kernel
theorem dX7_file_30 : decode cX7_file 30 = .ok (.aload_n 0, 1) := by decide +kernel
theorem dX7_file_31 : decode cX7_file 31 = .ok (.getfield 34, 3) := by decide +kernel
theorem dX7_file_34 : decode cX7_file 34 = .ok (.getfield 85, 3) := by decide +kernel
theorem dX7_file_37 : decode cX7_file 37 = .ok (.invokevirtual 130, 3) := by decide +kernel
theorem dX7_file_40 : decode cX7_file 40 = .ok (.ifCond .eq 18, 3) := by decide +kernel
theorem dX7_file_43 : decode cX7_file 43 = .ok (.aload_n 0, 1) := by decide +kernel
theorem dX7_file_44 : decode cX7_file 44 = .ok (.getfield 34, 3) := by decide +kernel
theorem dX7_file_47 : decode cX7_file 47 = .ok (.getfield 85, 3) := by decide +kernel
theorem dX7_file_50 : decode cX7_file 50 = .ok (.getfield 134, 3) := by decide +kernel
theorem dX7_file_53 : decode cX7_file 53 = .ok (.iload_n 2, 1) := by decide +kernel
theorem dX7_file_54 : decode cX7_file 54 = .ok (.iaload, 1) := by decide +kernel
theorem dX7_file_55 : decode cX7_file 55 = .ok (.goto 4, 3) := by decide +kernel
theorem dX7_file_58 : decode cX7_file 58 = .ok (.iconst 0, 1) := by decide +kernel
theorem dX7_file_59 : decode cX7_file 59 = .ok (.ireturn, 1) := by decide +kernel
theorem dX7_file_60 : decode cX7_file 60 = .ok (.aload_n 0, 1) := by decide +kernel
theorem dX7_file_61 : decode cX7_file 61 = .ok (.getfield 34, 3) := by decide +kernel
theorem dX7_file_64 : decode cX7_file 64 = .ok (.iload_n 1, 1) := by decide +kernel
theorem dX7_file_65 : decode cX7_file 65 = .ok (.invokevirtual 104, 3) := by decide +kernel
theorem dX7_file_68 : decode cX7_file 68 = .ok (.ifCond .eq 20, 3) := by decide +kernel
theorem dX7_file_71 : decode cX7_file 71 = .ok (.aload_n 0, 1) := by decide +kernel
theorem dX7_file_72 : decode cX7_file 72 = .ok (.getfield 34, 3) := by decide +kernel
theorem dX7_file_75 : decode cX7_file 75 = .ok (.getfield 107, 3) := by decide +kernel
theorem dX7_file_78 : decode cX7_file 78 = .ok (.iload_n 1, 1) := by decide +kernel
theorem dX7_file_79 : decode cX7_file 79 = .ok (.aaload, 1) := by decide +kernel
theorem dX7_file_80 : decode cX7_file 80 = .ok (.getfield 137, 3) := by decide +kernel
theorem dX7_file_83 : decode cX7_file 83 = .ok (.iload_n 2, 1) := by decide +kernel
theorem dX7_file_84 : decode cX7_file 84 = .ok (.iaload, 1) := by decide +kernel
theorem dX7_file_85 : decode cX7_file 85 = .ok (.goto 4, 3) := by decide +kernel
theorem dX7_file_88 : decode cX7_file 88 = .ok (.iconst 0, 1) := by decide +kernel
theorem dX7_file_89 : decode cX7_file 89 = .ok (.ireturn, 1) := by decide +kernel
theorem dX7_queueAt_0 : decode cX7_queueAt 0 = .ok (.aload_n 0, 1) := by decide +kernel
theorem dX7_queueAt_1 : decode cX7_queueAt 1 = .ok (.getfield 34, 3) := by decide +kernel
theorem dX7_queueAt_4 : decode cX7_queueAt 4 = .ok (.getfield 140, 3) := by decide +kernel
theorem dX7_queueAt_7 : decode cX7_queueAt 7 = .ok (.iload_n 1, 1) := by decide +kernel
theorem dX7_queueAt_8 : decode cX7_queueAt 8 = .ok (.invokevirtual 144, 3) := by decide +kernel
theorem dX7_queueAt_11 : decode cX7_queueAt 11 = .ok (.ireturn, 1) := by decide +kernel
theorem dX7_batch_0 : decode cX7_batch 0 = .ok (.aload_n 0, 1) := by decide +kernel
theorem dX7_batch_1 : decode cX7_batch 1 = .ok (.getfield 34, 3) := by decide +kernel
theorem dX7_batch_4 : decode cX7_batch 4 = .ok (.getfield 85, 3) := by decide +kernel
theorem dX7_batch_7 : decode cX7_batch 7 = .ok (.getfield 149, 3) := by decide +kernel
theorem dX7_batch_10 : decode cX7_batch 10 = .ok (.ireturn, 1) := by decide +kernel
theorem dX7_job_0 : decode cX7_job 0 = .ok (.iload_n 1, 1) := by decide +kernel
theorem dX7_job_1 : decode cX7_job 1 = .ok (.ifCond .lt 23, 3) := by decide +kernel
theorem dX7_job_4 : decode cX7_job 4 = .ok (.iload_n 1, 1) := by decide +kernel
theorem dX7_job_5 : decode cX7_job 5 = .ok (.iconst 4, 1) := by decide +kernel
theorem dX7_job_6 : decode cX7_job 6 = .ok (.if_icmp .ge 18, 3) := by decide +kernel
theorem dX7_job_9 : decode cX7_job 9 = .ok (.aload_n 0, 1) := by decide +kernel
theorem dX7_job_10 : decode cX7_job 10 = .ok (.getfield 34, 3) := by decide +kernel
theorem dX7_job_13 : decode cX7_job 13 = .ok (.getfield 85, 3) := by decide +kernel
theorem dX7_job_16 : decode cX7_job 16 = .ok (.getfield 152, 3) := by decide +kernel
theorem dX7_job_19 : decode cX7_job 19 = .ok (.iload_n 1, 1) := by decide +kernel
theorem dX7_job_20 : decode cX7_job 20 = .ok (.iaload, 1) := by decide +kernel
theorem dX7_job_21 : decode cX7_job 21 = .ok (.goto 4, 3) := by decide +kernel
theorem dX7_job_24 : decode cX7_job 24 = .ok (.iconst 0, 1) := by decide +kernel
theorem dX7_job_25 : decode cX7_job 25 = .ok (.ireturn, 1) := by decide +kernel
theorem dX7_version_0 : decode cX7_version 0 = .ok (.aload_n 0, 1) := by decide +kernel
theorem dX7_version_1 : decode cX7_version 1 = .ok (.getfield 34, 3) := by decide +kernel
theorem dX7_version_4 : decode cX7_version 4 = .ok (.getfield 155, 3) := by decide +kernel
theorem dX7_version_7 : decode cX7_version 7 = .ok (.ireturn, 1) := by decide +kernel
theorem dX7_logged_0 : decode cX7_logged 0 = .ok (.aload_n 0, 1) := by decide +kernel
theorem dX7_logged_1 : decode cX7_logged 1 = .ok (.getfield 48, 3) := by decide +kernel
theorem dX7_logged_4 : decode cX7_logged 4 = .ok (.bipush 16, 2) := by decide +kernel
theorem dX7_logged_6 : decode cX7_logged 6 = .ok (.if_icmp .lt 7, 3) := by decide +kernel
theorem dX7_logged_9 : decode cX7_logged 9 = .ok (.aload_n 0, 1) := by decide +kernel
theorem dX7_logged_10 : decode cX7_logged 10 = .ok (.invokevirtual 94, 3) := by decide +kernel
theorem dX7_logged_13 : decode cX7_logged 13 = .ok (.aload_n 0, 1) := by decide +kernel
theorem dX7_logged_14 : decode cX7_logged 14 = .ok (.getfield 43, 3) := by decide +kernel
theorem dX7_logged_17 : decode cX7_logged 17 = .ok (.aload_n 0, 1) := by decide +kernel
theorem dX7_logged_18 : decode cX7_logged 18 = .ok (.getfield 48, 3) := by decide +kernel
theorem dX7_logged_21 : decode cX7_logged 21 = .ok (.aaload, 1) := by decide +kernel
theorem dX7_logged_22 : decode cX7_logged 22 = .ok (.astore 5, 2) := by decide +kernel
theorem dX7_logged_24 : decode cX7_logged 24 = .ok (.aload_n 0, 1) := by decide +kernel
theorem dX7_logged_25 : decode cX7_logged 25 = .ok (.dup, 1) := by decide +kernel
theorem dX7_logged_26 : decode cX7_logged 26 = .ok (.getfield 48, 3) := by decide +kernel
theorem dX7_logged_29 : decode cX7_logged 29 = .ok (.iconst 1, 1) := by decide +kernel
theorem dX7_logged_30 : decode cX7_logged 30 = .ok (.iadd, 1) := by decide +kernel
theorem dX7_logged_31 : decode cX7_logged 31 = .ok (.putfield 48, 3) := by decide +kernel
theorem dX7_logged_34 : decode cX7_logged 34 = .ok (.aload 5, 2) := by decide +kernel
theorem dX7_logged_36 : decode cX7_logged 36 = .ok (.iload_n 1, 1) := by decide +kernel
theorem dX7_logged_37 : decode cX7_logged 37 = .ok (.putfield 158, 3) := by decide +kernel
theorem dX7_logged_40 : decode cX7_logged 40 = .ok (.aload 5, 2) := by decide +kernel
theorem dX7_logged_42 : decode cX7_logged 42 = .ok (.iload_n 2, 1) := by decide +kernel
theorem dX7_logged_43 : decode cX7_logged 43 = .ok (.putfield 161, 3) := by decide +kernel
theorem dX7_logged_46 : decode cX7_logged 46 = .ok (.aload 5, 2) := by decide +kernel
theorem dX7_logged_48 : decode cX7_logged 48 = .ok (.iload_n 3, 1) := by decide +kernel
theorem dX7_logged_49 : decode cX7_logged 49 = .ok (.putfield 164, 3) := by decide +kernel
theorem dX7_logged_52 : decode cX7_logged 52 = .ok (.aload 5, 2) := by decide +kernel
theorem dX7_logged_54 : decode cX7_logged 54 = .ok (.iload 4, 2) := by decide +kernel
theorem dX7_logged_56 : decode cX7_logged 56 = .ok (.putfield 167, 3) := by decide +kernel
theorem dX7_logged_59 : decode cX7_logged 59 = .ok (.aload 5, 2) := by decide +kernel
theorem dX7_logged_61 : decode cX7_logged 61 = .ok (.areturn, 1) := by decide +kernel
theorem dX7_keepLiveState_0 : decode cX7_keepLiveState 0 = .ok (.aload_n 0, 1) := by decide +kernel
theorem dX7_keepLiveState_1 : decode cX7_keepLiveState 1 = .ok (.getfield 38, 3) := by decide +kernel
theorem dX7_keepLiveState_4 : decode cX7_keepLiveState 4 = .ok (.aload_n 0, 1) := by decide +kernel
theorem dX7_keepLiveState_5 : decode cX7_keepLiveState 5 = .ok (.getfield 34, 3) := by decide +kernel
theorem dX7_keepLiveState_8 : decode cX7_keepLiveState 8 = .ok (.invokevirtual 97, 3) := by decide +kernel
theorem dX7_keepLiveState_11 : decode cX7_keepLiveState 11 = .ok (.aload_n 0, 1) := by decide +kernel
theorem dX7_keepLiveState_12 : decode cX7_keepLiveState 12 = .ok (.iconst 0, 1) := by decide +kernel
theorem dX7_keepLiveState_13 : decode cX7_keepLiveState 13 = .ok (.putfield 48, 3) := by decide +kernel
theorem dX7_keepLiveState_16 : decode cX7_keepLiveState 16 = .ok (.return_, 1) := by decide +kernel
theorem dX7_clamped_0 : decode cX7_clamped 0 = .ok (.iload_n 1, 1) := by decide +kernel
theorem dX7_clamped_1 : decode cX7_clamped 1 = .ok (.iload_n 2, 1) := by decide +kernel
theorem dX7_clamped_2 : decode cX7_clamped 2 = .ok (.iload_n 0, 1) := by decide +kernel
theorem dX7_clamped_3 : decode cX7_clamped 3 = .ok (.invokestatic 170, 3) := by decide +kernel
theorem dX7_clamped_6 : decode cX7_clamped 6 = .ok (.invokestatic 176, 3) := by decide +kernel
theorem dX7_clamped_9 : decode cX7_clamped 9 = .ok (.ireturn, 1) := by decide +kernel
theorem dX7_isPath_0 : decode cX7_isPath 0 = .ok (.iload_n 0, 1) := by decide +kernel
theorem dX7_isPath_1 : decode cX7_isPath 1 = .ok (.ifCond .lt 13, 3) := by decide +kernel
theorem dX7_isPath_4 : decode cX7_isPath 4 = .ok (.iload_n 0, 1) := by decide +kernel
theorem dX7_isPath_5 : decode cX7_isPath 5 = .ok (.bipush 6, 2) := by decide +kernel
theorem dX7_isPath_7 : decode cX7_isPath 7 = .ok (.if_icmp .ge 7, 3) := by decide +kernel
theorem dX7_isPath_10 : decode cX7_isPath 10 = .ok (.iconst 1, 1) := by decide +kernel
theorem dX7_isPath_11 : decode cX7_isPath 11 = .ok (.goto 4, 3) := by decide +kernel
theorem dX7_isPath_14 : decode cX7_isPath 14 = .ok (.iconst 0, 1) := by decide +kernel
theorem dX7_isPath_15 : decode cX7_isPath 15 = .ok (.ireturn, 1) := by decide +kernel
theorem dX7_isReviewer_0 : decode cX7_isReviewer 0 = .ok (.iload_n 0, 1) := by decide +kernel
theorem dX7_isReviewer_1 : decode cX7_isReviewer 1 = .ok (.ifCond .lt 13, 3) := by decide +kernel
theorem dX7_isReviewer_4 : decode cX7_isReviewer 4 = .ok (.iload_n 0, 1) := by decide +kernel
theorem dX7_isReviewer_5 : decode cX7_isReviewer 5 = .ok (.bipush 8, 2) := by decide +kernel
theorem dX7_isReviewer_7 : decode cX7_isReviewer 7 = .ok (.if_icmp .ge 7, 3) := by decide +kernel
theorem dX7_isReviewer_10 : decode cX7_isReviewer 10 = .ok (.iconst 1, 1) := by decide +kernel
theorem dX7_isReviewer_11 : decode cX7_isReviewer 11 = .ok (.goto 4, 3) := by decide +kernel
theorem dX7_isReviewer_14 : decode cX7_isReviewer 14 = .ok (.iconst 0, 1) := by decide +kernel
theorem dX7_isReviewer_15 : decode cX7_isReviewer 15 = .ok (.ireturn, 1) := by decide +kernel
theorem dX7_isWorker_0 : decode cX7_isWorker 0 = .ok (.iload_n 0, 1) := by decide +kernel
theorem dX7_isWorker_1 : decode cX7_isWorker 1 = .ok (.ifCond .lt 12, 3) := by decide +kernel
theorem dX7_isWorker_4 : decode cX7_isWorker 4 = .ok (.iload_n 0, 1) := by decide +kernel
theorem dX7_isWorker_5 : decode cX7_isWorker 5 = .ok (.iconst 4, 1) := by decide +kernel
theorem dX7_isWorker_6 : decode cX7_isWorker 6 = .ok (.if_icmp .ge 7, 3) := by decide +kernel
theorem dX7_isWorker_9 : decode cX7_isWorker 9 = .ok (.iconst 1, 1) := by decide +kernel
theorem dX7_isWorker_10 : decode cX7_isWorker 10 = .ok (.goto 4, 3) := by decide +kernel
theorem dX7_isWorker_13 : decode cX7_isWorker 13 = .ok (.iconst 0, 1) := by decide +kernel
theorem dX7_isWorker_14 : decode cX7_isWorker 14 = .ok (.ireturn, 1) := by decide +kernel
theorem dX7_copyNumbers_0 : decode cX7_copyNumbers 0 = .ok (.aload_n 0, 1) := by decide +kernel
theorem dX7_copyNumbers_1 : decode cX7_copyNumbers 1 = .ok (.iconst 0, 1) := by decide +kernel
theorem dX7_copyNumbers_2 : decode cX7_copyNumbers 2 = .ok (.aload_n 1, 1) := by decide +kernel
theorem dX7_copyNumbers_3 : decode cX7_copyNumbers 3 = .ok (.iconst 0, 1) := by decide +kernel
theorem dX7_copyNumbers_4 : decode cX7_copyNumbers 4 = .ok (.aload_n 0, 1) := by decide +kernel
theorem dX7_copyNumbers_5 : decode cX7_copyNumbers 5 = .ok (.arraylength, 1) := by decide +kernel
theorem dX7_copyNumbers_6 : decode cX7_copyNumbers 6 = .ok (.aload_n 1, 1) := by decide +kernel
theorem dX7_copyNumbers_7 : decode cX7_copyNumbers 7 = .ok (.arraylength, 1) := by decide +kernel
theorem dX7_copyNumbers_8 : decode cX7_copyNumbers 8 = .ok (.invokestatic 170, 3) := by decide +kernel
theorem dX7_copyNumbers_11 : decode cX7_copyNumbers 11 = .ok (.invokestatic 179, 3) := by decide +kernel
theorem dX7_copyNumbers_14 : decode cX7_copyNumbers 14 = .ok (.return_, 1) := by decide +kernel
theorem dX8_init_0 : decode cX8_init 0 = .ok (.aload_n 0, 1) := by decide +kernel
theorem dX8_init_1 : decode cX8_init 1 = .ok (.invokespecial 1, 3) := by decide +kernel
theorem dX8_init_4 : decode cX8_init 4 = .ok (.aload_n 0, 1) := by decide +kernel
theorem dX8_init_5 : decode cX8_init 5 = .ok (.sipush 512, 3) := by decide +kernel
theorem dX8_init_8 : decode cX8_init 8 = .ok (.newarray .int, 2) := by decide +kernel
theorem dX8_init_10 : decode cX8_init 10 = .ok (.putfield 7, 3) := by decide +kernel
theorem dX8_init_13 : decode cX8_init 13 = .ok (.aload_n 0, 1) := by decide +kernel
theorem dX8_init_14 : decode cX8_init 14 = .ok (.sipush 512, 3) := by decide +kernel
theorem dX8_init_17 : decode cX8_init 17 = .ok (.newarray .int, 2) := by decide +kernel
theorem dX8_init_19 : decode cX8_init 19 = .ok (.putfield 13, 3) := by decide +kernel
theorem dX8_init_22 : decode cX8_init 22 = .ok (.aload_n 0, 1) := by decide +kernel
theorem dX8_init_23 : decode cX8_init 23 = .ok (.sipush 512, 3) := by decide +kernel
theorem dX8_init_26 : decode cX8_init 26 = .ok (.newarray .int, 2) := by decide +kernel
theorem dX8_init_28 : decode cX8_init 28 = .ok (.putfield 16, 3) := by decide +kernel
theorem dX8_init_31 : decode cX8_init 31 = .ok (.aload_n 0, 1) := by decide +kernel
theorem dX8_init_32 : decode cX8_init 32 = .ok (.sipush 512, 3) := by decide +kernel
theorem dX8_init_35 : decode cX8_init 35 = .ok (.newarray .int, 2) := by decide +kernel
theorem dX8_init_37 : decode cX8_init 37 = .ok (.putfield 19, 3) := by decide +kernel
theorem dX8_init_40 : decode cX8_init 40 = .ok (.aload_n 0, 1) := by decide +kernel
theorem dX8_init_41 : decode cX8_init 41 = .ok (.bipush 6, 2) := by decide +kernel
theorem dX8_init_43 : decode cX8_init 43 = .ok (.newarray .int, 2) := by decide +kernel
theorem dX8_init_45 : decode cX8_init 45 = .ok (.putfield 22, 3) := by decide +kernel
theorem dX8_init_48 : decode cX8_init 48 = .ok (.aload_n 0, 1) := by decide +kernel
theorem dX8_init_49 : decode cX8_init 49 = .ok (.bipush 96, 2) := by decide +kernel
theorem dX8_init_51 : decode cX8_init 51 = .ok (.newarray .int, 2) := by decide +kernel
theorem dX8_init_53 : decode cX8_init 53 = .ok (.putfield 25, 3) := by decide +kernel
theorem dX8_init_56 : decode cX8_init 56 = .ok (.aload_n 0, 1) := by decide +kernel
theorem dX8_init_57 : decode cX8_init 57 = .ok (.bipush 96, 2) := by decide +kernel
theorem dX8_init_59 : decode cX8_init 59 = .ok (.newarray .int, 2) := by decide +kernel
theorem dX8_init_61 : decode cX8_init 61 = .ok (.putfield 28, 3) := by decide +kernel
theorem dX8_init_64 : decode cX8_init 64 = .ok (.aload_n 0, 1) := by decide +kernel
theorem dX8_init_65 : decode cX8_init 65 = .ok (.bipush 16, 2) := by decide +kernel
theorem dX8_init_67 : decode cX8_init 67 = .ok (.newarray .int, 2) := by decide +kernel
theorem dX8_init_69 : decode cX8_init 69 = .ok (.putfield 31, 3) := by decide +kernel
theorem dX8_init_72 : decode cX8_init 72 = .ok (.aload_n 0, 1) := by decide +kernel
theorem dX8_init_73 : decode cX8_init 73 = .ok (.bipush 16, 2) := by decide +kernel
theorem dX8_init_75 : decode cX8_init 75 = .ok (.newarray .int, 2) := by decide +kernel
theorem dX8_init_77 : decode cX8_init 77 = .ok (.putfield 34, 3) := by decide +kernel
theorem dX8_init_80 : decode cX8_init 80 = .ok (.aload_n 0, 1) := by decide +kernel
theorem dX8_init_81 : decode cX8_init 81 = .ok (.sipush 128, 3) := by decide +kernel
theorem dX8_init_84 : decode cX8_init 84 = .ok (.newarray .int, 2) := by decide +kernel
theorem dX8_init_86 : decode cX8_init 86 = .ok (.putfield 37, 3) := by decide +kernel
theorem dX8_init_89 : decode cX8_init 89 = .ok (.aload_n 0, 1) := by decide +kernel
theorem dX8_init_90 : decode cX8_init 90 = .ok (.bipush 16, 2) := by decide +kernel
theorem dX8_init_92 : decode cX8_init 92 = .ok (.newarray .int, 2) := by decide +kernel
theorem dX8_init_94 : decode cX8_init 94 = .ok (.putfield 40, 3) := by decide +kernel
theorem dX8_init_97 : decode cX8_init 97 = .ok (.aload_n 0, 1) := by decide +kernel
theorem dX8_init_98 : decode cX8_init 98 = .ok (.bipush 9, 2) := by decide +kernel
theorem dX8_init_100 : decode cX8_init 100 = .ok (.newarray .int, 2) := by decide +kernel
theorem dX8_init_102 : decode cX8_init 102 = .ok (.putfield 43, 3) := by decide +kernel
theorem dX8_init_105 : decode cX8_init 105 = .ok (.aload_n 0, 1) := by decide +kernel
theorem dX8_init_106 : decode cX8_init 106 = .ok (.iconst 4, 1) := by decide +kernel
theorem dX8_init_107 : decode cX8_init 107 = .ok (.newarray .int, 2) := by decide +kernel
theorem dX8_init_109 : decode cX8_init 109 = .ok (.putfield 46, 3) := by decide +kernel
theorem dX8_init_112 : decode cX8_init 112 = .ok (.aload_n 0, 1) := by decide +kernel
theorem dX8_init_113 : decode cX8_init 113 = .ok (.iconst 4, 1) := by decide +kernel
theorem dX8_init_114 : decode cX8_init 114 = .ok (.newarray .int, 2) := by decide +kernel
theorem dX8_init_116 : decode cX8_init 116 = .ok (.putfield 49, 3) := by decide +kernel
theorem dX8_init_119 : decode cX8_init 119 = .ok (.aload_n 0, 1) := by decide +kernel
theorem dX8_init_120 : decode cX8_init 120 = .ok (.iconst 4, 1) := by decide +kernel
theorem dX8_init_121 : decode cX8_init 121 = .ok (.newarray .int, 2) := by decide +kernel
theorem dX8_init_123 : decode cX8_init 123 = .ok (.putfield 52, 3) := by decide +kernel
theorem dX8_init_126 : decode cX8_init 126 = .ok (.aload_n 0, 1) := by decide +kernel
theorem dX8_init_127 : decode cX8_init 127 = .ok (.iconst 4, 1) := by decide +kernel
theorem dX8_init_128 : decode cX8_init 128 = .ok (.newarray .int, 2) := by decide +kernel
theorem dX8_init_130 : decode cX8_init 130 = .ok (.putfield 55, 3) := by decide +kernel
theorem dX8_init_133 : decode cX8_init 133 = .ok (.aload_n 0, 1) := by decide +kernel
theorem dX8_init_134 : decode cX8_init 134 = .ok (.bipush 6, 2) := by decide +kernel
theorem dX8_init_136 : decode cX8_init 136 = .ok (.newarray .int, 2) := by decide +kernel
theorem dX8_init_138 : decode cX8_init 138 = .ok (.putfield 58, 3) := by decide +kernel
theorem dX8_init_141 : decode cX8_init 141 = .ok (.aload_n 0, 1) := by decide +kernel
theorem dX8_init_142 : decode cX8_init 142 = .ok (.bipush 16, 2) := by decide +kernel
theorem dX8_init_144 : decode cX8_init 144 = .ok (.newarray .boolean, 2) := by decide +kernel
theorem dX8_init_146 : decode cX8_init 146 = .ok (.putfield 61, 3) := by decide +kernel
theorem dX8_init_149 : decode cX8_init 149 = .ok (.aload_n 0, 1) := by decide +kernel
theorem dX8_init_150 : decode cX8_init 150 = .ok (.iload_n 1, 1) := by decide +kernel
theorem dX8_init_151 : decode cX8_init 151 = .ok (.iconst 0, 1) := by decide +kernel
theorem dX8_init_152 : decode cX8_init 152 = .ok (.iconst 3, 1) := by decide +kernel
theorem dX8_init_153 : decode cX8_init 153 = .ok (.invokestatic 65, 3) := by decide +kernel
theorem dX8_init_156 : decode cX8_init 156 = .ok (.putfield 69, 3) := by decide +kernel
theorem dX8_init_159 : decode cX8_init 159 = .ok (.aload_n 0, 1) := by decide +kernel
theorem dX8_init_160 : decode cX8_init 160 = .ok (.iload_n 2, 1) := by decide +kernel
theorem dX8_init_161 : decode cX8_init 161 = .ok (.iconst 1, 1) := by decide +kernel
theorem dX8_init_162 : decode cX8_init 162 = .ok (.bipush 8, 2) := by decide +kernel
theorem dX8_init_164 : decode cX8_init 164 = .ok (.invokestatic 65, 3) := by decide +kernel
theorem dX8_init_167 : decode cX8_init 167 = .ok (.putfield 73, 3) := by decide +kernel
theorem dX8_init_170 : decode cX8_init 170 = .ok (.aload_n 0, 1) := by decide +kernel
theorem dX8_init_171 : decode cX8_init 171 = .ok (.iload_n 3, 1) := by decide +kernel
theorem dX8_init_172 : decode cX8_init 172 = .ok (.iconst 0, 1) := by decide +kernel
theorem dX8_init_173 : decode cX8_init 173 = .ok (.iconst 2, 1) := by decide +kernel
theorem dX8_init_174 : decode cX8_init 174 = .ok (.invokestatic 65, 3) := by decide +kernel
theorem dX8_init_177 : decode cX8_init 177 = .ok (.putfield 76, 3) := by decide +kernel
theorem dX8_init_180 : decode cX8_init 180 = .ok (.aload_n 0, 1) := by decide +kernel
theorem dX8_init_181 : decode cX8_init 181 = .ok (.iload 4, 2) := by decide +kernel
theorem dX8_init_183 : decode cX8_init 183 = .ok (.iconst 1, 1) := by decide +kernel
theorem dX8_init_184 : decode cX8_init 184 = .ok (.bipush 9, 2) := by decide +kernel
theorem dX8_init_186 : decode cX8_init 186 = .ok (.invokestatic 65, 3) := by decide +kernel
theorem dX8_init_189 : decode cX8_init 189 = .ok (.putfield 79, 3) := by decide +kernel
theorem dX8_init_192 : decode cX8_init 192 = .ok (.aload_n 0, 1) := by decide +kernel
theorem dX8_init_193 : decode cX8_init 193 = .ok (.invokevirtual 82, 3) := by decide +kernel
theorem dX8_init_196 : decode cX8_init 196 = .ok (.return_, 1) := by decide +kernel
theorem dX8_within_0 : decode cX8_within 0 = .ok (.iload_n 0, 1) := by decide +kernel
theorem dX8_within_1 : decode cX8_within 1 = .ok (.iload_n 1, 1) := by decide +kernel
theorem dX8_within_2 : decode cX8_within 2 = .ok (.if_icmp .ge 7, 3) := by decide +kernel
theorem dX8_within_5 : decode cX8_within 5 = .ok (.iload_n 1, 1) := by decide +kernel
theorem dX8_within_6 : decode cX8_within 6 = .ok (.goto 13, 3) := by decide +kernel
theorem dX8_within_9 : decode cX8_within 9 = .ok (.iload_n 0, 1) := by decide +kernel
theorem dX8_within_10 : decode cX8_within 10 = .ok (.iload_n 2, 1) := by decide +kernel
theorem dX8_within_11 : decode cX8_within 11 = .ok (.if_icmp .le 7, 3) := by decide +kernel
theorem dX8_within_14 : decode cX8_within 14 = .ok (.iload_n 2, 1) := by decide +kernel
theorem dX8_within_15 : decode cX8_within 15 = .ok (.goto 4, 3) := by decide +kernel
theorem dX8_within_18 : decode cX8_within 18 = .ok (.iload_n 0, 1) := by decide +kernel
theorem dX8_within_19 : decode cX8_within 19 = .ok (.ireturn, 1) := by decide +kernel
theorem dX8_begin_0 : decode cX8_begin 0 = .ok (.iconst 0, 1) := by decide +kernel
theorem dX8_begin_1 : decode cX8_begin 1 = .ok (.istore_n 1, 1) := by decide +kernel
theorem dX8_begin_2 : decode cX8_begin 2 = .ok (.iload_n 1, 1) := by decide +kernel
theorem dX8_begin_3 : decode cX8_begin 3 = .ok (.bipush 6, 2) := by decide +kernel
theorem dX8_begin_5 : decode cX8_begin 5 = .ok (.if_icmp .ge 25, 3) := by decide +kernel
theorem dX8_begin_8 : decode cX8_begin 8 = .ok (.aload_n 0, 1) := by decide +kernel
theorem dX8_begin_9 : decode cX8_begin 9 = .ok (.getfield 22, 3) := by decide +kernel
theorem dX8_begin_12 : decode cX8_begin 12 = .ok (.iload_n 1, 1) := by decide +kernel
theorem dX8_begin_13 : decode cX8_begin 13 = .ok (.iload_n 1, 1) := by decide +kernel
theorem dX8_begin_14 : decode cX8_begin 14 = .ok (.ifCond .ne 8, 3) := by decide +kernel
theorem dX8_begin_17 : decode cX8_begin 17 = .ok (.bipush 17, 2) := by decide +kernel
theorem dX8_begin_19 : decode cX8_begin 19 = .ok (.goto 4, 3) := by decide +kernel
theorem dX8_begin_22 : decode cX8_begin 22 = .ok (.iconst 0, 1) := by decide +kernel
theorem dX8_begin_23 : decode cX8_begin 23 = .ok (.iastore, 1) := by decide +kernel
theorem dX8_begin_24 : decode cX8_begin 24 = .ok (.iinc 1 1, 3) := by decide +kernel
theorem dX8_begin_27 : decode cX8_begin 27 = .ok (.goto (-25), 3) := by decide +kernel
theorem dX8_begin_30 : decode cX8_begin 30 = .ok (.aload_n 0, 1) := by decide +kernel
theorem dX8_begin_31 : decode cX8_begin 31 = .ok (.iconst 0, 1) := by decide +kernel
theorem dX8_begin_32 : decode cX8_begin 32 = .ok (.putfield 85, 3) := by decide +kernel
theorem dX8_begin_35 : decode cX8_begin 35 = .ok (.aload_n 0, 1) := by decide +kernel
theorem dX8_begin_36 : decode cX8_begin 36 = .ok (.iconst 0, 1) := by decide +kernel
theorem dX8_begin_37 : decode cX8_begin 37 = .ok (.putfield 88, 3) := by decide +kernel
theorem dX8_begin_40 : decode cX8_begin 40 = .ok (.aload_n 0, 1) := by decide +kernel
theorem dX8_begin_41 : decode cX8_begin 41 = .ok (.iconst 0, 1) := by decide +kernel
theorem dX8_begin_42 : decode cX8_begin 42 = .ok (.putfield 91, 3) := by decide +kernel
theorem dX8_begin_45 : decode cX8_begin 45 = .ok (.aload_n 0, 1) := by decide +kernel
theorem dX8_begin_46 : decode cX8_begin 46 = .ok (.iconst 0, 1) := by decide +kernel
theorem dX8_begin_47 : decode cX8_begin 47 = .ok (.putfield 94, 3) := by decide +kernel
theorem dX8_begin_50 : decode cX8_begin 50 = .ok (.aload_n 0, 1) := by decide +kernel
theorem dX8_begin_51 : decode cX8_begin 51 = .ok (.iconst 0, 1) := by decide +kernel
theorem dX8_begin_52 : decode cX8_begin 52 = .ok (.putfield 97, 3) := by decide +kernel
theorem dX8_begin_55 : decode cX8_begin 55 = .ok (.aload_n 0, 1) := by decide +kernel
theorem dX8_begin_56 : decode cX8_begin 56 = .ok (.iconst 0, 1) := by decide +kernel
theorem dX8_begin_57 : decode cX8_begin 57 = .ok (.putfield 100, 3) := by decide +kernel
theorem dX8_begin_60 : decode cX8_begin 60 = .ok (.iconst 0, 1) := by decide +kernel
theorem dX8_begin_61 : decode cX8_begin 61 = .ok (.istore_n 1, 1) := by decide +kernel
theorem dX8_begin_62 : decode cX8_begin 62 = .ok (.iload_n 1, 1) := by decide +kernel
theorem dX8_begin_63 : decode cX8_begin 63 = .ok (.iconst 4, 1) := by decide +kernel
theorem dX8_begin_64 : decode cX8_begin 64 = .ok (.if_icmp .ge 16, 3) := by decide +kernel
theorem dX8_begin_67 : decode cX8_begin 67 = .ok (.aload_n 0, 1) := by decide +kernel
theorem dX8_begin_68 : decode cX8_begin 68 = .ok (.getfield 52, 3) := by decide +kernel
theorem dX8_begin_71 : decode cX8_begin 71 = .ok (.iload_n 1, 1) := by decide +kernel
theorem dX8_begin_72 : decode cX8_begin 72 = .ok (.iconst (-1), 1) := by decide +kernel
theorem dX8_begin_73 : decode cX8_begin 73 = .ok (.iastore, 1) := by decide +kernel
theorem dX8_begin_74 : decode cX8_begin 74 = .ok (.iinc 1 1, 3) := by decide +kernel
theorem dX8_begin_77 : decode cX8_begin 77 = .ok (.goto (-15), 3) := by decide +kernel
theorem dX8_begin_80 : decode cX8_begin 80 = .ok (.return_, 1) := by decide +kernel
theorem dX8_conflicts_0 : decode cX8_conflicts 0 = .ok (.iconst 0, 1) := by decide +kernel
theorem dX8_conflicts_1 : decode cX8_conflicts 1 = .ok (.istore_n 2, 1) := by decide +kernel
theorem dX8_conflicts_2 : decode cX8_conflicts 2 = .ok (.iload_n 2, 1) := by decide +kernel
theorem dX8_conflicts_3 : decode cX8_conflicts 3 = .ok (.bipush 6, 2) := by decide +kernel
theorem dX8_conflicts_5 : decode cX8_conflicts 5 = .ok (.if_icmp .ge 63, 3) := by decide +kernel
theorem dX8_conflicts_8 : decode cX8_conflicts 8 = .ok (.aload_n 0, 1) := by decide +kernel
theorem dX8_conflicts_9 : decode cX8_conflicts 9 = .ok (.getfield 25, 3) := by decide +kernel
theorem dX8_conflicts_12 : decode cX8_conflicts 12 = .ok (.bipush 6, 2) := by decide +kernel
theorem dX8_conflicts_14 : decode cX8_conflicts 14 = .ok (.iload_n 1, 1) := by decide +kernel
theorem dX8_conflicts_15 : decode cX8_conflicts 15 = .ok (.imul, 1) := by decide +kernel
theorem dX8_conflicts_16 : decode cX8_conflicts 16 = .ok (.iload_n 2, 1) := by decide +kernel
theorem dX8_conflicts_17 : decode cX8_conflicts 17 = .ok (.iadd, 1) := by decide +kernel
theorem dX8_conflicts_18 : decode cX8_conflicts 18 = .ok (.iaload, 1) := by decide +kernel
theorem dX8_conflicts_19 : decode cX8_conflicts 19 = .ok (.istore_n 3, 1) := by decide +kernel
theorem dX8_conflicts_20 : decode cX8_conflicts 20 = .ok (.aload_n 0, 1) := by decide +kernel
theorem dX8_conflicts_21 : decode cX8_conflicts 21 = .ok (.getfield 28, 3) := by decide +kernel
theorem dX8_conflicts_24 : decode cX8_conflicts 24 = .ok (.bipush 6, 2) := by decide +kernel
theorem dX8_conflicts_26 : decode cX8_conflicts 26 = .ok (.iload_n 1, 1) := by decide +kernel
theorem dX8_conflicts_27 : decode cX8_conflicts 27 = .ok (.imul, 1) := by decide +kernel
theorem dX8_conflicts_28 : decode cX8_conflicts 28 = .ok (.iload_n 2, 1) := by decide +kernel
theorem dX8_conflicts_29 : decode cX8_conflicts 29 = .ok (.iadd, 1) := by decide +kernel
theorem dX8_conflicts_30 : decode cX8_conflicts 30 = .ok (.iaload, 1) := by decide +kernel
theorem dX8_conflicts_31 : decode cX8_conflicts 31 = .ok (.istore 4, 2) := by decide +kernel
theorem dX8_conflicts_33 : decode cX8_conflicts 33 = .ok (.iload_n 3, 1) := by decide +kernel
theorem dX8_conflicts_34 : decode cX8_conflicts 34 = .ok (.iload 4, 2) := by decide +kernel
theorem dX8_conflicts_36 : decode cX8_conflicts 36 = .ok (.if_icmp .eq 26, 3) := by decide +kernel
theorem dX8_conflicts_39 : decode cX8_conflicts 39 = .ok (.aload_n 0, 1) := by decide +kernel
theorem dX8_conflicts_40 : decode cX8_conflicts 40 = .ok (.getfield 58, 3) := by decide +kernel
theorem dX8_conflicts_43 : decode cX8_conflicts 43 = .ok (.iload_n 2, 1) := by decide +kernel
theorem dX8_conflicts_44 : decode cX8_conflicts 44 = .ok (.iaload, 1) := by decide +kernel
theorem dX8_conflicts_45 : decode cX8_conflicts 45 = .ok (.iload_n 3, 1) := by decide +kernel
theorem dX8_conflicts_46 : decode cX8_conflicts 46 = .ok (.if_icmp .eq 16, 3) := by decide +kernel
theorem dX8_conflicts_49 : decode cX8_conflicts 49 = .ok (.aload_n 0, 1) := by decide +kernel
theorem dX8_conflicts_50 : decode cX8_conflicts 50 = .ok (.getfield 58, 3) := by decide +kernel
theorem dX8_conflicts_53 : decode cX8_conflicts 53 = .ok (.iload_n 2, 1) := by decide +kernel
theorem dX8_conflicts_54 : decode cX8_conflicts 54 = .ok (.iaload, 1) := by decide +kernel
theorem dX8_conflicts_55 : decode cX8_conflicts 55 = .ok (.iload 4, 2) := by decide +kernel
theorem dX8_conflicts_57 : decode cX8_conflicts 57 = .ok (.if_icmp .eq 5, 3) := by decide +kernel
theorem dX8_conflicts_60 : decode cX8_conflicts 60 = .ok (.iconst 1, 1) := by decide +kernel
theorem dX8_conflicts_61 : decode cX8_conflicts 61 = .ok (.ireturn, 1) := by decide +kernel
theorem dX8_conflicts_62 : decode cX8_conflicts 62 = .ok (.iinc 2 1, 3) := by decide +kernel
theorem dX8_conflicts_65 : decode cX8_conflicts 65 = .ok (.goto (-63), 3) := by decide +kernel
theorem dX8_conflicts_68 : decode cX8_conflicts 68 = .ok (.iconst 0, 1) := by decide +kernel
theorem dX8_conflicts_69 : decode cX8_conflicts 69 = .ok (.istore_n 2, 1) := by decide +kernel
theorem dX8_conflicts_70 : decode cX8_conflicts 70 = .ok (.iload_n 2, 1) := by decide +kernel
theorem dX8_conflicts_71 : decode cX8_conflicts 71 = .ok (.bipush 6, 2) := by decide +kernel
theorem dX8_conflicts_73 : decode cX8_conflicts 73 = .ok (.if_icmp .ge 60, 3) := by decide +kernel
theorem dX8_conflicts_76 : decode cX8_conflicts 76 = .ok (.aload_n 0, 1) := by decide +kernel
theorem dX8_conflicts_77 : decode cX8_conflicts 77 = .ok (.getfield 58, 3) := by decide +kernel
theorem dX8_conflicts_80 : decode cX8_conflicts 80 = .ok (.iload_n 2, 1) := by decide +kernel
theorem dX8_conflicts_81 : decode cX8_conflicts 81 = .ok (.aload_n 0, 1) := by decide +kernel
theorem dX8_conflicts_82 : decode cX8_conflicts 82 = .ok (.getfield 28, 3) := by decide +kernel
theorem dX8_conflicts_85 : decode cX8_conflicts 85 = .ok (.bipush 6, 2) := by decide +kernel
theorem dX8_conflicts_87 : decode cX8_conflicts 87 = .ok (.iload_n 1, 1) := by decide +kernel
theorem dX8_conflicts_88 : decode cX8_conflicts 88 = .ok (.imul, 1) := by decide +kernel
theorem dX8_conflicts_89 : decode cX8_conflicts 89 = .ok (.iload_n 2, 1) := by decide +kernel
theorem dX8_conflicts_90 : decode cX8_conflicts 90 = .ok (.iadd, 1) := by decide +kernel
theorem dX8_conflicts_91 : decode cX8_conflicts 91 = .ok (.iaload, 1) := by decide +kernel
theorem dX8_conflicts_92 : decode cX8_conflicts 92 = .ok (.aload_n 0, 1) := by decide +kernel
theorem dX8_conflicts_93 : decode cX8_conflicts 93 = .ok (.getfield 25, 3) := by decide +kernel
theorem dX8_conflicts_96 : decode cX8_conflicts 96 = .ok (.bipush 6, 2) := by decide +kernel
theorem dX8_conflicts_98 : decode cX8_conflicts 98 = .ok (.iload_n 1, 1) := by decide +kernel
theorem dX8_conflicts_99 : decode cX8_conflicts 99 = .ok (.imul, 1) := by decide +kernel
theorem dX8_conflicts_100 : decode cX8_conflicts 100 = .ok (.iload_n 2, 1) := by decide +kernel
theorem dX8_conflicts_101 : decode cX8_conflicts 101 = .ok (.iadd, 1) := by decide +kernel
theorem dX8_conflicts_102 : decode cX8_conflicts 102 = .ok (.iaload, 1) := by decide +kernel
theorem dX8_conflicts_103 : decode cX8_conflicts 103 = .ok (.if_icmp .eq 17, 3) := by decide +kernel
theorem dX8_conflicts_106 : decode cX8_conflicts 106 = .ok (.aload_n 0, 1) := by decide +kernel
theorem dX8_conflicts_107 : decode cX8_conflicts 107 = .ok (.getfield 28, 3) := by decide +kernel
theorem dX8_conflicts_110 : decode cX8_conflicts 110 = .ok (.bipush 6, 2) := by decide +kernel
theorem dX8_conflicts_112 : decode cX8_conflicts 112 = .ok (.iload_n 1, 1) := by decide +kernel
theorem dX8_conflicts_113 : decode cX8_conflicts 113 = .ok (.imul, 1) := by decide +kernel
theorem dX8_conflicts_114 : decode cX8_conflicts 114 = .ok (.iload_n 2, 1) := by decide +kernel
theorem dX8_conflicts_115 : decode cX8_conflicts 115 = .ok (.iadd, 1) := by decide +kernel
theorem dX8_conflicts_116 : decode cX8_conflicts 116 = .ok (.iaload, 1) := by decide +kernel
theorem dX8_conflicts_117 : decode cX8_conflicts 117 = .ok (.goto 9, 3) := by decide +kernel
theorem dX8_conflicts_120 : decode cX8_conflicts 120 = .ok (.aload_n 0, 1) := by decide +kernel
theorem dX8_conflicts_121 : decode cX8_conflicts 121 = .ok (.getfield 58, 3) := by decide +kernel
theorem dX8_conflicts_124 : decode cX8_conflicts 124 = .ok (.iload_n 2, 1) := by decide +kernel
theorem dX8_conflicts_125 : decode cX8_conflicts 125 = .ok (.iaload, 1) := by decide +kernel
theorem dX8_conflicts_126 : decode cX8_conflicts 126 = .ok (.iastore, 1) := by decide +kernel
theorem dX8_conflicts_127 : decode cX8_conflicts 127 = .ok (.iinc 2 1, 3) := by decide +kernel
theorem dX8_conflicts_130 : decode cX8_conflicts 130 = .ok (.goto (-60), 3) := by decide +kernel
theorem dX8_conflicts_133 : decode cX8_conflicts 133 = .ok (.iconst 0, 1) := by decide +kernel
theorem dX8_conflicts_134 : decode cX8_conflicts 134 = .ok (.ireturn, 1) := by decide +kernel
theorem dX8_startTree_0 : decode cX8_startTree 0 = .ok (.iconst 0, 1) := by decide +kernel
theorem dX8_startTree_1 : decode cX8_startTree 1 = .ok (.istore_n 1, 1) := by decide +kernel
theorem dX8_startTree_2 : decode cX8_startTree 2 = .ok (.iload_n 1, 1) := by decide +kernel
theorem dX8_startTree_3 : decode cX8_startTree 3 = .ok (.bipush 6, 2) := by decide +kernel
theorem dX8_startTree_5 : decode cX8_startTree 5 = .ok (.if_icmp .ge 21, 3) := by decide +kernel
theorem dX8_startTree_8 : decode cX8_startTree 8 = .ok (.aload_n 0, 1) := by decide +kernel
theorem dX8_startTree_9 : decode cX8_startTree 9 = .ok (.getfield 58, 3) := by decide +kernel
theorem dX8_startTree_12 : decode cX8_startTree 12 = .ok (.iload_n 1, 1) := by decide +kernel
theorem dX8_startTree_13 : decode cX8_startTree 13 = .ok (.aload_n 0, 1) := by decide +kernel
theorem dX8_startTree_14 : decode cX8_startTree 14 = .ok (.getfield 22, 3) := by decide +kernel
theorem dX8_startTree_17 : decode cX8_startTree 17 = .ok (.iload_n 1, 1) := by decide +kernel
theorem dX8_startTree_18 : decode cX8_startTree 18 = .ok (.iaload, 1) := by decide +kernel
theorem dX8_startTree_19 : decode cX8_startTree 19 = .ok (.iastore, 1) := by decide +kernel
theorem dX8_startTree_20 : decode cX8_startTree 20 = .ok (.iinc 1 1, 3) := by decide +kernel
theorem dX8_startTree_23 : decode cX8_startTree 23 = .ok (.goto (-21), 3) := by decide +kernel
theorem dX8_startTree_26 : decode cX8_startTree 26 = .ok (.return_, 1) := by decide +kernel
theorem dX8_batchTree_0 : decode cX8_batchTree 0 = .ok (.aload_n 0, 1) := by decide +kernel
theorem dX8_batchTree_1 : decode cX8_batchTree 1 = .ok (.invokevirtual 103, 3) := by decide +kernel
theorem dX8_batchTree_4 : decode cX8_batchTree 4 = .ok (.iconst 0, 1) := by decide +kernel
theorem dX8_batchTree_5 : decode cX8_batchTree 5 = .ok (.istore_n 1, 1) := by decide +kernel
theorem dX8_batchTree_6 : decode cX8_batchTree 6 = .ok (.iload_n 1, 1) := by decide +kernel
theorem dX8_batchTree_7 : decode cX8_batchTree 7 = .ok (.aload_n 0, 1) := by decide +kernel
theorem dX8_batchTree_8 : decode cX8_batchTree 8 = .ok (.getfield 100, 3) := by decide +kernel
theorem dX8_batchTree_11 : decode cX8_batchTree 11 = .ok (.if_icmp .ge 23, 3) := by decide +kernel
theorem dX8_batchTree_14 : decode cX8_batchTree 14 = .ok (.aload_n 0, 1) := by decide +kernel
theorem dX8_batchTree_15 : decode cX8_batchTree 15 = .ok (.aload_n 0, 1) := by decide +kernel
theorem dX8_batchTree_16 : decode cX8_batchTree 16 = .ok (.getfield 40, 3) := by decide +kernel
theorem dX8_batchTree_19 : decode cX8_batchTree 19 = .ok (.iload_n 1, 1) := by decide +kernel
theorem dX8_batchTree_20 : decode cX8_batchTree 20 = .ok (.iaload, 1) := by decide +kernel
theorem dX8_batchTree_21 : decode cX8_batchTree 21 = .ok (.invokevirtual 106, 3) := by decide +kernel
theorem dX8_batchTree_24 : decode cX8_batchTree 24 = .ok (.ifCond .eq 4, 3) := by decide +kernel
theorem dX8_batchTree_27 : decode cX8_batchTree 27 = .ok (.return_, 1) := by decide +kernel
theorem dX8_batchTree_28 : decode cX8_batchTree 28 = .ok (.iinc 1 1, 3) := by decide +kernel
theorem dX8_batchTree_31 : decode cX8_batchTree 31 = .ok (.goto (-25), 3) := by decide +kernel
theorem dX8_batchTree_34 : decode cX8_batchTree 34 = .ok (.return_, 1) := by decide +kernel
theorem dX8_bit_0 : decode cX8_bit 0 = .ok (.aload_n 0, 1) := by decide +kernel
theorem dX8_bit_1 : decode cX8_bit 1 = .ok (.getfield 58, 3) := by decide +kernel
theorem dX8_bit_4 : decode cX8_bit 4 = .ok (.iconst 0, 1) := by decide +kernel
theorem dX8_bit_5 : decode cX8_bit 5 = .ok (.iaload, 1) := by decide +kernel
theorem dX8_bit_6 : decode cX8_bit 6 = .ok (.iload_n 1, 1) := by decide +kernel
theorem dX8_bit_7 : decode cX8_bit 7 = .ok (.ishr, 1) := by decide +kernel
theorem dX8_bit_8 : decode cX8_bit 8 = .ok (.iconst 1, 1) := by decide +kernel
theorem dX8_bit_9 : decode cX8_bit 9 = .ok (.iand, 1) := by decide +kernel
theorem dX8_bit_10 : decode cX8_bit 10 = .ok (.iconst 1, 1) := by decide +kernel
theorem dX8_bit_11 : decode cX8_bit 11 = .ok (.if_icmp .ne 7, 3) := by decide +kernel
theorem dX8_bit_14 : decode cX8_bit 14 = .ok (.iconst 1, 1) := by decide +kernel
theorem dX8_bit_15 : decode cX8_bit 15 = .ok (.goto 4, 3) := by decide +kernel
theorem dX8_bit_18 : decode cX8_bit 18 = .ok (.iconst 0, 1) := by decide +kernel
theorem dX8_bit_19 : decode cX8_bit 19 = .ok (.ireturn, 1) := by decide +kernel
theorem dX8_there_0 : decode cX8_there 0 = .ok (.aload_n 0, 1) := by decide +kernel
theorem dX8_there_1 : decode cX8_there 1 = .ok (.iload_n 1, 1) := by decide +kernel
theorem dX8_there_2 : decode cX8_there 2 = .ok (.invokevirtual 110, 3) := by decide +kernel
theorem dX8_there_5 : decode cX8_there 5 = .ok (.ireturn, 1) := by decide +kernel
theorem dX8_required_0 : decode cX8_required 0 = .ok (.aload_n 0, 1) := by decide +kernel
theorem dX8_required_1 : decode cX8_required 1 = .ok (.iload_n 1, 1) := by decide +kernel
theorem dX8_required_2 : decode cX8_required 2 = .ok (.invokevirtual 110, 3) := by decide +kernel
theorem dX8_required_5 : decode cX8_required 5 = .ok (.ifCond .eq 17, 3) := by decide +kernel
theorem dX8_required_8 : decode cX8_required 8 = .ok (.aload_n 0, 1) := by decide +kernel
theorem dX8_required_9 : decode cX8_required 9 = .ok (.iconst 4, 1) := by decide +kernel
theorem dX8_required_10 : decode cX8_required 10 = .ok (.iload_n 1, 1) := by decide +kernel
theorem dX8_required_11 : decode cX8_required 11 = .ok (.iadd, 1) := by decide +kernel
theorem dX8_required_12 : decode cX8_required 12 = .ok (.invokevirtual 110, 3) := by decide +kernel
theorem dX8_required_15 : decode cX8_required 15 = .ok (.ifCond .eq 7, 3) := by decide +kernel
theorem dX8_required_18 : decode cX8_required 18 = .ok (.iconst 1, 1) := by decide +kernel
theorem dX8_required_19 : decode cX8_required 19 = .ok (.goto 4, 3) := by decide +kernel
theorem dX8_required_22 : decode cX8_required 22 = .ok (.iconst 0, 1) := by decide +kernel
theorem dX8_required_23 : decode cX8_required 23 = .ok (.ireturn, 1) := by decide +kernel
theorem dX8_needs_0 : decode cX8_needs 0 = .ok (.aload_n 0, 1) := by decide +kernel
theorem dX8_needs_1 : decode cX8_needs 1 = .ok (.iload_n 1, 1) := by decide +kernel
theorem dX8_needs_2 : decode cX8_needs 2 = .ok (.invokevirtual 110, 3) := by decide +kernel
theorem dX8_needs_5 : decode cX8_needs 5 = .ok (.ifCond .eq 22, 3) := by decide +kernel
theorem dX8_needs_8 : decode cX8_needs 8 = .ok (.aload_n 0, 1) := by decide +kernel
theorem dX8_needs_9 : decode cX8_needs 9 = .ok (.bipush 8, 2) := by decide +kernel
theorem dX8_needs_11 : decode cX8_needs 11 = .ok (.iconst 4, 1) := by decide +kernel
theorem dX8_needs_12 : decode cX8_needs 12 = .ok (.iload_n 1, 1) := by decide +kernel
theorem dX8_needs_13 : decode cX8_needs 13 = .ok (.imul, 1) := by decide +kernel
theorem dX8_needs_14 : decode cX8_needs 14 = .ok (.iadd, 1) := by decide +kernel
theorem dX8_needs_15 : decode cX8_needs 15 = .ok (.iload_n 2, 1) := by decide +kernel
theorem dX8_needs_16 : decode cX8_needs 16 = .ok (.iadd, 1) := by decide +kernel
theorem dX8_needs_17 : decode cX8_needs 17 = .ok (.invokevirtual 110, 3) := by decide +kernel
theorem dX8_needs_20 : decode cX8_needs 20 = .ok (.ifCond .eq 7, 3) := by decide +kernel
theorem dX8_needs_23 : decode cX8_needs 23 = .ok (.iconst 1, 1) := by decide +kernel
theorem dX8_needs_24 : decode cX8_needs 24 = .ok (.goto 4, 3) := by decide +kernel
theorem dX8_needs_27 : decode cX8_needs 27 = .ok (.iconst 0, 1) := by decide +kernel
theorem dX8_needs_28 : decode cX8_needs 28 = .ok (.ireturn, 1) := by decide +kernel
theorem dX8_close4_0 : decode cX8_close4 0 = .ok (.iconst 0, 1) := by decide +kernel
theorem dX8_close4_1 : decode cX8_close4 1 = .ok (.istore_n 1, 1) := by decide +kernel
theorem dX8_close4_2 : decode cX8_close4 2 = .ok (.iload_n 1, 1) := by decide +kernel
theorem dX8_close4_3 : decode cX8_close4 3 = .ok (.bipush 16, 2) := by decide +kernel
theorem dX8_close4_5 : decode cX8_close4 5 = .ok (.if_icmp .ge 25, 3) := by decide +kernel
theorem dX8_close4_8 : decode cX8_close4 8 = .ok (.aload_n 0, 1) := by decide +kernel
theorem dX8_close4_9 : decode cX8_close4 9 = .ok (.getfield 61, 3) := by decide +kernel
theorem dX8_close4_12 : decode cX8_close4 12 = .ok (.iload_n 1, 1) := by decide +kernel
theorem dX8_close4_13 : decode cX8_close4 13 = .ok (.aload_n 0, 1) := by decide +kernel
theorem dX8_close4_14 : decode cX8_close4 14 = .ok (.iload_n 1, 1) := by decide +kernel
theorem dX8_close4_15 : decode cX8_close4 15 = .ok (.iconst 4, 1) := by decide +kernel
theorem dX8_close4_16 : decode cX8_close4 16 = .ok (.idiv, 1) := by decide +kernel
theorem dX8_close4_17 : decode cX8_close4 17 = .ok (.iload_n 1, 1) := by decide +kernel
theorem dX8_close4_18 : decode cX8_close4 18 = .ok (.iconst 4, 1) := by decide +kernel
theorem dX8_close4_19 : decode cX8_close4 19 = .ok (.irem, 1) := by decide +kernel
theorem dX8_close4_20 : decode cX8_close4 20 = .ok (.invokevirtual 113, 3) := by decide +kernel
theorem dX8_close4_23 : decode cX8_close4 23 = .ok (.bastore, 1) := by decide +kernel
theorem dX8_close4_24 : decode cX8_close4 24 = .ok (.iinc 1 1, 3) := by decide +kernel
theorem dX8_close4_27 : decode cX8_close4 27 = .ok (.goto (-25), 3) := by decide +kernel
theorem dX8_close4_30 : decode cX8_close4 30 = .ok (.iconst 0, 1) := by decide +kernel
theorem dX8_close4_31 : decode cX8_close4 31 = .ok (.istore_n 1, 1) := by decide +kernel
theorem dX8_close4_32 : decode cX8_close4 32 = .ok (.iload_n 1, 1) := by decide +kernel
theorem dX8_close4_33 : decode cX8_close4 33 = .ok (.iconst 4, 1) := by decide +kernel
theorem dX8_close4_34 : decode cX8_close4 34 = .ok (.if_icmp .ge 73, 3) := by decide +kernel
theorem dX8_close4_37 : decode cX8_close4 37 = .ok (.iconst 0, 1) := by decide +kernel
theorem dX8_close4_38 : decode cX8_close4 38 = .ok (.istore_n 2, 1) := by decide +kernel
theorem dX8_close4_39 : decode cX8_close4 39 = .ok (.iload_n 2, 1) := by decide +kernel
theorem dX8_close4_40 : decode cX8_close4 40 = .ok (.bipush 16, 2) := by decide +kernel
theorem dX8_close4_42 : decode cX8_close4 42 = .ok (.if_icmp .ge 59, 3) := by decide +kernel
theorem dX8_close4_45 : decode cX8_close4 45 = .ok (.aload_n 0, 1) := by decide +kernel
theorem dX8_close4_46 : decode cX8_close4 46 = .ok (.getfield 61, 3) := by decide +kernel
theorem dX8_close4_49 : decode cX8_close4 49 = .ok (.iload_n 2, 1) := by decide +kernel
theorem dX8_close4_50 : decode cX8_close4 50 = .ok (.aload_n 0, 1) := by decide +kernel
theorem dX8_close4_51 : decode cX8_close4 51 = .ok (.getfield 61, 3) := by decide +kernel
theorem dX8_close4_54 : decode cX8_close4 54 = .ok (.iload_n 2, 1) := by decide +kernel
theorem dX8_close4_55 : decode cX8_close4 55 = .ok (.baload, 1) := by decide +kernel
theorem dX8_close4_56 : decode cX8_close4 56 = .ok (.ifCond .ne 33, 3) := by decide +kernel
theorem dX8_close4_59 : decode cX8_close4 59 = .ok (.aload_n 0, 1) := by decide +kernel
theorem dX8_close4_60 : decode cX8_close4 60 = .ok (.getfield 61, 3) := by decide +kernel
theorem dX8_close4_63 : decode cX8_close4 63 = .ok (.iconst 4, 1) := by decide +kernel
theorem dX8_close4_64 : decode cX8_close4 64 = .ok (.iload_n 2, 1) := by decide +kernel
theorem dX8_close4_65 : decode cX8_close4 65 = .ok (.iconst 4, 1) := by decide +kernel
theorem dX8_close4_66 : decode cX8_close4 66 = .ok (.idiv, 1) := by decide +kernel
theorem dX8_close4_67 : decode cX8_close4 67 = .ok (.imul, 1) := by decide +kernel
theorem dX8_close4_68 : decode cX8_close4 68 = .ok (.iload_n 1, 1) := by decide +kernel
theorem dX8_close4_69 : decode cX8_close4 69 = .ok (.iadd, 1) := by decide +kernel
theorem dX8_close4_70 : decode cX8_close4 70 = .ok (.baload, 1) := by decide +kernel
theorem dX8_close4_71 : decode cX8_close4 71 = .ok (.ifCond .eq 22, 3) := by decide +kernel
theorem dX8_close4_74 : decode cX8_close4 74 = .ok (.aload_n 0, 1) := by decide +kernel
theorem dX8_close4_75 : decode cX8_close4 75 = .ok (.getfield 61, 3) := by decide +kernel
theorem dX8_close4_78 : decode cX8_close4 78 = .ok (.iconst 4, 1) := by decide +kernel
theorem dX8_close4_79 : decode cX8_close4 79 = .ok (.iload_n 1, 1) := by decide +kernel
theorem dX8_close4_80 : decode cX8_close4 80 = .ok (.imul, 1) := by decide +kernel
theorem dX8_close4_81 : decode cX8_close4 81 = .ok (.iload_n 2, 1) := by decide +kernel
theorem dX8_close4_82 : decode cX8_close4 82 = .ok (.iconst 4, 1) := by decide +kernel
theorem dX8_close4_83 : decode cX8_close4 83 = .ok (.irem, 1) := by decide +kernel
theorem dX8_close4_84 : decode cX8_close4 84 = .ok (.iadd, 1) := by decide +kernel
theorem dX8_close4_85 : decode cX8_close4 85 = .ok (.baload, 1) := by decide +kernel
theorem dX8_close4_86 : decode cX8_close4 86 = .ok (.ifCond .eq 7, 3) := by decide +kernel
theorem dX8_close4_89 : decode cX8_close4 89 = .ok (.iconst 1, 1) := by decide +kernel
theorem dX8_close4_90 : decode cX8_close4 90 = .ok (.goto 4, 3) := by decide +kernel
theorem dX8_close4_93 : decode cX8_close4 93 = .ok (.iconst 0, 1) := by decide +kernel
theorem dX8_close4_94 : decode cX8_close4 94 = .ok (.bastore, 1) := by decide +kernel
theorem dX8_close4_95 : decode cX8_close4 95 = .ok (.iinc 2 1, 3) := by decide +kernel
theorem dX8_close4_98 : decode cX8_close4 98 = .ok (.goto (-59), 3) := by decide +kernel
theorem dX8_close4_101 : decode cX8_close4 101 = .ok (.iinc 1 1, 3) := by decide +kernel
theorem dX8_close4_104 : decode cX8_close4 104 = .ok (.goto (-72), 3) := by decide +kernel
theorem dX8_close4_107 : decode cX8_close4 107 = .ok (.return_, 1) := by decide +kernel
theorem dX8_valid_0 : decode cX8_valid 0 = .ok (.iconst 0, 1) := by decide +kernel
theorem dX8_valid_1 : decode cX8_valid 1 = .ok (.istore_n 1, 1) := by decide +kernel
theorem dX8_valid_2 : decode cX8_valid 2 = .ok (.iconst 1, 1) := by decide +kernel
theorem dX8_valid_3 : decode cX8_valid 3 = .ok (.istore_n 2, 1) := by decide +kernel
theorem dX8_valid_4 : decode cX8_valid 4 = .ok (.aload_n 0, 1) := by decide +kernel
theorem dX8_valid_5 : decode cX8_valid 5 = .ok (.invokevirtual 117, 3) := by decide +kernel
theorem dX8_valid_8 : decode cX8_valid 8 = .ok (.iconst 0, 1) := by decide +kernel
theorem dX8_valid_9 : decode cX8_valid 9 = .ok (.istore_n 3, 1) := by decide +kernel
theorem dX8_valid_10 : decode cX8_valid 10 = .ok (.iload_n 3, 1) := by decide +kernel
theorem dX8_valid_11 : decode cX8_valid 11 = .ok (.iconst 4, 1) := by decide +kernel
theorem dX8_valid_12 : decode cX8_valid 12 = .ok (.if_icmp .ge 92, 3) := by decide +kernel
theorem dX8_valid_15 : decode cX8_valid 15 = .ok (.iload_n 1, 1) := by decide +kernel
theorem dX8_valid_16 : decode cX8_valid 16 = .ok (.ifCond .ne 11, 3) := by decide +kernel
theorem dX8_valid_19 : decode cX8_valid 19 = .ok (.aload_n 0, 1) := by decide +kernel
theorem dX8_valid_20 : decode cX8_valid 20 = .ok (.iload_n 3, 1) := by decide +kernel
theorem dX8_valid_21 : decode cX8_valid 21 = .ok (.invokevirtual 120, 3) := by decide +kernel
theorem dX8_valid_24 : decode cX8_valid 24 = .ok (.ifCond .eq 7, 3) := by decide +kernel
theorem dX8_valid_27 : decode cX8_valid 27 = .ok (.iconst 1, 1) := by decide +kernel
theorem dX8_valid_28 : decode cX8_valid 28 = .ok (.goto 4, 3) := by decide +kernel
theorem dX8_valid_31 : decode cX8_valid 31 = .ok (.iconst 0, 1) := by decide +kernel
theorem dX8_valid_32 : decode cX8_valid 32 = .ok (.istore_n 1, 1) := by decide +kernel
theorem dX8_valid_33 : decode cX8_valid 33 = .ok (.iload_n 2, 1) := by decide +kernel
theorem dX8_valid_34 : decode cX8_valid 34 = .ok (.ifCond .eq 18, 3) := by decide +kernel
theorem dX8_valid_37 : decode cX8_valid 37 = .ok (.aload_n 0, 1) := by decide +kernel
theorem dX8_valid_38 : decode cX8_valid 38 = .ok (.getfield 61, 3) := by decide +kernel
theorem dX8_valid_41 : decode cX8_valid 41 = .ok (.iconst 5, 1) := by decide +kernel
theorem dX8_valid_42 : decode cX8_valid 42 = .ok (.iload_n 3, 1) := by decide +kernel
theorem dX8_valid_43 : decode cX8_valid 43 = .ok (.imul, 1) := by decide +kernel
theorem dX8_valid_44 : decode cX8_valid 44 = .ok (.baload, 1) := by decide +kernel
theorem dX8_valid_45 : decode cX8_valid 45 = .ok (.ifCond .ne 7, 3) := by decide +kernel
theorem dX8_valid_48 : decode cX8_valid 48 = .ok (.iconst 1, 1) := by decide +kernel
theorem dX8_valid_49 : decode cX8_valid 49 = .ok (.goto 4, 3) := by decide +kernel
theorem dX8_valid_52 : decode cX8_valid 52 = .ok (.iconst 0, 1) := by decide +kernel
theorem dX8_valid_53 : decode cX8_valid 53 = .ok (.istore_n 2, 1) := by decide +kernel
theorem dX8_valid_54 : decode cX8_valid 54 = .ok (.iconst 0, 1) := by decide +kernel
theorem dX8_valid_55 : decode cX8_valid 55 = .ok (.istore 4, 2) := by decide +kernel
theorem dX8_valid_57 : decode cX8_valid 57 = .ok (.iload 4, 2) := by decide +kernel
theorem dX8_valid_59 : decode cX8_valid 59 = .ok (.iconst 4, 1) := by decide +kernel
theorem dX8_valid_60 : decode cX8_valid 60 = .ok (.if_icmp .ge 38, 3) := by decide +kernel
theorem dX8_valid_63 : decode cX8_valid 63 = .ok (.iload_n 2, 1) := by decide +kernel
theorem dX8_valid_64 : decode cX8_valid 64 = .ok (.ifCond .eq 26, 3) := by decide +kernel
theorem dX8_valid_67 : decode cX8_valid 67 = .ok (.aload_n 0, 1) := by decide +kernel
theorem dX8_valid_68 : decode cX8_valid 68 = .ok (.iload_n 3, 1) := by decide +kernel
theorem dX8_valid_69 : decode cX8_valid 69 = .ok (.iload 4, 2) := by decide +kernel
theorem dX8_valid_71 : decode cX8_valid 71 = .ok (.invokevirtual 113, 3) := by decide +kernel
theorem dX8_valid_74 : decode cX8_valid 74 = .ok (.ifCond .eq 12, 3) := by decide +kernel
theorem dX8_valid_77 : decode cX8_valid 77 = .ok (.aload_n 0, 1) := by decide +kernel
theorem dX8_valid_78 : decode cX8_valid 78 = .ok (.iload 4, 2) := by decide +kernel
theorem dX8_valid_80 : decode cX8_valid 80 = .ok (.invokevirtual 123, 3) := by decide +kernel
theorem dX8_valid_83 : decode cX8_valid 83 = .ok (.ifCond .eq 7, 3) := by decide +kernel
theorem dX8_valid_86 : decode cX8_valid 86 = .ok (.iconst 1, 1) := by decide +kernel
theorem dX8_valid_87 : decode cX8_valid 87 = .ok (.goto 4, 3) := by decide +kernel
theorem dX8_valid_90 : decode cX8_valid 90 = .ok (.iconst 0, 1) := by decide +kernel
theorem dX8_valid_91 : decode cX8_valid 91 = .ok (.istore_n 2, 1) := by decide +kernel
theorem dX8_valid_92 : decode cX8_valid 92 = .ok (.iinc 4 1, 3) := by decide +kernel
theorem dX8_valid_95 : decode cX8_valid 95 = .ok (.goto (-38), 3) := by decide +kernel
theorem dX8_valid_98 : decode cX8_valid 98 = .ok (.iinc 3 1, 3) := by decide +kernel
theorem dX8_valid_101 : decode cX8_valid 101 = .ok (.goto (-91), 3) := by decide +kernel
theorem dX8_valid_104 : decode cX8_valid 104 = .ok (.iload_n 1, 1) := by decide +kernel
theorem dX8_valid_105 : decode cX8_valid 105 = .ok (.ifCond .eq 11, 3) := by decide +kernel
theorem dX8_valid_108 : decode cX8_valid 108 = .ok (.iload_n 2, 1) := by decide +kernel
theorem dX8_valid_109 : decode cX8_valid 109 = .ok (.ifCond .eq 7, 3) := by decide +kernel
theorem dX8_valid_112 : decode cX8_valid 112 = .ok (.iconst 1, 1) := by decide +kernel
theorem dX8_valid_113 : decode cX8_valid 113 = .ok (.goto 4, 3) := by decide +kernel
theorem dX8_valid_116 : decode cX8_valid 116 = .ok (.iconst 0, 1) := by decide +kernel
theorem dX8_valid_117 : decode cX8_valid 117 = .ok (.ireturn, 1) := by decide +kernel
theorem dX8_leaveQueue_0 : decode cX8_leaveQueue 0 = .ok (.aload_n 0, 1) := by decide +kernel
theorem dX8_leaveQueue_1 : decode cX8_leaveQueue 1 = .ok (.aload_n 0, 1) := by decide +kernel
theorem dX8_leaveQueue_2 : decode cX8_leaveQueue 2 = .ok (.getfield 94, 3) := by decide +kernel
theorem dX8_leaveQueue_5 : decode cX8_leaveQueue 5 = .ok (.iconst 1, 1) := by decide +kernel
theorem dX8_leaveQueue_6 : decode cX8_leaveQueue 6 = .ok (.isub, 1) := by decide +kernel
theorem dX8_leaveQueue_7 : decode cX8_leaveQueue 7 = .ok (.putfield 94, 3) := by decide +kernel
theorem dX8_leaveQueue_10 : decode cX8_leaveQueue 10 = .ok (.iload_n 1, 1) := by decide +kernel
theorem dX8_leaveQueue_11 : decode cX8_leaveQueue 11 = .ok (.istore_n 2, 1) := by decide +kernel
theorem dX8_leaveQueue_12 : decode cX8_leaveQueue 12 = .ok (.iload_n 2, 1) := by decide +kernel
theorem dX8_leaveQueue_13 : decode cX8_leaveQueue 13 = .ok (.aload_n 0, 1) := by decide +kernel
theorem dX8_leaveQueue_14 : decode cX8_leaveQueue 14 = .ok (.getfield 94, 3) := by decide +kernel
theorem dX8_leaveQueue_17 : decode cX8_leaveQueue 17 = .ok (.if_icmp .ge 23, 3) := by decide +kernel
theorem dX8_leaveQueue_20 : decode cX8_leaveQueue 20 = .ok (.aload_n 0, 1) := by decide +kernel
theorem dX8_leaveQueue_21 : decode cX8_leaveQueue 21 = .ok (.getfield 40, 3) := by decide +kernel
theorem dX8_leaveQueue_24 : decode cX8_leaveQueue 24 = .ok (.iload_n 2, 1) := by decide +kernel
theorem dX8_leaveQueue_25 : decode cX8_leaveQueue 25 = .ok (.aload_n 0, 1) := by decide +kernel
theorem dX8_leaveQueue_26 : decode cX8_leaveQueue 26 = .ok (.getfield 40, 3) := by decide +kernel
theorem dX8_leaveQueue_29 : decode cX8_leaveQueue 29 = .ok (.iload_n 2, 1) := by decide +kernel
theorem dX8_leaveQueue_30 : decode cX8_leaveQueue 30 = .ok (.iconst 1, 1) := by decide +kernel
theorem dX8_leaveQueue_31 : decode cX8_leaveQueue 31 = .ok (.iadd, 1) := by decide +kernel
theorem dX8_leaveQueue_32 : decode cX8_leaveQueue 32 = .ok (.iaload, 1) := by decide +kernel
theorem dX8_leaveQueue_33 : decode cX8_leaveQueue 33 = .ok (.iastore, 1) := by decide +kernel
theorem dX8_leaveQueue_34 : decode cX8_leaveQueue 34 = .ok (.iinc 2 1, 3) := by decide +kernel
theorem dX8_leaveQueue_37 : decode cX8_leaveQueue 37 = .ok (.goto (-25), 3) := by decide +kernel
theorem dX8_leaveQueue_40 : decode cX8_leaveQueue 40 = .ok (.return_, 1) := by decide +kernel
theorem dX8_reject_0 : decode cX8_reject 0 = .ok (.aload_n 0, 1) := by decide +kernel
theorem dX8_reject_1 : decode cX8_reject 1 = .ok (.getfield 31, 3) := by decide +kernel
theorem dX8_reject_4 : decode cX8_reject 4 = .ok (.iload_n 1, 1) := by decide +kernel
theorem dX8_reject_5 : decode cX8_reject 5 = .ok (.iconst 3, 1) := by decide +kernel
theorem dX8_reject_6 : decode cX8_reject 6 = .ok (.iastore, 1) := by decide +kernel
theorem dX8_reject_7 : decode cX8_reject 7 = .ok (.aload_n 0, 1) := by decide +kernel
theorem dX8_reject_8 : decode cX8_reject 8 = .ok (.getfield 34, 3) := by decide +kernel
theorem dX8_reject_11 : decode cX8_reject 11 = .ok (.iload_n 1, 1) := by decide +kernel
theorem dX8_reject_12 : decode cX8_reject 12 = .ok (.iload_n 2, 1) := by decide +kernel
theorem dX8_reject_13 : decode cX8_reject 13 = .ok (.iastore, 1) := by decide +kernel
theorem dX8_reject_14 : decode cX8_reject 14 = .ok (.return_, 1) := by decide +kernel
theorem dX8_dropPlan_0 : decode cX8_dropPlan 0 = .ok (.aload_n 0, 1) := by decide +kernel
theorem dX8_dropPlan_1 : decode cX8_dropPlan 1 = .ok (.aload_n 0, 1) := by decide +kernel
theorem dX8_dropPlan_2 : decode cX8_dropPlan 2 = .ok (.getfield 97, 3) := by decide +kernel
theorem dX8_dropPlan_5 : decode cX8_dropPlan 5 = .ok (.iconst 1, 1) := by decide +kernel
theorem dX8_dropPlan_6 : decode cX8_dropPlan 6 = .ok (.isub, 1) := by decide +kernel
theorem dX8_dropPlan_7 : decode cX8_dropPlan 7 = .ok (.putfield 97, 3) := by decide +kernel
theorem dX8_dropPlan_10 : decode cX8_dropPlan 10 = .ok (.iconst 0, 1) := by decide +kernel
theorem dX8_dropPlan_11 : decode cX8_dropPlan 11 = .ok (.istore_n 1, 1) := by decide +kernel
theorem dX8_dropPlan_12 : decode cX8_dropPlan 12 = .ok (.iload_n 1, 1) := by decide +kernel
theorem dX8_dropPlan_13 : decode cX8_dropPlan 13 = .ok (.aload_n 0, 1) := by decide +kernel
theorem dX8_dropPlan_14 : decode cX8_dropPlan 14 = .ok (.getfield 97, 3) := by decide +kernel
theorem dX8_dropPlan_17 : decode cX8_dropPlan 17 = .ok (.if_icmp .ge 23, 3) := by decide +kernel
theorem dX8_dropPlan_20 : decode cX8_dropPlan 20 = .ok (.aload_n 0, 1) := by decide +kernel
theorem dX8_dropPlan_21 : decode cX8_dropPlan 21 = .ok (.getfield 43, 3) := by decide +kernel
theorem dX8_dropPlan_24 : decode cX8_dropPlan 24 = .ok (.iload_n 1, 1) := by decide +kernel
theorem dX8_dropPlan_25 : decode cX8_dropPlan 25 = .ok (.aload_n 0, 1) := by decide +kernel
theorem dX8_dropPlan_26 : decode cX8_dropPlan 26 = .ok (.getfield 43, 3) := by decide +kernel
theorem dX8_dropPlan_29 : decode cX8_dropPlan 29 = .ok (.iload_n 1, 1) := by decide +kernel
theorem dX8_dropPlan_30 : decode cX8_dropPlan 30 = .ok (.iconst 1, 1) := by decide +kernel
theorem dX8_dropPlan_31 : decode cX8_dropPlan 31 = .ok (.iadd, 1) := by decide +kernel
theorem dX8_dropPlan_32 : decode cX8_dropPlan 32 = .ok (.iaload, 1) := by decide +kernel
theorem dX8_dropPlan_33 : decode cX8_dropPlan 33 = .ok (.iastore, 1) := by decide +kernel
theorem dX8_dropPlan_34 : decode cX8_dropPlan 34 = .ok (.iinc 1 1, 3) := by decide +kernel
theorem dX8_dropPlan_37 : decode cX8_dropPlan 37 = .ok (.goto (-25), 3) := by decide +kernel
theorem dX8_dropPlan_40 : decode cX8_dropPlan 40 = .ok (.return_, 1) := by decide +kernel
theorem dX8_endLeases_0 : decode cX8_endLeases 0 = .ok (.iconst 0, 1) := by decide +kernel
theorem dX8_endLeases_1 : decode cX8_endLeases 1 = .ok (.istore_n 1, 1) := by decide +kernel
theorem dX8_endLeases_2 : decode cX8_endLeases 2 = .ok (.iload_n 1, 1) := by decide +kernel
theorem dX8_endLeases_3 : decode cX8_endLeases 3 = .ok (.iconst 4, 1) := by decide +kernel
theorem dX8_endLeases_4 : decode cX8_endLeases 4 = .ok (.if_icmp .ge 16, 3) := by decide +kernel
theorem dX8_endLeases_7 : decode cX8_endLeases 7 = .ok (.aload_n 0, 1) := by decide +kernel
theorem dX8_endLeases_8 : decode cX8_endLeases 8 = .ok (.getfield 52, 3) := by decide +kernel
theorem dX8_endLeases_11 : decode cX8_endLeases 11 = .ok (.iload_n 1, 1) := by decide +kernel
theorem dX8_endLeases_12 : decode cX8_endLeases 12 = .ok (.iconst (-1), 1) := by decide +kernel
theorem dX8_endLeases_13 : decode cX8_endLeases 13 = .ok (.iastore, 1) := by decide +kernel
theorem dX8_endLeases_14 : decode cX8_endLeases 14 = .ok (.iinc 1 1, 3) := by decide +kernel
theorem dX8_endLeases_17 : decode cX8_endLeases 17 = .ok (.goto (-15), 3) := by decide +kernel
theorem dX8_endLeases_20 : decode cX8_endLeases 20 = .ok (.return_, 1) := by decide +kernel
theorem dX8_batchFails_0 : decode cX8_batchFails 0 = .ok (.aload_n 0, 1) := by decide +kernel
theorem dX8_batchFails_1 : decode cX8_batchFails 1 = .ok (.getfield 100, 3) := by decide +kernel
theorem dX8_batchFails_4 : decode cX8_batchFails 4 = .ok (.istore_n 2, 1) := by decide +kernel
theorem dX8_batchFails_5 : decode cX8_batchFails 5 = .ok (.aload_n 0, 1) := by decide +kernel
theorem dX8_batchFails_6 : decode cX8_batchFails 6 = .ok (.iconst 0, 1) := by decide +kernel
theorem dX8_batchFails_7 : decode cX8_batchFails 7 = .ok (.putfield 100, 3) := by decide +kernel
theorem dX8_batchFails_10 : decode cX8_batchFails 10 = .ok (.aload_n 0, 1) := by decide +kernel
theorem dX8_batchFails_11 : decode cX8_batchFails 11 = .ok (.invokevirtual 126, 3) := by decide +kernel
theorem dX8_batchFails_14 : decode cX8_batchFails 14 = .ok (.iload_n 2, 1) := by decide +kernel
theorem dX8_batchFails_15 : decode cX8_batchFails 15 = .ok (.iconst 1, 1) := by decide +kernel
theorem dX8_batchFails_16 : decode cX8_batchFails 16 = .ok (.if_icmp .ne 24, 3) := by decide +kernel
theorem dX8_batchFails_19 : decode cX8_batchFails 19 = .ok (.aload_n 0, 1) := by decide +kernel
theorem dX8_batchFails_20 : decode cX8_batchFails 20 = .ok (.aload_n 0, 1) := by decide +kernel
theorem dX8_batchFails_21 : decode cX8_batchFails 21 = .ok (.getfield 40, 3) := by decide +kernel
theorem dX8_batchFails_24 : decode cX8_batchFails 24 = .ok (.iconst 0, 1) := by decide +kernel
theorem dX8_batchFails_25 : decode cX8_batchFails 25 = .ok (.iaload, 1) := by decide +kernel
theorem dX8_batchFails_26 : decode cX8_batchFails 26 = .ok (.iload_n 1, 1) := by decide +kernel
theorem dX8_batchFails_27 : decode cX8_batchFails 27 = .ok (.invokevirtual 129, 3) := by decide +kernel
theorem dX8_batchFails_30 : decode cX8_batchFails 30 = .ok (.aload_n 0, 1) := by decide +kernel
theorem dX8_batchFails_31 : decode cX8_batchFails 31 = .ok (.iconst 0, 1) := by decide +kernel
theorem dX8_batchFails_32 : decode cX8_batchFails 32 = .ok (.invokevirtual 133, 3) := by decide +kernel
theorem dX8_batchFails_35 : decode cX8_batchFails 35 = .ok (.aload_n 0, 1) := by decide +kernel
theorem dX8_batchFails_36 : decode cX8_batchFails 36 = .ok (.invokevirtual 137, 3) := by decide +kernel
theorem dX8_batchFails_39 : decode cX8_batchFails 39 = .ok (.return_, 1) := by decide +kernel
theorem dX8_batchFails_40 : decode cX8_batchFails 40 = .ok (.aload_n 0, 1) := by decide +kernel
theorem dX8_batchFails_41 : decode cX8_batchFails 41 = .ok (.getfield 97, 3) := by decide +kernel
theorem dX8_batchFails_44 : decode cX8_batchFails 44 = .ok (.istore_n 3, 1) := by decide +kernel
theorem dX8_batchFails_45 : decode cX8_batchFails 45 = .ok (.iload_n 3, 1) := by decide +kernel
theorem dX8_batchFails_46 : decode cX8_batchFails 46 = .ok (.iconst 1, 1) := by decide +kernel
theorem dX8_batchFails_47 : decode cX8_batchFails 47 = .ok (.if_icmp .le 23, 3) := by decide +kernel
theorem dX8_batchFails_50 : decode cX8_batchFails 50 = .ok (.aload_n 0, 1) := by decide +kernel
theorem dX8_batchFails_51 : decode cX8_batchFails 51 = .ok (.getfield 43, 3) := by decide +kernel
theorem dX8_batchFails_54 : decode cX8_batchFails 54 = .ok (.iload_n 3, 1) := by decide +kernel
theorem dX8_batchFails_55 : decode cX8_batchFails 55 = .ok (.aload_n 0, 1) := by decide +kernel
theorem dX8_batchFails_56 : decode cX8_batchFails 56 = .ok (.getfield 43, 3) := by decide +kernel
theorem dX8_batchFails_59 : decode cX8_batchFails 59 = .ok (.iload_n 3, 1) := by decide +kernel
theorem dX8_batchFails_60 : decode cX8_batchFails 60 = .ok (.iconst 1, 1) := by decide +kernel
theorem dX8_batchFails_61 : decode cX8_batchFails 61 = .ok (.isub, 1) := by decide +kernel
theorem dX8_batchFails_62 : decode cX8_batchFails 62 = .ok (.iaload, 1) := by decide +kernel
theorem dX8_batchFails_63 : decode cX8_batchFails 63 = .ok (.iastore, 1) := by decide +kernel
theorem dX8_batchFails_64 : decode cX8_batchFails 64 = .ok (.iinc 3 (-1), 3) := by decide +kernel
theorem dX8_batchFails_67 : decode cX8_batchFails 67 = .ok (.goto (-22), 3) := by decide +kernel
theorem dX8_batchFails_70 : decode cX8_batchFails 70 = .ok (.aload_n 0, 1) := by decide +kernel
theorem dX8_batchFails_71 : decode cX8_batchFails 71 = .ok (.getfield 43, 3) := by decide +kernel
theorem dX8_batchFails_74 : decode cX8_batchFails 74 = .ok (.iconst 0, 1) := by decide +kernel
theorem dX8_batchFails_75 : decode cX8_batchFails 75 = .ok (.iload_n 2, 1) := by decide +kernel
theorem dX8_batchFails_76 : decode cX8_batchFails 76 = .ok (.iconst 1, 1) := by decide +kernel
theorem dX8_batchFails_77 : decode cX8_batchFails 77 = .ok (.iadd, 1) := by decide +kernel
theorem dX8_batchFails_78 : decode cX8_batchFails 78 = .ok (.iconst 2, 1) := by decide +kernel
theorem dX8_batchFails_79 : decode cX8_batchFails 79 = .ok (.idiv, 1) := by decide +kernel
theorem dX8_batchFails_80 : decode cX8_batchFails 80 = .ok (.iastore, 1) := by decide +kernel
theorem dX8_batchFails_81 : decode cX8_batchFails 81 = .ok (.aload_n 0, 1) := by decide +kernel
theorem dX8_batchFails_82 : decode cX8_batchFails 82 = .ok (.getfield 43, 3) := by decide +kernel
theorem dX8_batchFails_85 : decode cX8_batchFails 85 = .ok (.iconst 1, 1) := by decide +kernel
theorem dX8_batchFails_86 : decode cX8_batchFails 86 = .ok (.iload_n 2, 1) := by decide +kernel
theorem dX8_batchFails_87 : decode cX8_batchFails 87 = .ok (.iconst 2, 1) := by decide +kernel
theorem dX8_batchFails_88 : decode cX8_batchFails 88 = .ok (.idiv, 1) := by decide +kernel
theorem dX8_batchFails_89 : decode cX8_batchFails 89 = .ok (.iastore, 1) := by decide +kernel
theorem dX8_batchFails_90 : decode cX8_batchFails 90 = .ok (.aload_n 0, 1) := by decide +kernel
theorem dX8_batchFails_91 : decode cX8_batchFails 91 = .ok (.aload_n 0, 1) := by decide +kernel
theorem dX8_batchFails_92 : decode cX8_batchFails 92 = .ok (.getfield 97, 3) := by decide +kernel
theorem dX8_batchFails_95 : decode cX8_batchFails 95 = .ok (.iconst 1, 1) := by decide +kernel
theorem dX8_batchFails_96 : decode cX8_batchFails 96 = .ok (.iadd, 1) := by decide +kernel
theorem dX8_batchFails_97 : decode cX8_batchFails 97 = .ok (.putfield 97, 3) := by decide +kernel
theorem dX8_batchFails_100 : decode cX8_batchFails 100 = .ok (.return_, 1) := by decide +kernel
theorem dX8_batchPasses_0 : decode cX8_batchPasses 0 = .ok (.aload_n 0, 1) := by decide +kernel
theorem dX8_batchPasses_1 : decode cX8_batchPasses 1 = .ok (.invokevirtual 140, 3) := by decide +kernel
theorem dX8_batchPasses_4 : decode cX8_batchPasses 4 = .ok (.iconst 0, 1) := by decide +kernel
theorem dX8_batchPasses_5 : decode cX8_batchPasses 5 = .ok (.istore_n 1, 1) := by decide +kernel
theorem dX8_batchPasses_6 : decode cX8_batchPasses 6 = .ok (.iload_n 1, 1) := by decide +kernel
theorem dX8_batchPasses_7 : decode cX8_batchPasses 7 = .ok (.bipush 6, 2) := by decide +kernel
theorem dX8_batchPasses_9 : decode cX8_batchPasses 9 = .ok (.if_icmp .ge 21, 3) := by decide +kernel
theorem dX8_batchPasses_12 : decode cX8_batchPasses 12 = .ok (.aload_n 0, 1) := by decide +kernel
theorem dX8_batchPasses_13 : decode cX8_batchPasses 13 = .ok (.getfield 22, 3) := by decide +kernel
theorem dX8_batchPasses_16 : decode cX8_batchPasses 16 = .ok (.iload_n 1, 1) := by decide +kernel
theorem dX8_batchPasses_17 : decode cX8_batchPasses 17 = .ok (.aload_n 0, 1) := by decide +kernel
theorem dX8_batchPasses_18 : decode cX8_batchPasses 18 = .ok (.getfield 58, 3) := by decide +kernel
theorem dX8_batchPasses_21 : decode cX8_batchPasses 21 = .ok (.iload_n 1, 1) := by decide +kernel
theorem dX8_batchPasses_22 : decode cX8_batchPasses 22 = .ok (.iaload, 1) := by decide +kernel
theorem dX8_batchPasses_23 : decode cX8_batchPasses 23 = .ok (.iastore, 1) := by decide +kernel
theorem dX8_batchPasses_24 : decode cX8_batchPasses 24 = .ok (.iinc 1 1, 3) := by decide +kernel
theorem dX8_batchPasses_27 : decode cX8_batchPasses 27 = .ok (.goto (-21), 3) := by decide +kernel
theorem dX8_batchPasses_30 : decode cX8_batchPasses 30 = .ok (.aload_n 0, 1) := by decide +kernel
theorem dX8_batchPasses_31 : decode cX8_batchPasses 31 = .ok (.aload_n 0, 1) := by decide +kernel
theorem dX8_batchPasses_32 : decode cX8_batchPasses 32 = .ok (.getfield 85, 3) := by decide +kernel
theorem dX8_batchPasses_35 : decode cX8_batchPasses 35 = .ok (.iconst 1, 1) := by decide +kernel
theorem dX8_batchPasses_36 : decode cX8_batchPasses 36 = .ok (.iadd, 1) := by decide +kernel
theorem dX8_batchPasses_37 : decode cX8_batchPasses 37 = .ok (.putfield 85, 3) := by decide +kernel
theorem dX8_batchPasses_40 : decode cX8_batchPasses 40 = .ok (.iconst 0, 1) := by decide +kernel
theorem dX8_batchPasses_41 : decode cX8_batchPasses 41 = .ok (.istore_n 1, 1) := by decide +kernel
theorem dX8_batchPasses_42 : decode cX8_batchPasses 42 = .ok (.iload_n 1, 1) := by decide +kernel
theorem dX8_batchPasses_43 : decode cX8_batchPasses 43 = .ok (.aload_n 0, 1) := by decide +kernel
theorem dX8_batchPasses_44 : decode cX8_batchPasses 44 = .ok (.getfield 100, 3) := by decide +kernel
theorem dX8_batchPasses_47 : decode cX8_batchPasses 47 = .ok (.if_icmp .ge 26, 3) := by decide +kernel
theorem dX8_batchPasses_50 : decode cX8_batchPasses 50 = .ok (.aload_n 0, 1) := by decide +kernel
theorem dX8_batchPasses_51 : decode cX8_batchPasses 51 = .ok (.getfield 31, 3) := by decide +kernel
theorem dX8_batchPasses_54 : decode cX8_batchPasses 54 = .ok (.aload_n 0, 1) := by decide +kernel
theorem dX8_batchPasses_55 : decode cX8_batchPasses 55 = .ok (.getfield 40, 3) := by decide +kernel
theorem dX8_batchPasses_58 : decode cX8_batchPasses 58 = .ok (.iconst 0, 1) := by decide +kernel
theorem dX8_batchPasses_59 : decode cX8_batchPasses 59 = .ok (.iaload, 1) := by decide +kernel
theorem dX8_batchPasses_60 : decode cX8_batchPasses 60 = .ok (.iconst 2, 1) := by decide +kernel
theorem dX8_batchPasses_61 : decode cX8_batchPasses 61 = .ok (.iastore, 1) := by decide +kernel
theorem dX8_batchPasses_62 : decode cX8_batchPasses 62 = .ok (.aload_n 0, 1) := by decide +kernel
theorem dX8_batchPasses_63 : decode cX8_batchPasses 63 = .ok (.iconst 0, 1) := by decide +kernel
theorem dX8_batchPasses_64 : decode cX8_batchPasses 64 = .ok (.invokevirtual 133, 3) := by decide +kernel
theorem dX8_batchPasses_67 : decode cX8_batchPasses 67 = .ok (.iinc 1 1, 3) := by decide +kernel
theorem dX8_batchPasses_70 : decode cX8_batchPasses 70 = .ok (.goto (-28), 3) := by decide +kernel
theorem dX8_batchPasses_73 : decode cX8_batchPasses 73 = .ok (.aload_n 0, 1) := by decide +kernel
theorem dX8_batchPasses_74 : decode cX8_batchPasses 74 = .ok (.iconst 0, 1) := by decide +kernel
theorem dX8_batchPasses_75 : decode cX8_batchPasses 75 = .ok (.putfield 100, 3) := by decide +kernel
theorem dX8_batchPasses_78 : decode cX8_batchPasses 78 = .ok (.aload_n 0, 1) := by decide +kernel
theorem dX8_batchPasses_79 : decode cX8_batchPasses 79 = .ok (.invokevirtual 137, 3) := by decide +kernel
theorem dX8_batchPasses_82 : decode cX8_batchPasses 82 = .ok (.aload_n 0, 1) := by decide +kernel
theorem dX8_batchPasses_83 : decode cX8_batchPasses 83 = .ok (.invokevirtual 126, 3) := by decide +kernel
theorem dX8_batchPasses_86 : decode cX8_batchPasses 86 = .ok (.return_, 1) := by decide +kernel
theorem dX8_build_0 : decode cX8_build 0 = .ok (.aload_n 0, 1) := by decide +kernel
theorem dX8_build_1 : decode cX8_build 1 = .ok (.getfield 97, 3) := by decide +kernel
theorem dX8_build_4 : decode cX8_build 4 = .ok (.ifCond .ne 36, 3) := by decide +kernel
theorem dX8_build_7 : decode cX8_build 7 = .ok (.aload_n 0, 1) := by decide +kernel
theorem dX8_build_8 : decode cX8_build 8 = .ok (.getfield 43, 3) := by decide +kernel
theorem dX8_build_11 : decode cX8_build 11 = .ok (.iconst 0, 1) := by decide +kernel
theorem dX8_build_12 : decode cX8_build 12 = .ok (.aload_n 0, 1) := by decide +kernel
theorem dX8_build_13 : decode cX8_build 13 = .ok (.getfield 73, 3) := by decide +kernel
theorem dX8_build_16 : decode cX8_build 16 = .ok (.aload_n 0, 1) := by decide +kernel
theorem dX8_build_17 : decode cX8_build 17 = .ok (.getfield 94, 3) := by decide +kernel
theorem dX8_build_20 : decode cX8_build 20 = .ok (.if_icmp .ge 10, 3) := by decide +kernel
theorem dX8_build_23 : decode cX8_build 23 = .ok (.aload_n 0, 1) := by decide +kernel
theorem dX8_build_24 : decode cX8_build 24 = .ok (.getfield 73, 3) := by decide +kernel
theorem dX8_build_27 : decode cX8_build 27 = .ok (.goto 7, 3) := by decide +kernel
theorem dX8_build_30 : decode cX8_build 30 = .ok (.aload_n 0, 1) := by decide +kernel
theorem dX8_build_31 : decode cX8_build 31 = .ok (.getfield 94, 3) := by decide +kernel
theorem dX8_build_34 : decode cX8_build 34 = .ok (.iastore, 1) := by decide +kernel
theorem dX8_build_35 : decode cX8_build 35 = .ok (.aload_n 0, 1) := by decide +kernel
theorem dX8_build_36 : decode cX8_build 36 = .ok (.iconst 1, 1) := by decide +kernel
theorem dX8_build_37 : decode cX8_build 37 = .ok (.putfield 97, 3) := by decide +kernel
theorem dX8_build_40 : decode cX8_build 40 = .ok (.aload_n 0, 1) := by decide +kernel
theorem dX8_build_41 : decode cX8_build 41 = .ok (.invokevirtual 103, 3) := by decide +kernel
theorem dX8_build_44 : decode cX8_build 44 = .ok (.aload_n 0, 1) := by decide +kernel
theorem dX8_build_45 : decode cX8_build 45 = .ok (.getfield 43, 3) := by decide +kernel
theorem dX8_build_48 : decode cX8_build 48 = .ok (.iconst 0, 1) := by decide +kernel
theorem dX8_build_49 : decode cX8_build 49 = .ok (.iaload, 1) := by decide +kernel
theorem dX8_build_50 : decode cX8_build 50 = .ok (.istore_n 1, 1) := by decide +kernel
theorem dX8_build_51 : decode cX8_build 51 = .ok (.iconst 0, 1) := by decide +kernel
theorem dX8_build_52 : decode cX8_build 52 = .ok (.istore_n 2, 1) := by decide +kernel
theorem dX8_build_53 : decode cX8_build 53 = .ok (.iconst 0, 1) := by decide +kernel
theorem dX8_build_54 : decode cX8_build 54 = .ok (.istore_n 3, 1) := by decide +kernel
theorem dX8_build_55 : decode cX8_build 55 = .ok (.iload_n 3, 1) := by decide +kernel
theorem dX8_build_56 : decode cX8_build 56 = .ok (.iload_n 1, 1) := by decide +kernel
theorem dX8_build_57 : decode cX8_build 57 = .ok (.if_icmp .ge 45, 3) := by decide +kernel
theorem dX8_build_60 : decode cX8_build 60 = .ok (.aload_n 0, 1) := by decide +kernel
theorem dX8_build_61 : decode cX8_build 61 = .ok (.getfield 40, 3) := by decide +kernel
theorem dX8_build_64 : decode cX8_build 64 = .ok (.iload_n 2, 1) := by decide +kernel
theorem dX8_build_65 : decode cX8_build 65 = .ok (.iaload, 1) := by decide +kernel
theorem dX8_build_66 : decode cX8_build 66 = .ok (.istore 4, 2) := by decide +kernel
theorem dX8_build_68 : decode cX8_build 68 = .ok (.aload_n 0, 1) := by decide +kernel
theorem dX8_build_69 : decode cX8_build 69 = .ok (.iload 4, 2) := by decide +kernel
theorem dX8_build_71 : decode cX8_build 71 = .ok (.invokevirtual 106, 3) := by decide +kernel
theorem dX8_build_74 : decode cX8_build 74 = .ok (.ifCond .eq 18, 3) := by decide +kernel
theorem dX8_build_77 : decode cX8_build 77 = .ok (.aload_n 0, 1) := by decide +kernel
theorem dX8_build_78 : decode cX8_build 78 = .ok (.iload 4, 2) := by decide +kernel
theorem dX8_build_80 : decode cX8_build 80 = .ok (.iconst 1, 1) := by decide +kernel
theorem dX8_build_81 : decode cX8_build 81 = .ok (.invokevirtual 129, 3) := by decide +kernel
theorem dX8_build_84 : decode cX8_build 84 = .ok (.aload_n 0, 1) := by decide +kernel
theorem dX8_build_85 : decode cX8_build 85 = .ok (.iload_n 2, 1) := by decide +kernel
theorem dX8_build_86 : decode cX8_build 86 = .ok (.invokevirtual 133, 3) := by decide +kernel
theorem dX8_build_89 : decode cX8_build 89 = .ok (.goto 7, 3) := by decide +kernel
theorem dX8_build_92 : decode cX8_build 92 = .ok (.iload_n 2, 1) := by decide +kernel
theorem dX8_build_93 : decode cX8_build 93 = .ok (.iconst 1, 1) := by decide +kernel
theorem dX8_build_94 : decode cX8_build 94 = .ok (.iadd, 1) := by decide +kernel
theorem dX8_build_95 : decode cX8_build 95 = .ok (.istore_n 2, 1) := by decide +kernel
theorem dX8_build_96 : decode cX8_build 96 = .ok (.iinc 3 1, 3) := by decide +kernel
theorem dX8_build_99 : decode cX8_build 99 = .ok (.goto (-44), 3) := by decide +kernel
theorem dX8_build_102 : decode cX8_build 102 = .ok (.aload_n 0, 1) := by decide +kernel
theorem dX8_build_103 : decode cX8_build 103 = .ok (.getfield 43, 3) := by decide +kernel
theorem dX8_build_106 : decode cX8_build 106 = .ok (.iconst 0, 1) := by decide +kernel
theorem dX8_build_107 : decode cX8_build 107 = .ok (.iload_n 2, 1) := by decide +kernel
theorem dX8_build_108 : decode cX8_build 108 = .ok (.iastore, 1) := by decide +kernel
theorem dX8_build_109 : decode cX8_build 109 = .ok (.iload_n 2, 1) := by decide +kernel
theorem dX8_build_110 : decode cX8_build 110 = .ok (.ifCond .ne 8, 3) := by decide +kernel
theorem dX8_build_113 : decode cX8_build 113 = .ok (.aload_n 0, 1) := by decide +kernel
theorem dX8_build_114 : decode cX8_build 114 = .ok (.invokevirtual 137, 3) := by decide +kernel
theorem dX8_build_117 : decode cX8_build 117 = .ok (.return_, 1) := by decide +kernel
theorem dX8_build_118 : decode cX8_build 118 = .ok (.aload_n 0, 1) := by decide +kernel
theorem dX8_build_119 : decode cX8_build 119 = .ok (.iload_n 2, 1) := by decide +kernel
theorem dX8_build_120 : decode cX8_build 120 = .ok (.putfield 100, 3) := by decide +kernel
theorem dX8_build_123 : decode cX8_build 123 = .ok (.aload_n 0, 1) := by decide +kernel
theorem dX8_build_124 : decode cX8_build 124 = .ok (.invokevirtual 143, 3) := by decide +kernel
theorem dX8_build_127 : decode cX8_build 127 = .ok (.ifCond .ne 9, 3) := by decide +kernel
theorem dX8_build_130 : decode cX8_build 130 = .ok (.aload_n 0, 1) := by decide +kernel
theorem dX8_build_131 : decode cX8_build 131 = .ok (.iconst 2, 1) := by decide +kernel
theorem dX8_build_132 : decode cX8_build 132 = .ok (.invokevirtual 147, 3) := by decide +kernel
theorem dX8_build_135 : decode cX8_build 135 = .ok (.return_, 1) := by decide +kernel
theorem dX8_build_136 : decode cX8_build 136 = .ok (.iconst 0, 1) := by decide +kernel
theorem dX8_build_137 : decode cX8_build 137 = .ok (.istore_n 3, 1) := by decide +kernel
theorem dX8_build_138 : decode cX8_build 138 = .ok (.iload_n 3, 1) := by decide +kernel
theorem dX8_build_139 : decode cX8_build 139 = .ok (.iconst 4, 1) := by decide +kernel
theorem dX8_build_140 : decode cX8_build 140 = .ok (.if_icmp .ge 35, 3) := by decide +kernel
theorem dX8_build_143 : decode cX8_build 143 = .ok (.aload_n 0, 1) := by decide +kernel
theorem dX8_build_144 : decode cX8_build 144 = .ok (.getfield 46, 3) := by decide +kernel
theorem dX8_build_147 : decode cX8_build 147 = .ok (.iload_n 3, 1) := by decide +kernel
theorem dX8_build_148 : decode cX8_build 148 = .ok (.aload_n 0, 1) := by decide +kernel
theorem dX8_build_149 : decode cX8_build 149 = .ok (.iload_n 3, 1) := by decide +kernel
theorem dX8_build_150 : decode cX8_build 150 = .ok (.invokevirtual 123, 3) := by decide +kernel
theorem dX8_build_153 : decode cX8_build 153 = .ok (.ifCond .eq 7, 3) := by decide +kernel
theorem dX8_build_156 : decode cX8_build 156 = .ok (.iconst 1, 1) := by decide +kernel
theorem dX8_build_157 : decode cX8_build 157 = .ok (.goto 4, 3) := by decide +kernel
theorem dX8_build_160 : decode cX8_build 160 = .ok (.iconst 0, 1) := by decide +kernel
theorem dX8_build_161 : decode cX8_build 161 = .ok (.iastore, 1) := by decide +kernel
theorem dX8_build_162 : decode cX8_build 162 = .ok (.aload_n 0, 1) := by decide +kernel
theorem dX8_build_163 : decode cX8_build 163 = .ok (.getfield 49, 3) := by decide +kernel
theorem dX8_build_166 : decode cX8_build 166 = .ok (.iload_n 3, 1) := by decide +kernel
theorem dX8_build_167 : decode cX8_build 167 = .ok (.iconst 0, 1) := by decide +kernel
theorem dX8_build_168 : decode cX8_build 168 = .ok (.iastore, 1) := by decide +kernel
theorem dX8_build_169 : decode cX8_build 169 = .ok (.iinc 3 1, 3) := by decide +kernel
theorem dX8_build_172 : decode cX8_build 172 = .ok (.goto (-34), 3) := by decide +kernel
theorem dX8_build_175 : decode cX8_build 175 = .ok (.return_, 1) := by decide +kernel
theorem dX8_buildAll_0 : decode cX8_buildAll 0 = .ok (.iconst 0, 1) := by decide +kernel
theorem dX8_buildAll_1 : decode cX8_buildAll 1 = .ok (.istore_n 1, 1) := by decide +kernel
theorem dX8_buildAll_2 : decode cX8_buildAll 2 = .ok (.iload_n 1, 1) := by decide +kernel
theorem dX8_buildAll_3 : decode cX8_buildAll 3 = .ok (.sipush 1000, 3) := by decide +kernel
theorem dX8_buildAll_6 : decode cX8_buildAll 6 = .ok (.if_icmp .ge 27, 3) := by decide +kernel
theorem dX8_buildAll_9 : decode cX8_buildAll 9 = .ok (.aload_n 0, 1) := by decide +kernel
theorem dX8_buildAll_10 : decode cX8_buildAll 10 = .ok (.getfield 100, 3) := by decide +kernel
theorem dX8_buildAll_13 : decode cX8_buildAll 13 = .ok (.ifCond .ne 20, 3) := by decide +kernel
theorem dX8_buildAll_16 : decode cX8_buildAll 16 = .ok (.aload_n 0, 1) := by decide +kernel
theorem dX8_buildAll_17 : decode cX8_buildAll 17 = .ok (.getfield 94, 3) := by decide +kernel
theorem dX8_buildAll_20 : decode cX8_buildAll 20 = .ok (.ifCond .le 13, 3) := by decide +kernel
theorem dX8_buildAll_23 : decode cX8_buildAll 23 = .ok (.aload_n 0, 1) := by decide +kernel
theorem dX8_buildAll_24 : decode cX8_buildAll 24 = .ok (.invokevirtual 150, 3) := by decide +kernel
theorem dX8_buildAll_27 : decode cX8_buildAll 27 = .ok (.iinc 1 1, 3) := by decide +kernel
theorem dX8_buildAll_30 : decode cX8_buildAll 30 = .ok (.goto (-28), 3) := by decide +kernel
theorem dX8_buildAll_33 : decode cX8_buildAll 33 = .ok (.return_, 1) := by decide +kernel
theorem dX8_judge_0 : decode cX8_judge 0 = .ok (.aload_n 0, 1) := by decide +kernel
theorem dX8_judge_1 : decode cX8_judge 1 = .ok (.invokevirtual 140, 3) := by decide +kernel
theorem dX8_judge_4 : decode cX8_judge 4 = .ok (.iconst (-1), 1) := by decide +kernel
theorem dX8_judge_5 : decode cX8_judge 5 = .ok (.istore_n 1, 1) := by decide +kernel
theorem dX8_judge_6 : decode cX8_judge 6 = .ok (.iconst 1, 1) := by decide +kernel
theorem dX8_judge_7 : decode cX8_judge 7 = .ok (.istore_n 2, 1) := by decide +kernel
theorem dX8_judge_8 : decode cX8_judge 8 = .ok (.iconst 3, 1) := by decide +kernel
theorem dX8_judge_9 : decode cX8_judge 9 = .ok (.istore_n 3, 1) := by decide +kernel
theorem dX8_judge_10 : decode cX8_judge 10 = .ok (.iload_n 3, 1) := by decide +kernel
theorem dX8_judge_11 : decode cX8_judge 11 = .ok (.ifCond .lt 61, 3) := by decide +kernel
theorem dX8_judge_14 : decode cX8_judge 14 = .ok (.aload_n 0, 1) := by decide +kernel
theorem dX8_judge_15 : decode cX8_judge 15 = .ok (.iload_n 3, 1) := by decide +kernel
theorem dX8_judge_16 : decode cX8_judge 16 = .ok (.invokevirtual 120, 3) := by decide +kernel
theorem dX8_judge_19 : decode cX8_judge 19 = .ok (.ifCond .eq 17, 3) := by decide +kernel
theorem dX8_judge_22 : decode cX8_judge 22 = .ok (.aload_n 0, 1) := by decide +kernel
theorem dX8_judge_23 : decode cX8_judge 23 = .ok (.getfield 46, 3) := by decide +kernel
theorem dX8_judge_26 : decode cX8_judge 26 = .ok (.iload_n 3, 1) := by decide +kernel
theorem dX8_judge_27 : decode cX8_judge 27 = .ok (.iaload, 1) := by decide +kernel
theorem dX8_judge_28 : decode cX8_judge 28 = .ok (.iconst 3, 1) := by decide +kernel
theorem dX8_judge_29 : decode cX8_judge 29 = .ok (.if_icmp .ne 7, 3) := by decide +kernel
theorem dX8_judge_32 : decode cX8_judge 32 = .ok (.iload_n 3, 1) := by decide +kernel
theorem dX8_judge_33 : decode cX8_judge 33 = .ok (.goto 4, 3) := by decide +kernel
theorem dX8_judge_36 : decode cX8_judge 36 = .ok (.iload_n 1, 1) := by decide +kernel
theorem dX8_judge_37 : decode cX8_judge 37 = .ok (.istore_n 1, 1) := by decide +kernel
theorem dX8_judge_38 : decode cX8_judge 38 = .ok (.iload_n 2, 1) := by decide +kernel
theorem dX8_judge_39 : decode cX8_judge 39 = .ok (.ifCond .eq 25, 3) := by decide +kernel
theorem dX8_judge_42 : decode cX8_judge 42 = .ok (.aload_n 0, 1) := by decide +kernel
theorem dX8_judge_43 : decode cX8_judge 43 = .ok (.iload_n 3, 1) := by decide +kernel
theorem dX8_judge_44 : decode cX8_judge 44 = .ok (.invokevirtual 120, 3) := by decide +kernel
theorem dX8_judge_47 : decode cX8_judge 47 = .ok (.ifCond .eq 13, 3) := by decide +kernel
theorem dX8_judge_50 : decode cX8_judge 50 = .ok (.aload_n 0, 1) := by decide +kernel
theorem dX8_judge_51 : decode cX8_judge 51 = .ok (.getfield 46, 3) := by decide +kernel
theorem dX8_judge_54 : decode cX8_judge 54 = .ok (.iload_n 3, 1) := by decide +kernel
theorem dX8_judge_55 : decode cX8_judge 55 = .ok (.iaload, 1) := by decide +kernel
theorem dX8_judge_56 : decode cX8_judge 56 = .ok (.iconst 2, 1) := by decide +kernel
theorem dX8_judge_57 : decode cX8_judge 57 = .ok (.if_icmp .ne 7, 3) := by decide +kernel
theorem dX8_judge_60 : decode cX8_judge 60 = .ok (.iconst 1, 1) := by decide +kernel
theorem dX8_judge_61 : decode cX8_judge 61 = .ok (.goto 4, 3) := by decide +kernel
theorem dX8_judge_64 : decode cX8_judge 64 = .ok (.iconst 0, 1) := by decide +kernel
theorem dX8_judge_65 : decode cX8_judge 65 = .ok (.istore_n 2, 1) := by decide +kernel
theorem dX8_judge_66 : decode cX8_judge 66 = .ok (.iinc 3 (-1), 3) := by decide +kernel
theorem dX8_judge_69 : decode cX8_judge 69 = .ok (.goto (-59), 3) := by decide +kernel
theorem dX8_judge_72 : decode cX8_judge 72 = .ok (.iload_n 1, 1) := by decide +kernel
theorem dX8_judge_73 : decode cX8_judge 73 = .ok (.ifCond .lt 14, 3) := by decide +kernel
theorem dX8_judge_76 : decode cX8_judge 76 = .ok (.aload_n 0, 1) := by decide +kernel
theorem dX8_judge_77 : decode cX8_judge 77 = .ok (.bipush 10, 2) := by decide +kernel
theorem dX8_judge_79 : decode cX8_judge 79 = .ok (.iload_n 1, 1) := by decide +kernel
theorem dX8_judge_80 : decode cX8_judge 80 = .ok (.iadd, 1) := by decide +kernel
theorem dX8_judge_81 : decode cX8_judge 81 = .ok (.invokevirtual 147, 3) := by decide +kernel
theorem dX8_judge_84 : decode cX8_judge 84 = .ok (.goto 11, 3) := by decide +kernel
theorem dX8_judge_87 : decode cX8_judge 87 = .ok (.iload_n 2, 1) := by decide +kernel
theorem dX8_judge_88 : decode cX8_judge 88 = .ok (.ifCond .eq 7, 3) := by decide +kernel
theorem dX8_judge_91 : decode cX8_judge 91 = .ok (.aload_n 0, 1) := by decide +kernel
theorem dX8_judge_92 : decode cX8_judge 92 = .ok (.invokevirtual 153, 3) := by decide +kernel
theorem dX8_judge_95 : decode cX8_judge 95 = .ok (.return_, 1) := by decide +kernel
theorem dX8_endLeaseOn_0 : decode cX8_endLeaseOn 0 = .ok (.iconst 0, 1) := by decide +kernel
theorem dX8_endLeaseOn_1 : decode cX8_endLeaseOn 1 = .ok (.istore_n 2, 1) := by decide +kernel
theorem dX8_endLeaseOn_2 : decode cX8_endLeaseOn 2 = .ok (.iload_n 2, 1) := by decide +kernel
theorem dX8_endLeaseOn_3 : decode cX8_endLeaseOn 3 = .ok (.iconst 4, 1) := by decide +kernel
theorem dX8_endLeaseOn_4 : decode cX8_endLeaseOn 4 = .ok (.if_icmp .ge 35, 3) := by decide +kernel
theorem dX8_endLeaseOn_7 : decode cX8_endLeaseOn 7 = .ok (.aload_n 0, 1) := by decide +kernel
theorem dX8_endLeaseOn_8 : decode cX8_endLeaseOn 8 = .ok (.getfield 52, 3) := by decide +kernel
theorem dX8_endLeaseOn_11 : decode cX8_endLeaseOn 11 = .ok (.iload_n 2, 1) := by decide +kernel
theorem dX8_endLeaseOn_12 : decode cX8_endLeaseOn 12 = .ok (.aload_n 0, 1) := by decide +kernel
theorem dX8_endLeaseOn_13 : decode cX8_endLeaseOn 13 = .ok (.getfield 52, 3) := by decide +kernel
theorem dX8_endLeaseOn_16 : decode cX8_endLeaseOn 16 = .ok (.iload_n 2, 1) := by decide +kernel
theorem dX8_endLeaseOn_17 : decode cX8_endLeaseOn 17 = .ok (.iaload, 1) := by decide +kernel
theorem dX8_endLeaseOn_18 : decode cX8_endLeaseOn 18 = .ok (.iload_n 1, 1) := by decide +kernel
theorem dX8_endLeaseOn_19 : decode cX8_endLeaseOn 19 = .ok (.if_icmp .ne 7, 3) := by decide +kernel
theorem dX8_endLeaseOn_22 : decode cX8_endLeaseOn 22 = .ok (.iconst (-1), 1) := by decide +kernel
theorem dX8_endLeaseOn_23 : decode cX8_endLeaseOn 23 = .ok (.goto 9, 3) := by decide +kernel
theorem dX8_endLeaseOn_26 : decode cX8_endLeaseOn 26 = .ok (.aload_n 0, 1) := by decide +kernel
theorem dX8_endLeaseOn_27 : decode cX8_endLeaseOn 27 = .ok (.getfield 52, 3) := by decide +kernel
theorem dX8_endLeaseOn_30 : decode cX8_endLeaseOn 30 = .ok (.iload_n 2, 1) := by decide +kernel
theorem dX8_endLeaseOn_31 : decode cX8_endLeaseOn 31 = .ok (.iaload, 1) := by decide +kernel
theorem dX8_endLeaseOn_32 : decode cX8_endLeaseOn 32 = .ok (.iastore, 1) := by decide +kernel
theorem dX8_endLeaseOn_33 : decode cX8_endLeaseOn 33 = .ok (.iinc 2 1, 3) := by decide +kernel
theorem dX8_endLeaseOn_36 : decode cX8_endLeaseOn 36 = .ok (.goto (-34), 3) := by decide +kernel
theorem dX8_endLeaseOn_39 : decode cX8_endLeaseOn 39 = .ok (.return_, 1) := by decide +kernel
theorem dX8_settle_0 : decode cX8_settle 0 = .ok (.aload_n 0, 1) := by decide +kernel
theorem dX8_settle_1 : decode cX8_settle 1 = .ok (.getfield 46, 3) := by decide +kernel
theorem dX8_settle_4 : decode cX8_settle 4 = .ok (.iload_n 1, 1) := by decide +kernel
theorem dX8_settle_5 : decode cX8_settle 5 = .ok (.iload_n 2, 1) := by decide +kernel
theorem dX8_settle_6 : decode cX8_settle 6 = .ok (.ifCond .eq 7, 3) := by decide +kernel
theorem dX8_settle_9 : decode cX8_settle 9 = .ok (.iconst 2, 1) := by decide +kernel
theorem dX8_settle_10 : decode cX8_settle 10 = .ok (.goto 4, 3) := by decide +kernel
theorem dX8_settle_13 : decode cX8_settle 13 = .ok (.iconst 3, 1) := by decide +kernel
theorem dX8_settle_14 : decode cX8_settle 14 = .ok (.iastore, 1) := by decide +kernel
theorem dX8_settle_15 : decode cX8_settle 15 = .ok (.iload_n 2, 1) := by decide +kernel
theorem dX8_settle_16 : decode cX8_settle 16 = .ok (.ifCond .ne 49, 3) := by decide +kernel
theorem dX8_settle_19 : decode cX8_settle 19 = .ok (.aload_n 0, 1) := by decide +kernel
theorem dX8_settle_20 : decode cX8_settle 20 = .ok (.invokevirtual 140, 3) := by decide +kernel
theorem dX8_settle_23 : decode cX8_settle 23 = .ok (.aload_n 0, 1) := by decide +kernel
theorem dX8_settle_24 : decode cX8_settle 24 = .ok (.invokevirtual 117, 3) := by decide +kernel
theorem dX8_settle_27 : decode cX8_settle 27 = .ok (.iconst 0, 1) := by decide +kernel
theorem dX8_settle_28 : decode cX8_settle 28 = .ok (.istore_n 3, 1) := by decide +kernel
theorem dX8_settle_29 : decode cX8_settle 29 = .ok (.iload_n 3, 1) := by decide +kernel
theorem dX8_settle_30 : decode cX8_settle 30 = .ok (.iconst 4, 1) := by decide +kernel
theorem dX8_settle_31 : decode cX8_settle 31 = .ok (.if_icmp .ge 34, 3) := by decide +kernel
theorem dX8_settle_34 : decode cX8_settle 34 = .ok (.aload_n 0, 1) := by decide +kernel
theorem dX8_settle_35 : decode cX8_settle 35 = .ok (.getfield 61, 3) := by decide +kernel
theorem dX8_settle_38 : decode cX8_settle 38 = .ok (.iconst 4, 1) := by decide +kernel
theorem dX8_settle_39 : decode cX8_settle 39 = .ok (.iload_n 3, 1) := by decide +kernel
theorem dX8_settle_40 : decode cX8_settle 40 = .ok (.imul, 1) := by decide +kernel
theorem dX8_settle_41 : decode cX8_settle 41 = .ok (.iload_n 1, 1) := by decide +kernel
theorem dX8_settle_42 : decode cX8_settle 42 = .ok (.iadd, 1) := by decide +kernel
theorem dX8_settle_43 : decode cX8_settle 43 = .ok (.baload, 1) := by decide +kernel
theorem dX8_settle_44 : decode cX8_settle 44 = .ok (.ifCond .eq 15, 3) := by decide +kernel
theorem dX8_settle_47 : decode cX8_settle 47 = .ok (.aload_n 0, 1) := by decide +kernel
theorem dX8_settle_48 : decode cX8_settle 48 = .ok (.getfield 46, 3) := by decide +kernel
theorem dX8_settle_51 : decode cX8_settle 51 = .ok (.iload_n 3, 1) := by decide +kernel
theorem dX8_settle_52 : decode cX8_settle 52 = .ok (.iconst 3, 1) := by decide +kernel
theorem dX8_settle_53 : decode cX8_settle 53 = .ok (.iastore, 1) := by decide +kernel
theorem dX8_settle_54 : decode cX8_settle 54 = .ok (.aload_n 0, 1) := by decide +kernel
theorem dX8_settle_55 : decode cX8_settle 55 = .ok (.iload_n 3, 1) := by decide +kernel
theorem dX8_settle_56 : decode cX8_settle 56 = .ok (.invokevirtual 156, 3) := by decide +kernel
theorem dX8_settle_59 : decode cX8_settle 59 = .ok (.iinc 3 1, 3) := by decide +kernel
theorem dX8_settle_62 : decode cX8_settle 62 = .ok (.goto (-33), 3) := by decide +kernel
theorem dX8_settle_65 : decode cX8_settle 65 = .ok (.aload_n 0, 1) := by decide +kernel
theorem dX8_settle_66 : decode cX8_settle 66 = .ok (.invokevirtual 159, 3) := by decide +kernel
theorem dX8_settle_69 : decode cX8_settle 69 = .ok (.return_, 1) := by decide +kernel
theorem dX8_expire_0 : decode cX8_expire 0 = .ok (.aload_n 0, 1) := by decide +kernel
theorem dX8_expire_1 : decode cX8_expire 1 = .ok (.getfield 52, 3) := by decide +kernel
theorem dX8_expire_4 : decode cX8_expire 4 = .ok (.iload_n 1, 1) := by decide +kernel
theorem dX8_expire_5 : decode cX8_expire 5 = .ok (.iaload, 1) := by decide +kernel
theorem dX8_expire_6 : decode cX8_expire 6 = .ok (.istore_n 2, 1) := by decide +kernel
theorem dX8_expire_7 : decode cX8_expire 7 = .ok (.aload_n 0, 1) := by decide +kernel
theorem dX8_expire_8 : decode cX8_expire 8 = .ok (.getfield 52, 3) := by decide +kernel
theorem dX8_expire_11 : decode cX8_expire 11 = .ok (.iload_n 1, 1) := by decide +kernel
theorem dX8_expire_12 : decode cX8_expire 12 = .ok (.iconst (-1), 1) := by decide +kernel
theorem dX8_expire_13 : decode cX8_expire 13 = .ok (.iastore, 1) := by decide +kernel
theorem dX8_expire_14 : decode cX8_expire 14 = .ok (.aload_n 0, 1) := by decide +kernel
theorem dX8_expire_15 : decode cX8_expire 15 = .ok (.getfield 49, 3) := by decide +kernel
theorem dX8_expire_18 : decode cX8_expire 18 = .ok (.iload_n 2, 1) := by decide +kernel
theorem dX8_expire_19 : decode cX8_expire 19 = .ok (.iaload, 1) := by decide +kernel
theorem dX8_expire_20 : decode cX8_expire 20 = .ok (.aload_n 0, 1) := by decide +kernel
theorem dX8_expire_21 : decode cX8_expire 21 = .ok (.getfield 76, 3) := by decide +kernel
theorem dX8_expire_24 : decode cX8_expire 24 = .ok (.if_icmp .le 12, 3) := by decide +kernel
theorem dX8_expire_27 : decode cX8_expire 27 = .ok (.aload_n 0, 1) := by decide +kernel
theorem dX8_expire_28 : decode cX8_expire 28 = .ok (.iload_n 2, 1) := by decide +kernel
theorem dX8_expire_29 : decode cX8_expire 29 = .ok (.iconst 0, 1) := by decide +kernel
theorem dX8_expire_30 : decode cX8_expire 30 = .ok (.invokevirtual 162, 3) := by decide +kernel
theorem dX8_expire_33 : decode cX8_expire 33 = .ok (.goto 10, 3) := by decide +kernel
theorem dX8_expire_36 : decode cX8_expire 36 = .ok (.aload_n 0, 1) := by decide +kernel
theorem dX8_expire_37 : decode cX8_expire 37 = .ok (.getfield 46, 3) := by decide +kernel
theorem dX8_expire_40 : decode cX8_expire 40 = .ok (.iload_n 2, 1) := by decide +kernel
theorem dX8_expire_41 : decode cX8_expire 41 = .ok (.iconst 1, 1) := by decide +kernel
theorem dX8_expire_42 : decode cX8_expire 42 = .ok (.iastore, 1) := by decide +kernel
theorem dX8_expire_43 : decode cX8_expire 43 = .ok (.return_, 1) := by decide +kernel
theorem dX8_isChange_0 : decode cX8_isChange 0 = .ok (.iload_n 1, 1) := by decide +kernel
theorem dX8_isChange_1 : decode cX8_isChange 1 = .ok (.ifCond .lt 15, 3) := by decide +kernel
theorem dX8_isChange_4 : decode cX8_isChange 4 = .ok (.iload_n 1, 1) := by decide +kernel
theorem dX8_isChange_5 : decode cX8_isChange 5 = .ok (.aload_n 0, 1) := by decide +kernel
theorem dX8_isChange_6 : decode cX8_isChange 6 = .ok (.getfield 91, 3) := by decide +kernel
theorem dX8_isChange_9 : decode cX8_isChange 9 = .ok (.if_icmp .ge 7, 3) := by decide +kernel
theorem dX8_isChange_12 : decode cX8_isChange 12 = .ok (.iconst 1, 1) := by decide +kernel
theorem dX8_isChange_13 : decode cX8_isChange 13 = .ok (.goto 4, 3) := by decide +kernel
theorem dX8_isChange_16 : decode cX8_isChange 16 = .ok (.iconst 0, 1) := by decide +kernel
theorem dX8_isChange_17 : decode cX8_isChange 17 = .ok (.ireturn, 1) := by decide +kernel
theorem dX8_is_0 : decode cX8_is 0 = .ok (.aload_n 0, 1) := by decide +kernel
theorem dX8_is_1 : decode cX8_is 1 = .ok (.iload_n 1, 1) := by decide +kernel
theorem dX8_is_2 : decode cX8_is 2 = .ok (.invokevirtual 166, 3) := by decide +kernel
theorem dX8_is_5 : decode cX8_is 5 = .ok (.ifCond .eq 17, 3) := by decide +kernel
theorem dX8_is_8 : decode cX8_is 8 = .ok (.aload_n 0, 1) := by decide +kernel
theorem dX8_is_9 : decode cX8_is 9 = .ok (.getfield 31, 3) := by decide +kernel
theorem dX8_is_12 : decode cX8_is 12 = .ok (.iload_n 1, 1) := by decide +kernel
theorem dX8_is_13 : decode cX8_is 13 = .ok (.iaload, 1) := by decide +kernel
theorem dX8_is_14 : decode cX8_is 14 = .ok (.iload_n 2, 1) := by decide +kernel
theorem dX8_is_15 : decode cX8_is 15 = .ok (.if_icmp .ne 7, 3) := by decide +kernel
theorem dX8_is_18 : decode cX8_is 18 = .ok (.iconst 1, 1) := by decide +kernel
theorem dX8_is_19 : decode cX8_is 19 = .ok (.goto 4, 3) := by decide +kernel
theorem dX8_is_22 : decode cX8_is 22 = .ok (.iconst 0, 1) := by decide +kernel
theorem dX8_is_23 : decode cX8_is 23 = .ok (.ireturn, 1) := by decide +kernel
theorem dX8_noReviews_0 : decode cX8_noReviews 0 = .ok (.iconst 0, 1) := by decide +kernel
theorem dX8_noReviews_1 : decode cX8_noReviews 1 = .ok (.istore_n 2, 1) := by decide +kernel
theorem dX8_noReviews_2 : decode cX8_noReviews 2 = .ok (.iload_n 2, 1) := by decide +kernel
theorem dX8_noReviews_3 : decode cX8_noReviews 3 = .ok (.bipush 8, 2) := by decide +kernel
theorem dX8_noReviews_5 : decode cX8_noReviews 5 = .ok (.if_icmp .ge 21, 3) := by decide +kernel
theorem dX8_noReviews_8 : decode cX8_noReviews 8 = .ok (.aload_n 0, 1) := by decide +kernel
theorem dX8_noReviews_9 : decode cX8_noReviews 9 = .ok (.getfield 37, 3) := by decide +kernel
theorem dX8_noReviews_12 : decode cX8_noReviews 12 = .ok (.bipush 8, 2) := by decide +kernel
theorem dX8_noReviews_14 : decode cX8_noReviews 14 = .ok (.iload_n 1, 1) := by decide +kernel
theorem dX8_noReviews_15 : decode cX8_noReviews 15 = .ok (.imul, 1) := by decide +kernel
theorem dX8_noReviews_16 : decode cX8_noReviews 16 = .ok (.iload_n 2, 1) := by decide +kernel
theorem dX8_noReviews_17 : decode cX8_noReviews 17 = .ok (.iadd, 1) := by decide +kernel
theorem dX8_noReviews_18 : decode cX8_noReviews 18 = .ok (.iconst 0, 1) := by decide +kernel
theorem dX8_noReviews_19 : decode cX8_noReviews 19 = .ok (.iastore, 1) := by decide +kernel
theorem dX8_noReviews_20 : decode cX8_noReviews 20 = .ok (.iinc 2 1, 3) := by decide +kernel
theorem dX8_noReviews_23 : decode cX8_noReviews 23 = .ok (.goto (-21), 3) := by decide +kernel
theorem dX8_noReviews_26 : decode cX8_noReviews 26 = .ok (.return_, 1) := by decide +kernel
theorem dX8_doOpen_0 : decode cX8_doOpen 0 = .ok (.aload_n 0, 1) := by decide +kernel
theorem dX8_doOpen_1 : decode cX8_doOpen 1 = .ok (.getfield 91, 3) := by decide +kernel
theorem dX8_doOpen_4 : decode cX8_doOpen 4 = .ok (.bipush 16, 2) := by decide +kernel
theorem dX8_doOpen_6 : decode cX8_doOpen 6 = .ok (.if_icmp .lt 5, 3) := by decide +kernel
theorem dX8_doOpen_9 : decode cX8_doOpen 9 = .ok (.iconst (-1), 1) := by decide +kernel
theorem dX8_doOpen_10 : decode cX8_doOpen 10 = .ok (.ireturn, 1) := by decide +kernel
theorem dX8_doOpen_11 : decode cX8_doOpen 11 = .ok (.iconst 0, 1) := by decide +kernel
theorem dX8_doOpen_12 : decode cX8_doOpen 12 = .ok (.istore_n 1, 1) := by decide +kernel
theorem dX8_doOpen_13 : decode cX8_doOpen 13 = .ok (.iload_n 1, 1) := by decide +kernel
theorem dX8_doOpen_14 : decode cX8_doOpen 14 = .ok (.bipush 6, 2) := by decide +kernel
theorem dX8_doOpen_16 : decode cX8_doOpen 16 = .ok (.if_icmp .ge 49, 3) := by decide +kernel
theorem dX8_doOpen_19 : decode cX8_doOpen 19 = .ok (.aload_n 0, 1) := by decide +kernel
theorem dX8_doOpen_20 : decode cX8_doOpen 20 = .ok (.getfield 25, 3) := by decide +kernel
theorem dX8_doOpen_23 : decode cX8_doOpen 23 = .ok (.bipush 6, 2) := by decide +kernel
theorem dX8_doOpen_25 : decode cX8_doOpen 25 = .ok (.aload_n 0, 1) := by decide +kernel
theorem dX8_doOpen_26 : decode cX8_doOpen 26 = .ok (.getfield 91, 3) := by decide +kernel
theorem dX8_doOpen_29 : decode cX8_doOpen 29 = .ok (.imul, 1) := by decide +kernel
theorem dX8_doOpen_30 : decode cX8_doOpen 30 = .ok (.iload_n 1, 1) := by decide +kernel
theorem dX8_doOpen_31 : decode cX8_doOpen 31 = .ok (.iadd, 1) := by decide +kernel
theorem dX8_doOpen_32 : decode cX8_doOpen 32 = .ok (.aload_n 0, 1) := by decide +kernel
theorem dX8_doOpen_33 : decode cX8_doOpen 33 = .ok (.getfield 22, 3) := by decide +kernel
theorem dX8_doOpen_36 : decode cX8_doOpen 36 = .ok (.iload_n 1, 1) := by decide +kernel
theorem dX8_doOpen_37 : decode cX8_doOpen 37 = .ok (.iaload, 1) := by decide +kernel
theorem dX8_doOpen_38 : decode cX8_doOpen 38 = .ok (.iastore, 1) := by decide +kernel
theorem dX8_doOpen_39 : decode cX8_doOpen 39 = .ok (.aload_n 0, 1) := by decide +kernel
theorem dX8_doOpen_40 : decode cX8_doOpen 40 = .ok (.getfield 28, 3) := by decide +kernel
theorem dX8_doOpen_43 : decode cX8_doOpen 43 = .ok (.bipush 6, 2) := by decide +kernel
theorem dX8_doOpen_45 : decode cX8_doOpen 45 = .ok (.aload_n 0, 1) := by decide +kernel
theorem dX8_doOpen_46 : decode cX8_doOpen 46 = .ok (.getfield 91, 3) := by decide +kernel
theorem dX8_doOpen_49 : decode cX8_doOpen 49 = .ok (.imul, 1) := by decide +kernel
theorem dX8_doOpen_50 : decode cX8_doOpen 50 = .ok (.iload_n 1, 1) := by decide +kernel
theorem dX8_doOpen_51 : decode cX8_doOpen 51 = .ok (.iadd, 1) := by decide +kernel
theorem dX8_doOpen_52 : decode cX8_doOpen 52 = .ok (.aload_n 0, 1) := by decide +kernel
theorem dX8_doOpen_53 : decode cX8_doOpen 53 = .ok (.getfield 22, 3) := by decide +kernel
theorem dX8_doOpen_56 : decode cX8_doOpen 56 = .ok (.iload_n 1, 1) := by decide +kernel
theorem dX8_doOpen_57 : decode cX8_doOpen 57 = .ok (.iaload, 1) := by decide +kernel
theorem dX8_doOpen_58 : decode cX8_doOpen 58 = .ok (.iastore, 1) := by decide +kernel
theorem dX8_doOpen_59 : decode cX8_doOpen 59 = .ok (.iinc 1 1, 3) := by decide +kernel
theorem dX8_doOpen_62 : decode cX8_doOpen 62 = .ok (.goto (-49), 3) := by decide +kernel
theorem dX8_doOpen_65 : decode cX8_doOpen 65 = .ok (.aload_n 0, 1) := by decide +kernel
theorem dX8_doOpen_66 : decode cX8_doOpen 66 = .ok (.getfield 31, 3) := by decide +kernel
theorem dX8_doOpen_69 : decode cX8_doOpen 69 = .ok (.aload_n 0, 1) := by decide +kernel
theorem dX8_doOpen_70 : decode cX8_doOpen 70 = .ok (.getfield 91, 3) := by decide +kernel
theorem dX8_doOpen_73 : decode cX8_doOpen 73 = .ok (.iconst 0, 1) := by decide +kernel
theorem dX8_doOpen_74 : decode cX8_doOpen 74 = .ok (.iastore, 1) := by decide +kernel
theorem dX8_doOpen_75 : decode cX8_doOpen 75 = .ok (.aload_n 0, 1) := by decide +kernel
theorem dX8_doOpen_76 : decode cX8_doOpen 76 = .ok (.getfield 34, 3) := by decide +kernel
theorem dX8_doOpen_79 : decode cX8_doOpen 79 = .ok (.aload_n 0, 1) := by decide +kernel
theorem dX8_doOpen_80 : decode cX8_doOpen 80 = .ok (.getfield 91, 3) := by decide +kernel
theorem dX8_doOpen_83 : decode cX8_doOpen 83 = .ok (.iconst 0, 1) := by decide +kernel
theorem dX8_doOpen_84 : decode cX8_doOpen 84 = .ok (.iastore, 1) := by decide +kernel
theorem dX8_doOpen_85 : decode cX8_doOpen 85 = .ok (.aload_n 0, 1) := by decide +kernel
theorem dX8_doOpen_86 : decode cX8_doOpen 86 = .ok (.aload_n 0, 1) := by decide +kernel
theorem dX8_doOpen_87 : decode cX8_doOpen 87 = .ok (.getfield 91, 3) := by decide +kernel
theorem dX8_doOpen_90 : decode cX8_doOpen 90 = .ok (.invokevirtual 169, 3) := by decide +kernel
theorem dX8_doOpen_93 : decode cX8_doOpen 93 = .ok (.aload_n 0, 1) := by decide +kernel
theorem dX8_doOpen_94 : decode cX8_doOpen 94 = .ok (.aload_n 0, 1) := by decide +kernel
theorem dX8_doOpen_95 : decode cX8_doOpen 95 = .ok (.getfield 91, 3) := by decide +kernel
theorem dX8_doOpen_98 : decode cX8_doOpen 98 = .ok (.iconst 1, 1) := by decide +kernel
theorem dX8_doOpen_99 : decode cX8_doOpen 99 = .ok (.iadd, 1) := by decide +kernel
theorem dX8_doOpen_100 : decode cX8_doOpen 100 = .ok (.putfield 91, 3) := by decide +kernel
theorem dX8_doOpen_103 : decode cX8_doOpen 103 = .ok (.aload_n 0, 1) := by decide +kernel
theorem dX8_doOpen_104 : decode cX8_doOpen 104 = .ok (.getfield 91, 3) := by decide +kernel
theorem dX8_doOpen_107 : decode cX8_doOpen 107 = .ok (.iconst 1, 1) := by decide +kernel
theorem dX8_doOpen_108 : decode cX8_doOpen 108 = .ok (.isub, 1) := by decide +kernel
theorem dX8_doOpen_109 : decode cX8_doOpen 109 = .ok (.ireturn, 1) := by decide +kernel
theorem dX8_doPush_0 : decode cX8_doPush 0 = .ok (.aload_n 0, 1) := by decide +kernel
theorem dX8_doPush_1 : decode cX8_doPush 1 = .ok (.iload_n 1, 1) := by decide +kernel
theorem dX8_doPush_2 : decode cX8_doPush 2 = .ok (.iconst 0, 1) := by decide +kernel
theorem dX8_doPush_3 : decode cX8_doPush 3 = .ok (.invokevirtual 172, 3) := by decide +kernel
theorem dX8_doPush_6 : decode cX8_doPush 6 = .ok (.ifCond .eq 12, 3) := by decide +kernel
theorem dX8_doPush_9 : decode cX8_doPush 9 = .ok (.iload_n 2, 1) := by decide +kernel
theorem dX8_doPush_10 : decode cX8_doPush 10 = .ok (.ifCond .lt 8, 3) := by decide +kernel
theorem dX8_doPush_13 : decode cX8_doPush 13 = .ok (.iload_n 2, 1) := by decide +kernel
theorem dX8_doPush_14 : decode cX8_doPush 14 = .ok (.iconst 5, 1) := by decide +kernel
theorem dX8_doPush_15 : decode cX8_doPush 15 = .ok (.if_icmp .le 5, 3) := by decide +kernel
theorem dX8_doPush_18 : decode cX8_doPush 18 = .ok (.iconst (-1), 1) := by decide +kernel
theorem dX8_doPush_19 : decode cX8_doPush 19 = .ok (.ireturn, 1) := by decide +kernel
theorem dX8_doPush_20 : decode cX8_doPush 20 = .ok (.aload_n 0, 1) := by decide +kernel
theorem dX8_doPush_21 : decode cX8_doPush 21 = .ok (.getfield 28, 3) := by decide +kernel
theorem dX8_doPush_24 : decode cX8_doPush 24 = .ok (.bipush 6, 2) := by decide +kernel
theorem dX8_doPush_26 : decode cX8_doPush 26 = .ok (.iload_n 1, 1) := by decide +kernel
theorem dX8_doPush_27 : decode cX8_doPush 27 = .ok (.imul, 1) := by decide +kernel
theorem dX8_doPush_28 : decode cX8_doPush 28 = .ok (.iload_n 2, 1) := by decide +kernel
theorem dX8_doPush_29 : decode cX8_doPush 29 = .ok (.iadd, 1) := by decide +kernel
theorem dX8_doPush_30 : decode cX8_doPush 30 = .ok (.iload_n 3, 1) := by decide +kernel
theorem dX8_doPush_31 : decode cX8_doPush 31 = .ok (.iastore, 1) := by decide +kernel
theorem dX8_doPush_32 : decode cX8_doPush 32 = .ok (.aload_n 0, 1) := by decide +kernel
theorem dX8_doPush_33 : decode cX8_doPush 33 = .ok (.iload_n 1, 1) := by decide +kernel
theorem dX8_doPush_34 : decode cX8_doPush 34 = .ok (.invokevirtual 169, 3) := by decide +kernel
theorem dX8_doPush_37 : decode cX8_doPush 37 = .ok (.iconst 1, 1) := by decide +kernel
theorem dX8_doPush_38 : decode cX8_doPush 38 = .ok (.ireturn, 1) := by decide +kernel
theorem dX8_doReview_0 : decode cX8_doReview 0 = .ok (.aload_n 0, 1) := by decide +kernel
theorem dX8_doReview_1 : decode cX8_doReview 1 = .ok (.iload_n 1, 1) := by decide +kernel
theorem dX8_doReview_2 : decode cX8_doReview 2 = .ok (.iconst 0, 1) := by decide +kernel
theorem dX8_doReview_3 : decode cX8_doReview 3 = .ok (.invokevirtual 172, 3) := by decide +kernel
theorem dX8_doReview_6 : decode cX8_doReview 6 = .ok (.ifCond .eq 13, 3) := by decide +kernel
theorem dX8_doReview_9 : decode cX8_doReview 9 = .ok (.iload_n 2, 1) := by decide +kernel
theorem dX8_doReview_10 : decode cX8_doReview 10 = .ok (.ifCond .lt 9, 3) := by decide +kernel
theorem dX8_doReview_13 : decode cX8_doReview 13 = .ok (.iload_n 2, 1) := by decide +kernel
theorem dX8_doReview_14 : decode cX8_doReview 14 = .ok (.bipush 7, 2) := by decide +kernel
theorem dX8_doReview_16 : decode cX8_doReview 16 = .ok (.if_icmp .le 5, 3) := by decide +kernel
theorem dX8_doReview_19 : decode cX8_doReview 19 = .ok (.iconst (-1), 1) := by decide +kernel
theorem dX8_doReview_20 : decode cX8_doReview 20 = .ok (.ireturn, 1) := by decide +kernel
theorem dX8_doReview_21 : decode cX8_doReview 21 = .ok (.aload_n 0, 1) := by decide +kernel
theorem dX8_doReview_22 : decode cX8_doReview 22 = .ok (.getfield 37, 3) := by decide +kernel
theorem dX8_doReview_25 : decode cX8_doReview 25 = .ok (.bipush 8, 2) := by decide +kernel
theorem dX8_doReview_27 : decode cX8_doReview 27 = .ok (.iload_n 1, 1) := by decide +kernel
theorem dX8_doReview_28 : decode cX8_doReview 28 = .ok (.imul, 1) := by decide +kernel
theorem dX8_doReview_29 : decode cX8_doReview 29 = .ok (.iload_n 2, 1) := by decide +kernel
theorem dX8_doReview_30 : decode cX8_doReview 30 = .ok (.iadd, 1) := by decide +kernel
theorem dX8_doReview_31 : decode cX8_doReview 31 = .ok (.iload_n 3, 1) := by decide +kernel
theorem dX8_doReview_32 : decode cX8_doReview 32 = .ok (.iastore, 1) := by decide +kernel
theorem dX8_doReview_33 : decode cX8_doReview 33 = .ok (.iconst 1, 1) := by decide +kernel
theorem dX8_doReview_34 : decode cX8_doReview 34 = .ok (.ireturn, 1) := by decide +kernel
theorem dX8_doClose_0 : decode cX8_doClose 0 = .ok (.aload_n 0, 1) := by decide +kernel
theorem dX8_doClose_1 : decode cX8_doClose 1 = .ok (.iload_n 1, 1) := by decide +kernel
theorem dX8_doClose_2 : decode cX8_doClose 2 = .ok (.iconst 0, 1) := by decide +kernel
theorem dX8_doClose_3 : decode cX8_doClose 3 = .ok (.invokevirtual 172, 3) := by decide +kernel
theorem dX8_doClose_6 : decode cX8_doClose 6 = .ok (.ifCond .ne 14, 3) := by decide +kernel
theorem dX8_doClose_9 : decode cX8_doClose 9 = .ok (.aload_n 0, 1) := by decide +kernel
theorem dX8_doClose_10 : decode cX8_doClose 10 = .ok (.iload_n 1, 1) := by decide +kernel
theorem dX8_doClose_11 : decode cX8_doClose 11 = .ok (.iconst 3, 1) := by decide +kernel
theorem dX8_doClose_12 : decode cX8_doClose 12 = .ok (.invokevirtual 172, 3) := by decide +kernel
theorem dX8_doClose_15 : decode cX8_doClose 15 = .ok (.ifCond .ne 5, 3) := by decide +kernel
theorem dX8_doClose_18 : decode cX8_doClose 18 = .ok (.iconst (-1), 1) := by decide +kernel
theorem dX8_doClose_19 : decode cX8_doClose 19 = .ok (.ireturn, 1) := by decide +kernel
theorem dX8_doClose_20 : decode cX8_doClose 20 = .ok (.aload_n 0, 1) := by decide +kernel
theorem dX8_doClose_21 : decode cX8_doClose 21 = .ok (.getfield 31, 3) := by decide +kernel
theorem dX8_doClose_24 : decode cX8_doClose 24 = .ok (.iload_n 1, 1) := by decide +kernel
theorem dX8_doClose_25 : decode cX8_doClose 25 = .ok (.iconst 4, 1) := by decide +kernel
theorem dX8_doClose_26 : decode cX8_doClose 26 = .ok (.iastore, 1) := by decide +kernel
theorem dX8_doClose_27 : decode cX8_doClose 27 = .ok (.aload_n 0, 1) := by decide +kernel
theorem dX8_doClose_28 : decode cX8_doClose 28 = .ok (.getfield 34, 3) := by decide +kernel
theorem dX8_doClose_31 : decode cX8_doClose 31 = .ok (.iload_n 1, 1) := by decide +kernel
theorem dX8_doClose_32 : decode cX8_doClose 32 = .ok (.iconst 0, 1) := by decide +kernel
theorem dX8_doClose_33 : decode cX8_doClose 33 = .ok (.iastore, 1) := by decide +kernel
theorem dX8_doClose_34 : decode cX8_doClose 34 = .ok (.iconst 1, 1) := by decide +kernel
theorem dX8_doClose_35 : decode cX8_doClose 35 = .ok (.ireturn, 1) := by decide +kernel
theorem dX8_count_0 : decode cX8_count 0 = .ok (.iconst 0, 1) := by decide +kernel
theorem dX8_count_1 : decode cX8_count 1 = .ok (.istore_n 3, 1) := by decide +kernel
theorem dX8_count_2 : decode cX8_count 2 = .ok (.iconst 0, 1) := by decide +kernel
theorem dX8_count_3 : decode cX8_count 3 = .ok (.istore 4, 2) := by decide +kernel
theorem dX8_count_5 : decode cX8_count 5 = .ok (.iload 4, 2) := by decide +kernel
theorem dX8_count_7 : decode cX8_count 7 = .ok (.bipush 8, 2) := by decide +kernel
theorem dX8_count_9 : decode cX8_count 9 = .ok (.if_icmp .ge 33, 3) := by decide +kernel
theorem dX8_count_12 : decode cX8_count 12 = .ok (.aload_n 0, 1) := by decide +kernel
theorem dX8_count_13 : decode cX8_count 13 = .ok (.getfield 37, 3) := by decide +kernel
theorem dX8_count_16 : decode cX8_count 16 = .ok (.bipush 8, 2) := by decide +kernel
theorem dX8_count_18 : decode cX8_count 18 = .ok (.iload_n 1, 1) := by decide +kernel
theorem dX8_count_19 : decode cX8_count 19 = .ok (.imul, 1) := by decide +kernel
theorem dX8_count_20 : decode cX8_count 20 = .ok (.iload 4, 2) := by decide +kernel
theorem dX8_count_22 : decode cX8_count 22 = .ok (.iadd, 1) := by decide +kernel
theorem dX8_count_23 : decode cX8_count 23 = .ok (.iaload, 1) := by decide +kernel
theorem dX8_count_24 : decode cX8_count 24 = .ok (.iload_n 2, 1) := by decide +kernel
theorem dX8_count_25 : decode cX8_count 25 = .ok (.if_icmp .ne 9, 3) := by decide +kernel
theorem dX8_count_28 : decode cX8_count 28 = .ok (.iload_n 3, 1) := by decide +kernel
theorem dX8_count_29 : decode cX8_count 29 = .ok (.iconst 1, 1) := by decide +kernel
theorem dX8_count_30 : decode cX8_count 30 = .ok (.iadd, 1) := by decide +kernel
theorem dX8_count_31 : decode cX8_count 31 = .ok (.goto 4, 3) := by decide +kernel
theorem dX8_count_34 : decode cX8_count 34 = .ok (.iload_n 3, 1) := by decide +kernel
theorem dX8_count_35 : decode cX8_count 35 = .ok (.istore_n 3, 1) := by decide +kernel
theorem dX8_count_36 : decode cX8_count 36 = .ok (.iinc 4 1, 3) := by decide +kernel
theorem dX8_count_39 : decode cX8_count 39 = .ok (.goto (-34), 3) := by decide +kernel
theorem dX8_count_42 : decode cX8_count 42 = .ok (.iload_n 3, 1) := by decide +kernel
theorem dX8_count_43 : decode cX8_count 43 = .ok (.ireturn, 1) := by decide +kernel
theorem dX8_doEnqueue_0 : decode cX8_doEnqueue 0 = .ok (.aload_n 0, 1) := by decide +kernel
theorem dX8_doEnqueue_1 : decode cX8_doEnqueue 1 = .ok (.iload_n 1, 1) := by decide +kernel
theorem dX8_doEnqueue_2 : decode cX8_doEnqueue 2 = .ok (.iconst 0, 1) := by decide +kernel
theorem dX8_doEnqueue_3 : decode cX8_doEnqueue 3 = .ok (.invokevirtual 172, 3) := by decide +kernel
theorem dX8_doEnqueue_6 : decode cX8_doEnqueue 6 = .ok (.ifCond .eq 25, 3) := by decide +kernel
theorem dX8_doEnqueue_9 : decode cX8_doEnqueue 9 = .ok (.aload_n 0, 1) := by decide +kernel
theorem dX8_doEnqueue_10 : decode cX8_doEnqueue 10 = .ok (.iload_n 1, 1) := by decide +kernel
theorem dX8_doEnqueue_11 : decode cX8_doEnqueue 11 = .ok (.iconst 1, 1) := by decide +kernel
theorem dX8_doEnqueue_12 : decode cX8_doEnqueue 12 = .ok (.invokevirtual 175, 3) := by decide +kernel
theorem dX8_doEnqueue_15 : decode cX8_doEnqueue 15 = .ok (.aload_n 0, 1) := by decide +kernel
theorem dX8_doEnqueue_16 : decode cX8_doEnqueue 16 = .ok (.getfield 69, 3) := by decide +kernel
theorem dX8_doEnqueue_19 : decode cX8_doEnqueue 19 = .ok (.if_icmp .lt 12, 3) := by decide +kernel
theorem dX8_doEnqueue_22 : decode cX8_doEnqueue 22 = .ok (.aload_n 0, 1) := by decide +kernel
theorem dX8_doEnqueue_23 : decode cX8_doEnqueue 23 = .ok (.iload_n 1, 1) := by decide +kernel
theorem dX8_doEnqueue_24 : decode cX8_doEnqueue 24 = .ok (.iconst 2, 1) := by decide +kernel
theorem dX8_doEnqueue_25 : decode cX8_doEnqueue 25 = .ok (.invokevirtual 175, 3) := by decide +kernel
theorem dX8_doEnqueue_28 : decode cX8_doEnqueue 28 = .ok (.ifCond .le 5, 3) := by decide +kernel
theorem dX8_doEnqueue_31 : decode cX8_doEnqueue 31 = .ok (.iconst (-1), 1) := by decide +kernel
theorem dX8_doEnqueue_32 : decode cX8_doEnqueue 32 = .ok (.ireturn, 1) := by decide +kernel
theorem dX8_doEnqueue_33 : decode cX8_doEnqueue 33 = .ok (.aload_n 0, 1) := by decide +kernel
theorem dX8_doEnqueue_34 : decode cX8_doEnqueue 34 = .ok (.getfield 31, 3) := by decide +kernel
theorem dX8_doEnqueue_37 : decode cX8_doEnqueue 37 = .ok (.iload_n 1, 1) := by decide +kernel
theorem dX8_doEnqueue_38 : decode cX8_doEnqueue 38 = .ok (.iconst 1, 1) := by decide +kernel
theorem dX8_doEnqueue_39 : decode cX8_doEnqueue 39 = .ok (.iastore, 1) := by decide +kernel
theorem dX8_doEnqueue_40 : decode cX8_doEnqueue 40 = .ok (.aload_n 0, 1) := by decide +kernel
theorem dX8_doEnqueue_41 : decode cX8_doEnqueue 41 = .ok (.getfield 40, 3) := by decide +kernel
theorem dX8_doEnqueue_44 : decode cX8_doEnqueue 44 = .ok (.aload_n 0, 1) := by decide +kernel
theorem dX8_doEnqueue_45 : decode cX8_doEnqueue 45 = .ok (.getfield 94, 3) := by decide +kernel
theorem dX8_doEnqueue_48 : decode cX8_doEnqueue 48 = .ok (.iload_n 1, 1) := by decide +kernel
theorem dX8_doEnqueue_49 : decode cX8_doEnqueue 49 = .ok (.iastore, 1) := by decide +kernel
theorem dX8_doEnqueue_50 : decode cX8_doEnqueue 50 = .ok (.aload_n 0, 1) := by decide +kernel
theorem dX8_doEnqueue_51 : decode cX8_doEnqueue 51 = .ok (.aload_n 0, 1) := by decide +kernel
theorem dX8_doEnqueue_52 : decode cX8_doEnqueue 52 = .ok (.getfield 94, 3) := by decide +kernel
theorem dX8_doEnqueue_55 : decode cX8_doEnqueue 55 = .ok (.iconst 1, 1) := by decide +kernel
theorem dX8_doEnqueue_56 : decode cX8_doEnqueue 56 = .ok (.iadd, 1) := by decide +kernel
theorem dX8_doEnqueue_57 : decode cX8_doEnqueue 57 = .ok (.putfield 94, 3) := by decide +kernel
theorem dX8_doEnqueue_60 : decode cX8_doEnqueue 60 = .ok (.iconst 1, 1) := by decide +kernel
theorem dX8_doEnqueue_61 : decode cX8_doEnqueue 61 = .ok (.ireturn, 1) := by decide +kernel
theorem dX8_doRebase_0 : decode cX8_doRebase 0 = .ok (.aload_n 0, 1) := by decide +kernel
theorem dX8_doRebase_1 : decode cX8_doRebase 1 = .ok (.invokevirtual 103, 3) := by decide +kernel
theorem dX8_doRebase_4 : decode cX8_doRebase 4 = .ok (.aload_n 0, 1) := by decide +kernel
theorem dX8_doRebase_5 : decode cX8_doRebase 5 = .ok (.iload_n 1, 1) := by decide +kernel
theorem dX8_doRebase_6 : decode cX8_doRebase 6 = .ok (.iconst 0, 1) := by decide +kernel
theorem dX8_doRebase_7 : decode cX8_doRebase 7 = .ok (.invokevirtual 172, 3) := by decide +kernel
theorem dX8_doRebase_10 : decode cX8_doRebase 10 = .ok (.ifCond .ne 12, 3) := by decide +kernel
theorem dX8_doRebase_13 : decode cX8_doRebase 13 = .ok (.aload_n 0, 1) := by decide +kernel
theorem dX8_doRebase_14 : decode cX8_doRebase 14 = .ok (.iload_n 1, 1) := by decide +kernel
theorem dX8_doRebase_15 : decode cX8_doRebase 15 = .ok (.iconst 3, 1) := by decide +kernel
theorem dX8_doRebase_16 : decode cX8_doRebase 16 = .ok (.invokevirtual 172, 3) := by decide +kernel
theorem dX8_doRebase_19 : decode cX8_doRebase 19 = .ok (.ifCond .eq 11, 3) := by decide +kernel
theorem dX8_doRebase_22 : decode cX8_doRebase 22 = .ok (.aload_n 0, 1) := by decide +kernel
theorem dX8_doRebase_23 : decode cX8_doRebase 23 = .ok (.iload_n 1, 1) := by decide +kernel
theorem dX8_doRebase_24 : decode cX8_doRebase 24 = .ok (.invokevirtual 106, 3) := by decide +kernel
theorem dX8_doRebase_27 : decode cX8_doRebase 27 = .ok (.ifCond .eq 5, 3) := by decide +kernel
theorem dX8_doRebase_30 : decode cX8_doRebase 30 = .ok (.iconst (-1), 1) := by decide +kernel
theorem dX8_doRebase_31 : decode cX8_doRebase 31 = .ok (.ireturn, 1) := by decide +kernel
theorem dX8_doRebase_32 : decode cX8_doRebase 32 = .ok (.iconst 0, 1) := by decide +kernel
theorem dX8_doRebase_33 : decode cX8_doRebase 33 = .ok (.istore_n 2, 1) := by decide +kernel
theorem dX8_doRebase_34 : decode cX8_doRebase 34 = .ok (.iload_n 2, 1) := by decide +kernel
theorem dX8_doRebase_35 : decode cX8_doRebase 35 = .ok (.bipush 6, 2) := by decide +kernel
theorem dX8_doRebase_37 : decode cX8_doRebase 37 = .ok (.if_icmp .ge 43, 3) := by decide +kernel
theorem dX8_doRebase_40 : decode cX8_doRebase 40 = .ok (.aload_n 0, 1) := by decide +kernel
theorem dX8_doRebase_41 : decode cX8_doRebase 41 = .ok (.getfield 28, 3) := by decide +kernel
theorem dX8_doRebase_44 : decode cX8_doRebase 44 = .ok (.bipush 6, 2) := by decide +kernel
theorem dX8_doRebase_46 : decode cX8_doRebase 46 = .ok (.iload_n 1, 1) := by decide +kernel
theorem dX8_doRebase_47 : decode cX8_doRebase 47 = .ok (.imul, 1) := by decide +kernel
theorem dX8_doRebase_48 : decode cX8_doRebase 48 = .ok (.iload_n 2, 1) := by decide +kernel
theorem dX8_doRebase_49 : decode cX8_doRebase 49 = .ok (.iadd, 1) := by decide +kernel
theorem dX8_doRebase_50 : decode cX8_doRebase 50 = .ok (.aload_n 0, 1) := by decide +kernel
theorem dX8_doRebase_51 : decode cX8_doRebase 51 = .ok (.getfield 58, 3) := by decide +kernel
theorem dX8_doRebase_54 : decode cX8_doRebase 54 = .ok (.iload_n 2, 1) := by decide +kernel
theorem dX8_doRebase_55 : decode cX8_doRebase 55 = .ok (.iaload, 1) := by decide +kernel
theorem dX8_doRebase_56 : decode cX8_doRebase 56 = .ok (.iastore, 1) := by decide +kernel
theorem dX8_doRebase_57 : decode cX8_doRebase 57 = .ok (.aload_n 0, 1) := by decide +kernel
theorem dX8_doRebase_58 : decode cX8_doRebase 58 = .ok (.getfield 25, 3) := by decide +kernel
theorem dX8_doRebase_61 : decode cX8_doRebase 61 = .ok (.bipush 6, 2) := by decide +kernel
theorem dX8_doRebase_63 : decode cX8_doRebase 63 = .ok (.iload_n 1, 1) := by decide +kernel
theorem dX8_doRebase_64 : decode cX8_doRebase 64 = .ok (.imul, 1) := by decide +kernel
theorem dX8_doRebase_65 : decode cX8_doRebase 65 = .ok (.iload_n 2, 1) := by decide +kernel
theorem dX8_doRebase_66 : decode cX8_doRebase 66 = .ok (.iadd, 1) := by decide +kernel
theorem dX8_doRebase_67 : decode cX8_doRebase 67 = .ok (.aload_n 0, 1) := by decide +kernel
theorem dX8_doRebase_68 : decode cX8_doRebase 68 = .ok (.getfield 22, 3) := by decide +kernel
theorem dX8_doRebase_71 : decode cX8_doRebase 71 = .ok (.iload_n 2, 1) := by decide +kernel
theorem dX8_doRebase_72 : decode cX8_doRebase 72 = .ok (.iaload, 1) := by decide +kernel
theorem dX8_doRebase_73 : decode cX8_doRebase 73 = .ok (.iastore, 1) := by decide +kernel
theorem dX8_doRebase_74 : decode cX8_doRebase 74 = .ok (.iinc 2 1, 3) := by decide +kernel
theorem dX8_doRebase_77 : decode cX8_doRebase 77 = .ok (.goto (-43), 3) := by decide +kernel
theorem dX8_doRebase_80 : decode cX8_doRebase 80 = .ok (.aload_n 0, 1) := by decide +kernel
theorem dX8_doRebase_81 : decode cX8_doRebase 81 = .ok (.getfield 31, 3) := by decide +kernel
theorem dX8_doRebase_84 : decode cX8_doRebase 84 = .ok (.iload_n 1, 1) := by decide +kernel
theorem dX8_doRebase_85 : decode cX8_doRebase 85 = .ok (.iconst 0, 1) := by decide +kernel
theorem dX8_doRebase_86 : decode cX8_doRebase 86 = .ok (.iastore, 1) := by decide +kernel
theorem dX8_doRebase_87 : decode cX8_doRebase 87 = .ok (.aload_n 0, 1) := by decide +kernel
theorem dX8_doRebase_88 : decode cX8_doRebase 88 = .ok (.getfield 34, 3) := by decide +kernel
theorem dX8_doRebase_91 : decode cX8_doRebase 91 = .ok (.iload_n 1, 1) := by decide +kernel
theorem dX8_doRebase_92 : decode cX8_doRebase 92 = .ok (.iconst 0, 1) := by decide +kernel
theorem dX8_doRebase_93 : decode cX8_doRebase 93 = .ok (.iastore, 1) := by decide +kernel
theorem dX8_doRebase_94 : decode cX8_doRebase 94 = .ok (.aload_n 0, 1) := by decide +kernel
theorem dX8_doRebase_95 : decode cX8_doRebase 95 = .ok (.iload_n 1, 1) := by decide +kernel
theorem dX8_doRebase_96 : decode cX8_doRebase 96 = .ok (.invokevirtual 169, 3) := by decide +kernel
theorem dX8_doRebase_99 : decode cX8_doRebase 99 = .ok (.iconst 1, 1) := by decide +kernel
theorem dX8_doRebase_100 : decode cX8_doRebase 100 = .ok (.ireturn, 1) := by decide +kernel
theorem dX8_isWorker_0 : decode cX8_isWorker 0 = .ok (.iload_n 1, 1) := by decide +kernel
theorem dX8_isWorker_1 : decode cX8_isWorker 1 = .ok (.ifCond .lt 12, 3) := by decide +kernel
theorem dX8_isWorker_4 : decode cX8_isWorker 4 = .ok (.iload_n 1, 1) := by decide +kernel
theorem dX8_isWorker_5 : decode cX8_isWorker 5 = .ok (.iconst 3, 1) := by decide +kernel
theorem dX8_isWorker_6 : decode cX8_isWorker 6 = .ok (.if_icmp .gt 7, 3) := by decide +kernel
theorem dX8_isWorker_9 : decode cX8_isWorker 9 = .ok (.iconst 1, 1) := by decide +kernel
theorem dX8_isWorker_10 : decode cX8_isWorker 10 = .ok (.goto 4, 3) := by decide +kernel
theorem dX8_isWorker_13 : decode cX8_isWorker 13 = .ok (.iconst 0, 1) := by decide +kernel
theorem dX8_isWorker_14 : decode cX8_isWorker 14 = .ok (.ireturn, 1) := by decide +kernel
theorem dX8_doClaim_0 : decode cX8_doClaim 0 = .ok (.aload_n 0, 1) := by decide +kernel
theorem dX8_doClaim_1 : decode cX8_doClaim 1 = .ok (.iload_n 1, 1) := by decide +kernel
theorem dX8_doClaim_2 : decode cX8_doClaim 2 = .ok (.invokevirtual 179, 3) := by decide +kernel
theorem dX8_doClaim_5 : decode cX8_doClaim 5 = .ok (.ifCond .eq 20, 3) := by decide +kernel
theorem dX8_doClaim_8 : decode cX8_doClaim 8 = .ok (.aload_n 0, 1) := by decide +kernel
theorem dX8_doClaim_9 : decode cX8_doClaim 9 = .ok (.getfield 52, 3) := by decide +kernel
theorem dX8_doClaim_12 : decode cX8_doClaim 12 = .ok (.iload_n 1, 1) := by decide +kernel
theorem dX8_doClaim_13 : decode cX8_doClaim 13 = .ok (.iaload, 1) := by decide +kernel
theorem dX8_doClaim_14 : decode cX8_doClaim 14 = .ok (.iconst (-1), 1) := by decide +kernel
theorem dX8_doClaim_15 : decode cX8_doClaim 15 = .ok (.if_icmp .ne 10, 3) := by decide +kernel
theorem dX8_doClaim_18 : decode cX8_doClaim 18 = .ok (.aload_n 0, 1) := by decide +kernel
theorem dX8_doClaim_19 : decode cX8_doClaim 19 = .ok (.getfield 100, 3) := by decide +kernel
theorem dX8_doClaim_22 : decode cX8_doClaim 22 = .ok (.ifCond .ne 5, 3) := by decide +kernel
theorem dX8_doClaim_25 : decode cX8_doClaim 25 = .ok (.iconst (-1), 1) := by decide +kernel
theorem dX8_doClaim_26 : decode cX8_doClaim 26 = .ok (.ireturn, 1) := by decide +kernel
theorem dX8_doClaim_27 : decode cX8_doClaim 27 = .ok (.aload_n 0, 1) := by decide +kernel
theorem dX8_doClaim_28 : decode cX8_doClaim 28 = .ok (.invokevirtual 140, 3) := by decide +kernel
theorem dX8_doClaim_31 : decode cX8_doClaim 31 = .ok (.iconst 0, 1) := by decide +kernel
theorem dX8_doClaim_32 : decode cX8_doClaim 32 = .ok (.istore_n 2, 1) := by decide +kernel
theorem dX8_doClaim_33 : decode cX8_doClaim 33 = .ok (.iload_n 2, 1) := by decide +kernel
theorem dX8_doClaim_34 : decode cX8_doClaim 34 = .ok (.iconst 4, 1) := by decide +kernel
theorem dX8_doClaim_35 : decode cX8_doClaim 35 = .ok (.if_icmp .ge 123, 3) := by decide +kernel
theorem dX8_doClaim_38 : decode cX8_doClaim 38 = .ok (.aload_n 0, 1) := by decide +kernel
theorem dX8_doClaim_39 : decode cX8_doClaim 39 = .ok (.getfield 46, 3) := by decide +kernel
theorem dX8_doClaim_42 : decode cX8_doClaim 42 = .ok (.iload_n 2, 1) := by decide +kernel
theorem dX8_doClaim_43 : decode cX8_doClaim 43 = .ok (.iaload, 1) := by decide +kernel
theorem dX8_doClaim_44 : decode cX8_doClaim 44 = .ok (.iconst 1, 1) := by decide +kernel
theorem dX8_doClaim_45 : decode cX8_doClaim 45 = .ok (.if_icmp .ne 7, 3) := by decide +kernel
theorem dX8_doClaim_48 : decode cX8_doClaim 48 = .ok (.iconst 1, 1) := by decide +kernel
theorem dX8_doClaim_49 : decode cX8_doClaim 49 = .ok (.goto 4, 3) := by decide +kernel
theorem dX8_doClaim_52 : decode cX8_doClaim 52 = .ok (.iconst 0, 1) := by decide +kernel
theorem dX8_doClaim_53 : decode cX8_doClaim 53 = .ok (.istore_n 3, 1) := by decide +kernel
theorem dX8_doClaim_54 : decode cX8_doClaim 54 = .ok (.iconst 0, 1) := by decide +kernel
theorem dX8_doClaim_55 : decode cX8_doClaim 55 = .ok (.istore 4, 2) := by decide +kernel
theorem dX8_doClaim_57 : decode cX8_doClaim 57 = .ok (.iload 4, 2) := by decide +kernel
theorem dX8_doClaim_59 : decode cX8_doClaim 59 = .ok (.iconst 4, 1) := by decide +kernel
theorem dX8_doClaim_60 : decode cX8_doClaim 60 = .ok (.if_icmp .ge 40, 3) := by decide +kernel
theorem dX8_doClaim_63 : decode cX8_doClaim 63 = .ok (.iload_n 3, 1) := by decide +kernel
theorem dX8_doClaim_64 : decode cX8_doClaim 64 = .ok (.ifCond .eq 28, 3) := by decide +kernel
theorem dX8_doClaim_67 : decode cX8_doClaim 67 = .ok (.aload_n 0, 1) := by decide +kernel
theorem dX8_doClaim_68 : decode cX8_doClaim 68 = .ok (.iload_n 2, 1) := by decide +kernel
theorem dX8_doClaim_69 : decode cX8_doClaim 69 = .ok (.iload 4, 2) := by decide +kernel
theorem dX8_doClaim_71 : decode cX8_doClaim 71 = .ok (.invokevirtual 113, 3) := by decide +kernel
theorem dX8_doClaim_74 : decode cX8_doClaim 74 = .ok (.ifCond .eq 14, 3) := by decide +kernel
theorem dX8_doClaim_77 : decode cX8_doClaim 77 = .ok (.aload_n 0, 1) := by decide +kernel
theorem dX8_doClaim_78 : decode cX8_doClaim 78 = .ok (.getfield 46, 3) := by decide +kernel
theorem dX8_doClaim_81 : decode cX8_doClaim 81 = .ok (.iload 4, 2) := by decide +kernel
theorem dX8_doClaim_83 : decode cX8_doClaim 83 = .ok (.iaload, 1) := by decide +kernel
theorem dX8_doClaim_84 : decode cX8_doClaim 84 = .ok (.iconst 2, 1) := by decide +kernel
theorem dX8_doClaim_85 : decode cX8_doClaim 85 = .ok (.if_icmp .ne 7, 3) := by decide +kernel
theorem dX8_doClaim_88 : decode cX8_doClaim 88 = .ok (.iconst 1, 1) := by decide +kernel
theorem dX8_doClaim_89 : decode cX8_doClaim 89 = .ok (.goto 4, 3) := by decide +kernel
theorem dX8_doClaim_92 : decode cX8_doClaim 92 = .ok (.iconst 0, 1) := by decide +kernel
theorem dX8_doClaim_93 : decode cX8_doClaim 93 = .ok (.istore_n 3, 1) := by decide +kernel
theorem dX8_doClaim_94 : decode cX8_doClaim 94 = .ok (.iinc 4 1, 3) := by decide +kernel
theorem dX8_doClaim_97 : decode cX8_doClaim 97 = .ok (.goto (-40), 3) := by decide +kernel
theorem dX8_doClaim_100 : decode cX8_doClaim 100 = .ok (.iload_n 3, 1) := by decide +kernel
theorem dX8_doClaim_101 : decode cX8_doClaim 101 = .ok (.ifCond .eq 51, 3) := by decide +kernel
theorem dX8_doClaim_104 : decode cX8_doClaim 104 = .ok (.aload_n 0, 1) := by decide +kernel
theorem dX8_doClaim_105 : decode cX8_doClaim 105 = .ok (.getfield 46, 3) := by decide +kernel
theorem dX8_doClaim_108 : decode cX8_doClaim 108 = .ok (.iload_n 2, 1) := by decide +kernel
theorem dX8_doClaim_109 : decode cX8_doClaim 109 = .ok (.bipush 10, 2) := by decide +kernel
theorem dX8_doClaim_111 : decode cX8_doClaim 111 = .ok (.iload_n 1, 1) := by decide +kernel
theorem dX8_doClaim_112 : decode cX8_doClaim 112 = .ok (.iadd, 1) := by decide +kernel
theorem dX8_doClaim_113 : decode cX8_doClaim 113 = .ok (.iastore, 1) := by decide +kernel
theorem dX8_doClaim_114 : decode cX8_doClaim 114 = .ok (.aload_n 0, 1) := by decide +kernel
theorem dX8_doClaim_115 : decode cX8_doClaim 115 = .ok (.getfield 49, 3) := by decide +kernel
theorem dX8_doClaim_118 : decode cX8_doClaim 118 = .ok (.iload_n 2, 1) := by decide +kernel
theorem dX8_doClaim_119 : decode cX8_doClaim 119 = .ok (.aload_n 0, 1) := by decide +kernel
theorem dX8_doClaim_120 : decode cX8_doClaim 120 = .ok (.getfield 49, 3) := by decide +kernel
theorem dX8_doClaim_123 : decode cX8_doClaim 123 = .ok (.iload_n 2, 1) := by decide +kernel
theorem dX8_doClaim_124 : decode cX8_doClaim 124 = .ok (.iaload, 1) := by decide +kernel
theorem dX8_doClaim_125 : decode cX8_doClaim 125 = .ok (.iconst 1, 1) := by decide +kernel
theorem dX8_doClaim_126 : decode cX8_doClaim 126 = .ok (.iadd, 1) := by decide +kernel
theorem dX8_doClaim_127 : decode cX8_doClaim 127 = .ok (.iastore, 1) := by decide +kernel
theorem dX8_doClaim_128 : decode cX8_doClaim 128 = .ok (.aload_n 0, 1) := by decide +kernel
theorem dX8_doClaim_129 : decode cX8_doClaim 129 = .ok (.getfield 52, 3) := by decide +kernel
theorem dX8_doClaim_132 : decode cX8_doClaim 132 = .ok (.iload_n 1, 1) := by decide +kernel
theorem dX8_doClaim_133 : decode cX8_doClaim 133 = .ok (.iload_n 2, 1) := by decide +kernel
theorem dX8_doClaim_134 : decode cX8_doClaim 134 = .ok (.iastore, 1) := by decide +kernel
theorem dX8_doClaim_135 : decode cX8_doClaim 135 = .ok (.aload_n 0, 1) := by decide +kernel
theorem dX8_doClaim_136 : decode cX8_doClaim 136 = .ok (.getfield 55, 3) := by decide +kernel
theorem dX8_doClaim_139 : decode cX8_doClaim 139 = .ok (.iload_n 1, 1) := by decide +kernel
theorem dX8_doClaim_140 : decode cX8_doClaim 140 = .ok (.aload_n 0, 1) := by decide +kernel
theorem dX8_doClaim_141 : decode cX8_doClaim 141 = .ok (.getfield 88, 3) := by decide +kernel
theorem dX8_doClaim_144 : decode cX8_doClaim 144 = .ok (.aload_n 0, 1) := by decide +kernel
theorem dX8_doClaim_145 : decode cX8_doClaim 145 = .ok (.getfield 79, 3) := by decide +kernel
theorem dX8_doClaim_148 : decode cX8_doClaim 148 = .ok (.iadd, 1) := by decide +kernel
theorem dX8_doClaim_149 : decode cX8_doClaim 149 = .ok (.iastore, 1) := by decide +kernel
theorem dX8_doClaim_150 : decode cX8_doClaim 150 = .ok (.iload_n 2, 1) := by decide +kernel
theorem dX8_doClaim_151 : decode cX8_doClaim 151 = .ok (.ireturn, 1) := by decide +kernel
theorem dX8_doClaim_152 : decode cX8_doClaim 152 = .ok (.iinc 2 1, 3) := by decide +kernel
theorem dX8_doClaim_155 : decode cX8_doClaim 155 = .ok (.goto (-122), 3) := by decide +kernel
theorem dX8_doClaim_158 : decode cX8_doClaim 158 = .ok (.iconst (-1), 1) := by decide +kernel
theorem dX8_doClaim_159 : decode cX8_doClaim 159 = .ok (.ireturn, 1) := by decide +kernel
theorem dX8_doReport_0 : decode cX8_doReport 0 = .ok (.aload_n 0, 1) := by decide +kernel
theorem dX8_doReport_1 : decode cX8_doReport 1 = .ok (.iload_n 1, 1) := by decide +kernel
theorem dX8_doReport_2 : decode cX8_doReport 2 = .ok (.invokevirtual 179, 3) := by decide +kernel
theorem dX8_doReport_5 : decode cX8_doReport 5 = .ok (.ifCond .eq 13, 3) := by decide +kernel
theorem dX8_doReport_8 : decode cX8_doReport 8 = .ok (.aload_n 0, 1) := by decide +kernel
theorem dX8_doReport_9 : decode cX8_doReport 9 = .ok (.getfield 52, 3) := by decide +kernel
theorem dX8_doReport_12 : decode cX8_doReport 12 = .ok (.iload_n 1, 1) := by decide +kernel
theorem dX8_doReport_13 : decode cX8_doReport 13 = .ok (.iaload, 1) := by decide +kernel
theorem dX8_doReport_14 : decode cX8_doReport 14 = .ok (.iconst (-1), 1) := by decide +kernel
theorem dX8_doReport_15 : decode cX8_doReport 15 = .ok (.if_icmp .ne 5, 3) := by decide +kernel
theorem dX8_doReport_18 : decode cX8_doReport 18 = .ok (.iconst (-1), 1) := by decide +kernel
theorem dX8_doReport_19 : decode cX8_doReport 19 = .ok (.ireturn, 1) := by decide +kernel
theorem dX8_doReport_20 : decode cX8_doReport 20 = .ok (.aload_n 0, 1) := by decide +kernel
theorem dX8_doReport_21 : decode cX8_doReport 21 = .ok (.getfield 52, 3) := by decide +kernel
theorem dX8_doReport_24 : decode cX8_doReport 24 = .ok (.iload_n 1, 1) := by decide +kernel
theorem dX8_doReport_25 : decode cX8_doReport 25 = .ok (.iaload, 1) := by decide +kernel
theorem dX8_doReport_26 : decode cX8_doReport 26 = .ok (.istore_n 3, 1) := by decide +kernel
theorem dX8_doReport_27 : decode cX8_doReport 27 = .ok (.aload_n 0, 1) := by decide +kernel
theorem dX8_doReport_28 : decode cX8_doReport 28 = .ok (.getfield 52, 3) := by decide +kernel
theorem dX8_doReport_31 : decode cX8_doReport 31 = .ok (.iload_n 1, 1) := by decide +kernel
theorem dX8_doReport_32 : decode cX8_doReport 32 = .ok (.iconst (-1), 1) := by decide +kernel
theorem dX8_doReport_33 : decode cX8_doReport 33 = .ok (.iastore, 1) := by decide +kernel
theorem dX8_doReport_34 : decode cX8_doReport 34 = .ok (.aload_n 0, 1) := by decide +kernel
theorem dX8_doReport_35 : decode cX8_doReport 35 = .ok (.iload_n 3, 1) := by decide +kernel
theorem dX8_doReport_36 : decode cX8_doReport 36 = .ok (.iload_n 2, 1) := by decide +kernel
theorem dX8_doReport_37 : decode cX8_doReport 37 = .ok (.invokevirtual 162, 3) := by decide +kernel
theorem dX8_doReport_40 : decode cX8_doReport 40 = .ok (.iconst 1, 1) := by decide +kernel
theorem dX8_doReport_41 : decode cX8_doReport 41 = .ok (.ireturn, 1) := by decide +kernel
theorem dX8_doTick_0 : decode cX8_doTick 0 = .ok (.iload_n 1, 1) := by decide +kernel
theorem dX8_doTick_1 : decode cX8_doTick 1 = .ok (.iconst 1, 1) := by decide +kernel
theorem dX8_doTick_2 : decode cX8_doTick 2 = .ok (.if_icmp .lt 9, 3) := by decide +kernel
theorem dX8_doTick_5 : decode cX8_doTick 5 = .ok (.iload_n 1, 1) := by decide +kernel
theorem dX8_doTick_6 : decode cX8_doTick 6 = .ok (.bipush 20, 2) := by decide +kernel
theorem dX8_doTick_8 : decode cX8_doTick 8 = .ok (.if_icmp .le 5, 3) := by decide +kernel
theorem dX8_doTick_11 : decode cX8_doTick 11 = .ok (.iconst (-1), 1) := by decide +kernel
theorem dX8_doTick_12 : decode cX8_doTick 12 = .ok (.ireturn, 1) := by decide +kernel
theorem dX8_doTick_13 : decode cX8_doTick 13 = .ok (.iconst 0, 1) := by decide +kernel
theorem dX8_doTick_14 : decode cX8_doTick 14 = .ok (.istore_n 2, 1) := by decide +kernel
theorem dX8_doTick_15 : decode cX8_doTick 15 = .ok (.iconst 0, 1) := by decide +kernel
theorem dX8_doTick_16 : decode cX8_doTick 16 = .ok (.istore_n 3, 1) := by decide +kernel
theorem dX8_doTick_17 : decode cX8_doTick 17 = .ok (.iload_n 3, 1) := by decide +kernel
theorem dX8_doTick_18 : decode cX8_doTick 18 = .ok (.iload_n 1, 1) := by decide +kernel
theorem dX8_doTick_19 : decode cX8_doTick 19 = .ok (.if_icmp .ge 73, 3) := by decide +kernel
theorem dX8_doTick_22 : decode cX8_doTick 22 = .ok (.aload_n 0, 1) := by decide +kernel
theorem dX8_doTick_23 : decode cX8_doTick 23 = .ok (.aload_n 0, 1) := by decide +kernel
theorem dX8_doTick_24 : decode cX8_doTick 24 = .ok (.getfield 88, 3) := by decide +kernel
theorem dX8_doTick_27 : decode cX8_doTick 27 = .ok (.iconst 1, 1) := by decide +kernel
theorem dX8_doTick_28 : decode cX8_doTick 28 = .ok (.iadd, 1) := by decide +kernel
theorem dX8_doTick_29 : decode cX8_doTick 29 = .ok (.putfield 88, 3) := by decide +kernel
theorem dX8_doTick_32 : decode cX8_doTick 32 = .ok (.iconst 0, 1) := by decide +kernel
theorem dX8_doTick_33 : decode cX8_doTick 33 = .ok (.istore 4, 2) := by decide +kernel
theorem dX8_doTick_35 : decode cX8_doTick 35 = .ok (.iload 4, 2) := by decide +kernel
theorem dX8_doTick_37 : decode cX8_doTick 37 = .ok (.iconst 4, 1) := by decide +kernel
theorem dX8_doTick_38 : decode cX8_doTick 38 = .ok (.if_icmp .ge 44, 3) := by decide +kernel
theorem dX8_doTick_41 : decode cX8_doTick 41 = .ok (.aload_n 0, 1) := by decide +kernel
theorem dX8_doTick_42 : decode cX8_doTick 42 = .ok (.getfield 52, 3) := by decide +kernel
theorem dX8_doTick_45 : decode cX8_doTick 45 = .ok (.iload 4, 2) := by decide +kernel
theorem dX8_doTick_47 : decode cX8_doTick 47 = .ok (.iaload, 1) := by decide +kernel
theorem dX8_doTick_48 : decode cX8_doTick 48 = .ok (.iconst (-1), 1) := by decide +kernel
theorem dX8_doTick_49 : decode cX8_doTick 49 = .ok (.if_icmp .eq 27, 3) := by decide +kernel
theorem dX8_doTick_52 : decode cX8_doTick 52 = .ok (.aload_n 0, 1) := by decide +kernel
theorem dX8_doTick_53 : decode cX8_doTick 53 = .ok (.getfield 55, 3) := by decide +kernel
theorem dX8_doTick_56 : decode cX8_doTick 56 = .ok (.iload 4, 2) := by decide +kernel
theorem dX8_doTick_58 : decode cX8_doTick 58 = .ok (.iaload, 1) := by decide +kernel
theorem dX8_doTick_59 : decode cX8_doTick 59 = .ok (.aload_n 0, 1) := by decide +kernel
theorem dX8_doTick_60 : decode cX8_doTick 60 = .ok (.getfield 88, 3) := by decide +kernel
theorem dX8_doTick_63 : decode cX8_doTick 63 = .ok (.if_icmp .gt 13, 3) := by decide +kernel
theorem dX8_doTick_66 : decode cX8_doTick 66 = .ok (.aload_n 0, 1) := by decide +kernel
theorem dX8_doTick_67 : decode cX8_doTick 67 = .ok (.iload 4, 2) := by decide +kernel
theorem dX8_doTick_69 : decode cX8_doTick 69 = .ok (.invokevirtual 182, 3) := by decide +kernel
theorem dX8_doTick_72 : decode cX8_doTick 72 = .ok (.iload_n 2, 1) := by decide +kernel
theorem dX8_doTick_73 : decode cX8_doTick 73 = .ok (.iconst 1, 1) := by decide +kernel
theorem dX8_doTick_74 : decode cX8_doTick 74 = .ok (.iadd, 1) := by decide +kernel
theorem dX8_doTick_75 : decode cX8_doTick 75 = .ok (.istore_n 2, 1) := by decide +kernel
theorem dX8_doTick_76 : decode cX8_doTick 76 = .ok (.iinc 4 1, 3) := by decide +kernel
theorem dX8_doTick_79 : decode cX8_doTick 79 = .ok (.goto (-44), 3) := by decide +kernel
theorem dX8_doTick_82 : decode cX8_doTick 82 = .ok (.aload_n 0, 1) := by decide +kernel
theorem dX8_doTick_83 : decode cX8_doTick 83 = .ok (.invokevirtual 185, 3) := by decide +kernel
theorem dX8_doTick_86 : decode cX8_doTick 86 = .ok (.iinc 3 1, 3) := by decide +kernel
theorem dX8_doTick_89 : decode cX8_doTick 89 = .ok (.goto (-72), 3) := by decide +kernel
theorem dX8_doTick_92 : decode cX8_doTick 92 = .ok (.iload_n 2, 1) := by decide +kernel
theorem dX8_doTick_93 : decode cX8_doTick 93 = .ok (.ireturn, 1) := by decide +kernel
theorem dX8_expireAll_0 : decode cX8_expireAll 0 = .ok (.iconst 0, 1) := by decide +kernel
theorem dX8_expireAll_1 : decode cX8_expireAll 1 = .ok (.istore_n 1, 1) := by decide +kernel
theorem dX8_expireAll_2 : decode cX8_expireAll 2 = .ok (.iload_n 1, 1) := by decide +kernel
theorem dX8_expireAll_3 : decode cX8_expireAll 3 = .ok (.iconst 4, 1) := by decide +kernel
theorem dX8_expireAll_4 : decode cX8_expireAll 4 = .ok (.if_icmp .ge 24, 3) := by decide +kernel
theorem dX8_expireAll_7 : decode cX8_expireAll 7 = .ok (.aload_n 0, 1) := by decide +kernel
theorem dX8_expireAll_8 : decode cX8_expireAll 8 = .ok (.getfield 52, 3) := by decide +kernel
theorem dX8_expireAll_11 : decode cX8_expireAll 11 = .ok (.iload_n 1, 1) := by decide +kernel
theorem dX8_expireAll_12 : decode cX8_expireAll 12 = .ok (.iaload, 1) := by decide +kernel
theorem dX8_expireAll_13 : decode cX8_expireAll 13 = .ok (.iconst (-1), 1) := by decide +kernel
theorem dX8_expireAll_14 : decode cX8_expireAll 14 = .ok (.if_icmp .eq 8, 3) := by decide +kernel
theorem dX8_expireAll_17 : decode cX8_expireAll 17 = .ok (.aload_n 0, 1) := by decide +kernel
theorem dX8_expireAll_18 : decode cX8_expireAll 18 = .ok (.iload_n 1, 1) := by decide +kernel
theorem dX8_expireAll_19 : decode cX8_expireAll 19 = .ok (.invokevirtual 182, 3) := by decide +kernel
theorem dX8_expireAll_22 : decode cX8_expireAll 22 = .ok (.iinc 1 1, 3) := by decide +kernel
theorem dX8_expireAll_25 : decode cX8_expireAll 25 = .ok (.goto (-23), 3) := by decide +kernel
theorem dX8_expireAll_28 : decode cX8_expireAll 28 = .ok (.return_, 1) := by decide +kernel
theorem dX8_once_0 : decode cX8_once 0 = .ok (.iload_n 1, 1) := by decide +kernel
theorem dX8_once_1 : decode cX8_once 1 = .ok (.tableswitch 131 0 9 #[55, 60, 69, 77, 85, 91, 97, 103, 109, 125], 55) := by decide +kernel
theorem dX8_once_56 : decode cX8_once 56 = .ok (.aload_n 0, 1) := by decide +kernel
theorem dX8_once_57 : decode cX8_once 57 = .ok (.invokevirtual 188, 3) := by decide +kernel
theorem dX8_once_60 : decode cX8_once 60 = .ok (.ireturn, 1) := by decide +kernel
theorem dX8_once_61 : decode cX8_once 61 = .ok (.aload_n 0, 1) := by decide +kernel
theorem dX8_once_62 : decode cX8_once 62 = .ok (.iload_n 2, 1) := by decide +kernel
theorem dX8_once_63 : decode cX8_once 63 = .ok (.iload_n 3, 1) := by decide +kernel
theorem dX8_once_64 : decode cX8_once 64 = .ok (.iload 4, 2) := by decide +kernel
theorem dX8_once_66 : decode cX8_once 66 = .ok (.invokevirtual 192, 3) := by decide +kernel
theorem dX8_once_69 : decode cX8_once 69 = .ok (.ireturn, 1) := by decide +kernel
theorem dX8_once_70 : decode cX8_once 70 = .ok (.aload_n 0, 1) := by decide +kernel
theorem dX8_once_71 : decode cX8_once 71 = .ok (.iload_n 2, 1) := by decide +kernel
theorem dX8_once_72 : decode cX8_once 72 = .ok (.iload_n 3, 1) := by decide +kernel
theorem dX8_once_73 : decode cX8_once 73 = .ok (.iconst 1, 1) := by decide +kernel
theorem dX8_once_74 : decode cX8_once 74 = .ok (.invokevirtual 195, 3) := by decide +kernel
theorem dX8_once_77 : decode cX8_once 77 = .ok (.ireturn, 1) := by decide +kernel
theorem dX8_once_78 : decode cX8_once 78 = .ok (.aload_n 0, 1) := by decide +kernel
theorem dX8_once_79 : decode cX8_once 79 = .ok (.iload_n 2, 1) := by decide +kernel
theorem dX8_once_80 : decode cX8_once 80 = .ok (.iload_n 3, 1) := by decide +kernel
theorem dX8_once_81 : decode cX8_once 81 = .ok (.iconst 2, 1) := by decide +kernel
theorem dX8_once_82 : decode cX8_once 82 = .ok (.invokevirtual 195, 3) := by decide +kernel
theorem dX8_once_85 : decode cX8_once 85 = .ok (.ireturn, 1) := by decide +kernel
theorem dX8_once_86 : decode cX8_once 86 = .ok (.aload_n 0, 1) := by decide +kernel
theorem dX8_once_87 : decode cX8_once 87 = .ok (.iload_n 2, 1) := by decide +kernel
theorem dX8_once_88 : decode cX8_once 88 = .ok (.invokevirtual 198, 3) := by decide +kernel
theorem dX8_once_91 : decode cX8_once 91 = .ok (.ireturn, 1) := by decide +kernel
theorem dX8_once_92 : decode cX8_once 92 = .ok (.aload_n 0, 1) := by decide +kernel
theorem dX8_once_93 : decode cX8_once 93 = .ok (.iload_n 2, 1) := by decide +kernel
theorem dX8_once_94 : decode cX8_once 94 = .ok (.invokevirtual 202, 3) := by decide +kernel
theorem dX8_once_97 : decode cX8_once 97 = .ok (.ireturn, 1) := by decide +kernel
theorem dX8_once_98 : decode cX8_once 98 = .ok (.aload_n 0, 1) := by decide +kernel
theorem dX8_once_99 : decode cX8_once 99 = .ok (.iload_n 2, 1) := by decide +kernel
theorem dX8_once_100 : decode cX8_once 100 = .ok (.invokevirtual 205, 3) := by decide +kernel
theorem dX8_once_103 : decode cX8_once 103 = .ok (.ireturn, 1) := by decide +kernel
theorem dX8_once_104 : decode cX8_once 104 = .ok (.aload_n 0, 1) := by decide +kernel
theorem dX8_once_105 : decode cX8_once 105 = .ok (.iload_n 2, 1) := by decide +kernel
theorem dX8_once_106 : decode cX8_once 106 = .ok (.invokevirtual 208, 3) := by decide +kernel
theorem dX8_once_109 : decode cX8_once 109 = .ok (.ireturn, 1) := by decide +kernel
theorem dX8_once_110 : decode cX8_once 110 = .ok (.aload_n 0, 1) := by decide +kernel
theorem dX8_once_111 : decode cX8_once 111 = .ok (.iload_n 2, 1) := by decide +kernel
theorem dX8_once_112 : decode cX8_once 112 = .ok (.iload_n 3, 1) := by decide +kernel
theorem dX8_once_113 : decode cX8_once 113 = .ok (.iconst 1, 1) := by decide +kernel
theorem dX8_once_114 : decode cX8_once 114 = .ok (.if_icmp .ne 7, 3) := by decide +kernel
theorem dX8_once_117 : decode cX8_once 117 = .ok (.iconst 1, 1) := by decide +kernel
theorem dX8_once_118 : decode cX8_once 118 = .ok (.goto 4, 3) := by decide +kernel
theorem dX8_once_121 : decode cX8_once 121 = .ok (.iconst 0, 1) := by decide +kernel
theorem dX8_once_122 : decode cX8_once 122 = .ok (.invokevirtual 211, 3) := by decide +kernel
theorem dX8_once_125 : decode cX8_once 125 = .ok (.ireturn, 1) := by decide +kernel
theorem dX8_once_126 : decode cX8_once 126 = .ok (.aload_n 0, 1) := by decide +kernel
theorem dX8_once_127 : decode cX8_once 127 = .ok (.iload_n 2, 1) := by decide +kernel
theorem dX8_once_128 : decode cX8_once 128 = .ok (.invokevirtual 215, 3) := by decide +kernel
theorem dX8_once_131 : decode cX8_once 131 = .ok (.ireturn, 1) := by decide +kernel
theorem dX8_once_132 : decode cX8_once 132 = .ok (.aload_n 0, 1) := by decide +kernel
theorem dX8_once_133 : decode cX8_once 133 = .ok (.invokevirtual 218, 3) := by decide +kernel
theorem dX8_once_136 : decode cX8_once 136 = .ok (.iconst 0, 1) := by decide +kernel
theorem dX8_once_137 : decode cX8_once 137 = .ok (.ireturn, 1) := by decide +kernel
theorem dX8_note_0 : decode cX8_note 0 = .ok (.aload_n 0, 1) := by decide +kernel
theorem dX8_note_1 : decode cX8_note 1 = .ok (.getfield 7, 3) := by decide +kernel
theorem dX8_note_4 : decode cX8_note 4 = .ok (.aload_n 0, 1) := by decide +kernel
theorem dX8_note_5 : decode cX8_note 5 = .ok (.getfield 221, 3) := by decide +kernel
theorem dX8_note_8 : decode cX8_note 8 = .ok (.iload_n 1, 1) := by decide +kernel
theorem dX8_note_9 : decode cX8_note 9 = .ok (.iastore, 1) := by decide +kernel
theorem dX8_note_10 : decode cX8_note 10 = .ok (.aload_n 0, 1) := by decide +kernel
theorem dX8_note_11 : decode cX8_note 11 = .ok (.getfield 13, 3) := by decide +kernel
theorem dX8_note_14 : decode cX8_note 14 = .ok (.aload_n 0, 1) := by decide +kernel
theorem dX8_note_15 : decode cX8_note 15 = .ok (.getfield 221, 3) := by decide +kernel
theorem dX8_note_18 : decode cX8_note 18 = .ok (.iload_n 2, 1) := by decide +kernel
theorem dX8_note_19 : decode cX8_note 19 = .ok (.iastore, 1) := by decide +kernel
theorem dX8_note_20 : decode cX8_note 20 = .ok (.aload_n 0, 1) := by decide +kernel
theorem dX8_note_21 : decode cX8_note 21 = .ok (.getfield 16, 3) := by decide +kernel
theorem dX8_note_24 : decode cX8_note 24 = .ok (.aload_n 0, 1) := by decide +kernel
theorem dX8_note_25 : decode cX8_note 25 = .ok (.getfield 221, 3) := by decide +kernel
theorem dX8_note_28 : decode cX8_note 28 = .ok (.iload_n 3, 1) := by decide +kernel
theorem dX8_note_29 : decode cX8_note 29 = .ok (.iastore, 1) := by decide +kernel
theorem dX8_note_30 : decode cX8_note 30 = .ok (.aload_n 0, 1) := by decide +kernel
theorem dX8_note_31 : decode cX8_note 31 = .ok (.getfield 19, 3) := by decide +kernel
theorem dX8_note_34 : decode cX8_note 34 = .ok (.aload_n 0, 1) := by decide +kernel
theorem dX8_note_35 : decode cX8_note 35 = .ok (.getfield 221, 3) := by decide +kernel
theorem dX8_note_38 : decode cX8_note 38 = .ok (.iload 4, 2) := by decide +kernel
theorem dX8_note_40 : decode cX8_note 40 = .ok (.iastore, 1) := by decide +kernel
theorem dX8_note_41 : decode cX8_note 41 = .ok (.aload_n 0, 1) := by decide +kernel
theorem dX8_note_42 : decode cX8_note 42 = .ok (.aload_n 0, 1) := by decide +kernel
theorem dX8_note_43 : decode cX8_note 43 = .ok (.getfield 221, 3) := by decide +kernel
theorem dX8_note_46 : decode cX8_note 46 = .ok (.iconst 1, 1) := by decide +kernel
theorem dX8_note_47 : decode cX8_note 47 = .ok (.iadd, 1) := by decide +kernel
theorem dX8_note_48 : decode cX8_note 48 = .ok (.putfield 221, 3) := by decide +kernel
theorem dX8_note_51 : decode cX8_note 51 = .ok (.return_, 1) := by decide +kernel
theorem dX8_event_0 : decode cX8_event 0 = .ok (.aload_n 0, 1) := by decide +kernel
theorem dX8_event_1 : decode cX8_event 1 = .ok (.iload_n 1, 1) := by decide +kernel
theorem dX8_event_2 : decode cX8_event 2 = .ok (.iload_n 2, 1) := by decide +kernel
theorem dX8_event_3 : decode cX8_event 3 = .ok (.iload_n 3, 1) := by decide +kernel
theorem dX8_event_4 : decode cX8_event 4 = .ok (.iload 4, 2) := by decide +kernel
theorem dX8_event_6 : decode cX8_event 6 = .ok (.invokevirtual 224, 3) := by decide +kernel
theorem dX8_event_9 : decode cX8_event 9 = .ok (.istore 5, 2) := by decide +kernel
theorem dX8_event_11 : decode cX8_event 11 = .ok (.iload 5, 2) := by decide +kernel
theorem dX8_event_13 : decode cX8_event 13 = .ok (.ifCond .lt 45, 3) := by decide +kernel
theorem dX8_event_16 : decode cX8_event 16 = .ok (.aload_n 0, 1) := by decide +kernel
theorem dX8_event_17 : decode cX8_event 17 = .ok (.invokevirtual 185, 3) := by decide +kernel
theorem dX8_event_20 : decode cX8_event 20 = .ok (.aload_n 0, 1) := by decide +kernel
theorem dX8_event_21 : decode cX8_event 21 = .ok (.aload_n 0, 1) := by decide +kernel
theorem dX8_event_22 : decode cX8_event 22 = .ok (.getfield 221, 3) := by decide +kernel
theorem dX8_event_25 : decode cX8_event 25 = .ok (.aload_n 0, 1) := by decide +kernel
theorem dX8_event_26 : decode cX8_event 26 = .ok (.getfield 228, 3) := by decide +kernel
theorem dX8_event_29 : decode cX8_event 29 = .ok (.isub, 1) := by decide +kernel
theorem dX8_event_30 : decode cX8_event 30 = .ok (.bipush 16, 2) := by decide +kernel
theorem dX8_event_32 : decode cX8_event 32 = .ok (.if_icmp .lt 10, 3) := by decide +kernel
theorem dX8_event_35 : decode cX8_event 35 = .ok (.aload_n 0, 1) := by decide +kernel
theorem dX8_event_36 : decode cX8_event 36 = .ok (.getfield 221, 3) := by decide +kernel
theorem dX8_event_39 : decode cX8_event 39 = .ok (.goto 7, 3) := by decide +kernel
theorem dX8_event_42 : decode cX8_event 42 = .ok (.aload_n 0, 1) := by decide +kernel
theorem dX8_event_43 : decode cX8_event 43 = .ok (.getfield 228, 3) := by decide +kernel
theorem dX8_event_46 : decode cX8_event 46 = .ok (.putfield 228, 3) := by decide +kernel
theorem dX8_event_49 : decode cX8_event 49 = .ok (.aload_n 0, 1) := by decide +kernel
theorem dX8_event_50 : decode cX8_event 50 = .ok (.iload_n 1, 1) := by decide +kernel
theorem dX8_event_51 : decode cX8_event 51 = .ok (.iload_n 2, 1) := by decide +kernel
theorem dX8_event_52 : decode cX8_event 52 = .ok (.iload_n 3, 1) := by decide +kernel
theorem dX8_event_53 : decode cX8_event 53 = .ok (.iload 4, 2) := by decide +kernel
theorem dX8_event_55 : decode cX8_event 55 = .ok (.invokevirtual 231, 3) := by decide +kernel
theorem dX8_event_58 : decode cX8_event 58 = .ok (.iload 5, 2) := by decide +kernel
theorem dX8_event_60 : decode cX8_event 60 = .ok (.ireturn, 1) := by decide +kernel
theorem dX8_open_0 : decode cX8_open 0 = .ok (.aload_n 0, 1) := by decide +kernel
theorem dX8_open_1 : decode cX8_open 1 = .ok (.iconst 0, 1) := by decide +kernel
theorem dX8_open_2 : decode cX8_open 2 = .ok (.iconst 0, 1) := by decide +kernel
theorem dX8_open_3 : decode cX8_open 3 = .ok (.iconst 0, 1) := by decide +kernel
theorem dX8_open_4 : decode cX8_open 4 = .ok (.iconst 0, 1) := by decide +kernel
theorem dX8_open_5 : decode cX8_open 5 = .ok (.invokevirtual 235, 3) := by decide +kernel
theorem dX8_open_8 : decode cX8_open 8 = .ok (.ireturn, 1) := by decide +kernel
theorem dX8_push_0 : decode cX8_push 0 = .ok (.aload_n 0, 1) := by decide +kernel
theorem dX8_push_1 : decode cX8_push 1 = .ok (.iconst 1, 1) := by decide +kernel
theorem dX8_push_2 : decode cX8_push 2 = .ok (.iload_n 1, 1) := by decide +kernel
theorem dX8_push_3 : decode cX8_push 3 = .ok (.iload_n 2, 1) := by decide +kernel
theorem dX8_push_4 : decode cX8_push 4 = .ok (.iload_n 3, 1) := by decide +kernel
theorem dX8_push_5 : decode cX8_push 5 = .ok (.invokevirtual 235, 3) := by decide +kernel
theorem dX8_push_8 : decode cX8_push 8 = .ok (.ifCond .lt 7, 3) := by decide +kernel
theorem dX8_push_11 : decode cX8_push 11 = .ok (.iconst 1, 1) := by decide +kernel
theorem dX8_push_12 : decode cX8_push 12 = .ok (.goto 4, 3) := by decide +kernel
theorem dX8_push_15 : decode cX8_push 15 = .ok (.iconst 0, 1) := by decide +kernel
theorem dX8_push_16 : decode cX8_push 16 = .ok (.ireturn, 1) := by decide +kernel
theorem dX8_approve_0 : decode cX8_approve 0 = .ok (.aload_n 0, 1) := by decide +kernel
theorem dX8_approve_1 : decode cX8_approve 1 = .ok (.iconst 2, 1) := by decide +kernel
theorem dX8_approve_2 : decode cX8_approve 2 = .ok (.iload_n 1, 1) := by decide +kernel
theorem dX8_approve_3 : decode cX8_approve 3 = .ok (.iload_n 2, 1) := by decide +kernel
theorem dX8_approve_4 : decode cX8_approve 4 = .ok (.iconst 0, 1) := by decide +kernel
theorem dX8_approve_5 : decode cX8_approve 5 = .ok (.invokevirtual 235, 3) := by decide +kernel
theorem dX8_approve_8 : decode cX8_approve 8 = .ok (.ifCond .lt 7, 3) := by decide +kernel
theorem dX8_approve_11 : decode cX8_approve 11 = .ok (.iconst 1, 1) := by decide +kernel
theorem dX8_approve_12 : decode cX8_approve 12 = .ok (.goto 4, 3) := by decide +kernel
theorem dX8_approve_15 : decode cX8_approve 15 = .ok (.iconst 0, 1) := by decide +kernel
theorem dX8_approve_16 : decode cX8_approve 16 = .ok (.ireturn, 1) := by decide +kernel
theorem dX8_object_0 : decode cX8_object 0 = .ok (.aload_n 0, 1) := by decide +kernel
theorem dX8_object_1 : decode cX8_object 1 = .ok (.iconst 3, 1) := by decide +kernel
theorem dX8_object_2 : decode cX8_object 2 = .ok (.iload_n 1, 1) := by decide +kernel
theorem dX8_object_3 : decode cX8_object 3 = .ok (.iload_n 2, 1) := by decide +kernel
theorem dX8_object_4 : decode cX8_object 4 = .ok (.iconst 0, 1) := by decide +kernel
theorem dX8_object_5 : decode cX8_object 5 = .ok (.invokevirtual 235, 3) := by decide +kernel
theorem dX8_object_8 : decode cX8_object 8 = .ok (.ifCond .lt 7, 3) := by decide +kernel
theorem dX8_object_11 : decode cX8_object 11 = .ok (.iconst 1, 1) := by decide +kernel
theorem dX8_object_12 : decode cX8_object 12 = .ok (.goto 4, 3) := by decide +kernel
theorem dX8_object_15 : decode cX8_object 15 = .ok (.iconst 0, 1) := by decide +kernel
theorem dX8_object_16 : decode cX8_object 16 = .ok (.ireturn, 1) := by decide +kernel
theorem dX8_close_0 : decode cX8_close 0 = .ok (.aload_n 0, 1) := by decide +kernel
theorem dX8_close_1 : decode cX8_close 1 = .ok (.iconst 4, 1) := by decide +kernel
theorem dX8_close_2 : decode cX8_close 2 = .ok (.iload_n 1, 1) := by decide +kernel
theorem dX8_close_3 : decode cX8_close 3 = .ok (.iconst 0, 1) := by decide +kernel
theorem dX8_close_4 : decode cX8_close 4 = .ok (.iconst 0, 1) := by decide +kernel
theorem dX8_close_5 : decode cX8_close 5 = .ok (.invokevirtual 235, 3) := by decide +kernel
theorem dX8_close_8 : decode cX8_close 8 = .ok (.ifCond .lt 7, 3) := by decide +kernel
theorem dX8_close_11 : decode cX8_close 11 = .ok (.iconst 1, 1) := by decide +kernel
theorem dX8_close_12 : decode cX8_close 12 = .ok (.goto 4, 3) := by decide +kernel
theorem dX8_close_15 : decode cX8_close 15 = .ok (.iconst 0, 1) := by decide +kernel
theorem dX8_close_16 : decode cX8_close 16 = .ok (.ireturn, 1) := by decide +kernel
theorem dX8_enqueue_0 : decode cX8_enqueue 0 = .ok (.aload_n 0, 1) := by decide +kernel
theorem dX8_enqueue_1 : decode cX8_enqueue 1 = .ok (.iconst 5, 1) := by decide +kernel
theorem dX8_enqueue_2 : decode cX8_enqueue 2 = .ok (.iload_n 1, 1) := by decide +kernel
theorem dX8_enqueue_3 : decode cX8_enqueue 3 = .ok (.iconst 0, 1) := by decide +kernel
theorem dX8_enqueue_4 : decode cX8_enqueue 4 = .ok (.iconst 0, 1) := by decide +kernel
theorem dX8_enqueue_5 : decode cX8_enqueue 5 = .ok (.invokevirtual 235, 3) := by decide +kernel
theorem dX8_enqueue_8 : decode cX8_enqueue 8 = .ok (.ifCond .lt 7, 3) := by decide +kernel
theorem dX8_enqueue_11 : decode cX8_enqueue 11 = .ok (.iconst 1, 1) := by decide +kernel
theorem dX8_enqueue_12 : decode cX8_enqueue 12 = .ok (.goto 4, 3) := by decide +kernel
theorem dX8_enqueue_15 : decode cX8_enqueue 15 = .ok (.iconst 0, 1) := by decide +kernel
theorem dX8_enqueue_16 : decode cX8_enqueue 16 = .ok (.ireturn, 1) := by decide +kernel
theorem dX8_rebase_0 : decode cX8_rebase 0 = .ok (.aload_n 0, 1) := by decide +kernel
theorem dX8_rebase_1 : decode cX8_rebase 1 = .ok (.bipush 6, 2) := by decide +kernel
theorem dX8_rebase_3 : decode cX8_rebase 3 = .ok (.iload_n 1, 1) := by decide +kernel
theorem dX8_rebase_4 : decode cX8_rebase 4 = .ok (.iconst 0, 1) := by decide +kernel
theorem dX8_rebase_5 : decode cX8_rebase 5 = .ok (.iconst 0, 1) := by decide +kernel
theorem dX8_rebase_6 : decode cX8_rebase 6 = .ok (.invokevirtual 235, 3) := by decide +kernel
theorem dX8_rebase_9 : decode cX8_rebase 9 = .ok (.ifCond .lt 7, 3) := by decide +kernel
theorem dX8_rebase_12 : decode cX8_rebase 12 = .ok (.iconst 1, 1) := by decide +kernel
theorem dX8_rebase_13 : decode cX8_rebase 13 = .ok (.goto 4, 3) := by decide +kernel
theorem dX8_rebase_16 : decode cX8_rebase 16 = .ok (.iconst 0, 1) := by decide +kernel
theorem dX8_rebase_17 : decode cX8_rebase 17 = .ok (.ireturn, 1) := by decide +kernel
theorem dX8_claim_0 : decode cX8_claim 0 = .ok (.aload_n 0, 1) := by decide +kernel
theorem dX8_claim_1 : decode cX8_claim 1 = .ok (.bipush 7, 2) := by decide +kernel
theorem dX8_claim_3 : decode cX8_claim 3 = .ok (.iload_n 1, 1) := by decide +kernel
theorem dX8_claim_4 : decode cX8_claim 4 = .ok (.iconst 0, 1) := by decide +kernel
theorem dX8_claim_5 : decode cX8_claim 5 = .ok (.iconst 0, 1) := by decide +kernel
theorem dX8_claim_6 : decode cX8_claim 6 = .ok (.invokevirtual 235, 3) := by decide +kernel
theorem dX8_claim_9 : decode cX8_claim 9 = .ok (.ireturn, 1) := by decide +kernel
theorem dX8_report_0 : decode cX8_report 0 = .ok (.aload_n 0, 1) := by decide +kernel
theorem dX8_report_1 : decode cX8_report 1 = .ok (.bipush 8, 2) := by decide +kernel
theorem dX8_report_3 : decode cX8_report 3 = .ok (.iload_n 1, 1) := by decide +kernel
theorem dX8_report_4 : decode cX8_report 4 = .ok (.iload_n 2, 1) := by decide +kernel
theorem dX8_report_5 : decode cX8_report 5 = .ok (.ifCond .eq 7, 3) := by decide +kernel
theorem dX8_report_8 : decode cX8_report 8 = .ok (.iconst 1, 1) := by decide +kernel
theorem dX8_report_9 : decode cX8_report 9 = .ok (.goto 4, 3) := by decide +kernel
theorem dX8_report_12 : decode cX8_report 12 = .ok (.iconst 0, 1) := by decide +kernel
theorem dX8_report_13 : decode cX8_report 13 = .ok (.iconst 0, 1) := by decide +kernel
theorem dX8_report_14 : decode cX8_report 14 = .ok (.invokevirtual 235, 3) := by decide +kernel
theorem dX8_report_17 : decode cX8_report 17 = .ok (.ifCond .lt 7, 3) := by decide +kernel
theorem dX8_report_20 : decode cX8_report 20 = .ok (.iconst 1, 1) := by decide +kernel
theorem dX8_report_21 : decode cX8_report 21 = .ok (.goto 4, 3) := by decide +kernel
theorem dX8_report_24 : decode cX8_report 24 = .ok (.iconst 0, 1) := by decide +kernel
theorem dX8_report_25 : decode cX8_report 25 = .ok (.ireturn, 1) := by decide +kernel
theorem dX8_tick_0 : decode cX8_tick 0 = .ok (.aload_n 0, 1) := by decide +kernel
theorem dX8_tick_1 : decode cX8_tick 1 = .ok (.bipush 9, 2) := by decide +kernel
theorem dX8_tick_3 : decode cX8_tick 3 = .ok (.iload_n 1, 1) := by decide +kernel
theorem dX8_tick_4 : decode cX8_tick 4 = .ok (.iconst 0, 1) := by decide +kernel
theorem dX8_tick_5 : decode cX8_tick 5 = .ok (.iconst 0, 1) := by decide +kernel
theorem dX8_tick_6 : decode cX8_tick 6 = .ok (.invokevirtual 235, 3) := by decide +kernel
theorem dX8_tick_9 : decode cX8_tick 9 = .ok (.ireturn, 1) := by decide +kernel
theorem dX8_flush_0 : decode cX8_flush 0 = .ok (.aload_n 0, 1) := by decide +kernel
theorem dX8_flush_1 : decode cX8_flush 1 = .ok (.getfield 221, 3) := by decide +kernel
theorem dX8_flush_4 : decode cX8_flush 4 = .ok (.aload_n 0, 1) := by decide +kernel
theorem dX8_flush_5 : decode cX8_flush 5 = .ok (.getfield 228, 3) := by decide +kernel
theorem dX8_flush_8 : decode cX8_flush 8 = .ok (.isub, 1) := by decide +kernel
theorem dX8_flush_9 : decode cX8_flush 9 = .ok (.istore_n 1, 1) := by decide +kernel
theorem dX8_flush_10 : decode cX8_flush 10 = .ok (.aload_n 0, 1) := by decide +kernel
theorem dX8_flush_11 : decode cX8_flush 11 = .ok (.aload_n 0, 1) := by decide +kernel
theorem dX8_flush_12 : decode cX8_flush 12 = .ok (.getfield 221, 3) := by decide +kernel
theorem dX8_flush_15 : decode cX8_flush 15 = .ok (.putfield 228, 3) := by decide +kernel
theorem dX8_flush_18 : decode cX8_flush 18 = .ok (.iload_n 1, 1) := by decide +kernel
theorem dX8_flush_19 : decode cX8_flush 19 = .ok (.ireturn, 1) := by decide +kernel
theorem dX8_crash_0 : decode cX8_crash 0 = .ok (.aload_n 0, 1) := by decide +kernel
theorem dX8_crash_1 : decode cX8_crash 1 = .ok (.getfield 221, 3) := by decide +kernel
theorem dX8_crash_4 : decode cX8_crash 4 = .ok (.aload_n 0, 1) := by decide +kernel
theorem dX8_crash_5 : decode cX8_crash 5 = .ok (.getfield 228, 3) := by decide +kernel
theorem dX8_crash_8 : decode cX8_crash 8 = .ok (.isub, 1) := by decide +kernel
theorem dX8_crash_9 : decode cX8_crash 9 = .ok (.istore_n 2, 1) := by decide +kernel
theorem dX8_crash_10 : decode cX8_crash 10 = .ok (.iload_n 1, 1) := by decide +kernel
theorem dX8_crash_11 : decode cX8_crash 11 = .ok (.iconst 0, 1) := by decide +kernel
theorem dX8_crash_12 : decode cX8_crash 12 = .ok (.iload_n 2, 1) := by decide +kernel
theorem dX8_crash_13 : decode cX8_crash 13 = .ok (.invokestatic 65, 3) := by decide +kernel
theorem dX8_crash_16 : decode cX8_crash 16 = .ok (.istore_n 3, 1) := by decide +kernel
theorem dX8_crash_17 : decode cX8_crash 17 = .ok (.aload_n 0, 1) := by decide +kernel
theorem dX8_crash_18 : decode cX8_crash 18 = .ok (.aload_n 0, 1) := by decide +kernel
theorem dX8_crash_19 : decode cX8_crash 19 = .ok (.getfield 228, 3) := by decide +kernel
theorem dX8_crash_22 : decode cX8_crash 22 = .ok (.iload_n 3, 1) := by decide +kernel
theorem dX8_crash_23 : decode cX8_crash 23 = .ok (.iadd, 1) := by decide +kernel
theorem dX8_crash_24 : decode cX8_crash 24 = .ok (.putfield 221, 3) := by decide +kernel
theorem dX8_crash_27 : decode cX8_crash 27 = .ok (.aload_n 0, 1) := by decide +kernel
theorem dX8_crash_28 : decode cX8_crash 28 = .ok (.invokevirtual 82, 3) := by decide +kernel
theorem dX8_crash_31 : decode cX8_crash 31 = .ok (.iconst 0, 1) := by decide +kernel
theorem dX8_crash_32 : decode cX8_crash 32 = .ok (.istore 4, 2) := by decide +kernel
theorem dX8_crash_34 : decode cX8_crash 34 = .ok (.iload 4, 2) := by decide +kernel
theorem dX8_crash_36 : decode cX8_crash 36 = .ok (.aload_n 0, 1) := by decide +kernel
theorem dX8_crash_37 : decode cX8_crash 37 = .ok (.getfield 221, 3) := by decide +kernel
theorem dX8_crash_40 : decode cX8_crash 40 = .ok (.if_icmp .ge 47, 3) := by decide +kernel
theorem dX8_crash_43 : decode cX8_crash 43 = .ok (.aload_n 0, 1) := by decide +kernel
theorem dX8_crash_44 : decode cX8_crash 44 = .ok (.aload_n 0, 1) := by decide +kernel
theorem dX8_crash_45 : decode cX8_crash 45 = .ok (.getfield 7, 3) := by decide +kernel
theorem dX8_crash_48 : decode cX8_crash 48 = .ok (.iload 4, 2) := by decide +kernel
theorem dX8_crash_50 : decode cX8_crash 50 = .ok (.iaload, 1) := by decide +kernel
theorem dX8_crash_51 : decode cX8_crash 51 = .ok (.aload_n 0, 1) := by decide +kernel
theorem dX8_crash_52 : decode cX8_crash 52 = .ok (.getfield 13, 3) := by decide +kernel
theorem dX8_crash_55 : decode cX8_crash 55 = .ok (.iload 4, 2) := by decide +kernel
theorem dX8_crash_57 : decode cX8_crash 57 = .ok (.iaload, 1) := by decide +kernel
theorem dX8_crash_58 : decode cX8_crash 58 = .ok (.aload_n 0, 1) := by decide +kernel
theorem dX8_crash_59 : decode cX8_crash 59 = .ok (.getfield 16, 3) := by decide +kernel
theorem dX8_crash_62 : decode cX8_crash 62 = .ok (.iload 4, 2) := by decide +kernel
theorem dX8_crash_64 : decode cX8_crash 64 = .ok (.iaload, 1) := by decide +kernel
theorem dX8_crash_65 : decode cX8_crash 65 = .ok (.aload_n 0, 1) := by decide +kernel
theorem dX8_crash_66 : decode cX8_crash 66 = .ok (.getfield 19, 3) := by decide +kernel
theorem dX8_crash_69 : decode cX8_crash 69 = .ok (.iload 4, 2) := by decide +kernel
theorem dX8_crash_71 : decode cX8_crash 71 = .ok (.iaload, 1) := by decide +kernel
theorem dX8_crash_72 : decode cX8_crash 72 = .ok (.invokevirtual 224, 3) := by decide +kernel
theorem dX8_crash_75 : decode cX8_crash 75 = .ok (.istore 5, 2) := by decide +kernel
theorem dX8_crash_77 : decode cX8_crash 77 = .ok (.aload_n 0, 1) := by decide +kernel
theorem dX8_crash_78 : decode cX8_crash 78 = .ok (.invokevirtual 185, 3) := by decide +kernel
theorem dX8_crash_81 : decode cX8_crash 81 = .ok (.iinc 4 1, 3) := by decide +kernel
theorem dX8_crash_84 : decode cX8_crash 84 = .ok (.goto (-50), 3) := by decide +kernel
theorem dX8_crash_87 : decode cX8_crash 87 = .ok (.aload_n 0, 1) := by decide +kernel
theorem dX8_crash_88 : decode cX8_crash 88 = .ok (.invokevirtual 218, 3) := by decide +kernel
theorem dX8_crash_91 : decode cX8_crash 91 = .ok (.aload_n 0, 1) := by decide +kernel
theorem dX8_crash_92 : decode cX8_crash 92 = .ok (.invokevirtual 185, 3) := by decide +kernel
theorem dX8_crash_95 : decode cX8_crash 95 = .ok (.aload_n 0, 1) := by decide +kernel
theorem dX8_crash_96 : decode cX8_crash 96 = .ok (.bipush 10, 2) := by decide +kernel
theorem dX8_crash_98 : decode cX8_crash 98 = .ok (.iconst 0, 1) := by decide +kernel
theorem dX8_crash_99 : decode cX8_crash 99 = .ok (.iconst 0, 1) := by decide +kernel
theorem dX8_crash_100 : decode cX8_crash 100 = .ok (.iconst 0, 1) := by decide +kernel
theorem dX8_crash_101 : decode cX8_crash 101 = .ok (.invokevirtual 231, 3) := by decide +kernel
theorem dX8_crash_104 : decode cX8_crash 104 = .ok (.aload_n 0, 1) := by decide +kernel
theorem dX8_crash_105 : decode cX8_crash 105 = .ok (.aload_n 0, 1) := by decide +kernel
theorem dX8_crash_106 : decode cX8_crash 106 = .ok (.getfield 221, 3) := by decide +kernel
theorem dX8_crash_109 : decode cX8_crash 109 = .ok (.putfield 228, 3) := by decide +kernel
theorem dX8_crash_112 : decode cX8_crash 112 = .ok (.iload_n 2, 1) := by decide +kernel
theorem dX8_crash_113 : decode cX8_crash 113 = .ok (.iload_n 3, 1) := by decide +kernel
theorem dX8_crash_114 : decode cX8_crash 114 = .ok (.isub, 1) := by decide +kernel
theorem dX8_crash_115 : decode cX8_crash 115 = .ok (.ireturn, 1) := by decide +kernel
theorem dX8_state_0 : decode cX8_state 0 = .ok (.aload_n 0, 1) := by decide +kernel
theorem dX8_state_1 : decode cX8_state 1 = .ok (.iload_n 1, 1) := by decide +kernel
theorem dX8_state_2 : decode cX8_state 2 = .ok (.invokevirtual 166, 3) := by decide +kernel
theorem dX8_state_5 : decode cX8_state 5 = .ok (.ifCond .eq 12, 3) := by decide +kernel
theorem dX8_state_8 : decode cX8_state 8 = .ok (.aload_n 0, 1) := by decide +kernel
theorem dX8_state_9 : decode cX8_state 9 = .ok (.getfield 31, 3) := by decide +kernel
theorem dX8_state_12 : decode cX8_state 12 = .ok (.iload_n 1, 1) := by decide +kernel
theorem dX8_state_13 : decode cX8_state 13 = .ok (.iaload, 1) := by decide +kernel
theorem dX8_state_14 : decode cX8_state 14 = .ok (.goto 4, 3) := by decide +kernel
theorem dX8_state_17 : decode cX8_state 17 = .ok (.iconst (-1), 1) := by decide +kernel
theorem dX8_state_18 : decode cX8_state 18 = .ok (.ireturn, 1) := by decide +kernel
theorem dX8_cause_0 : decode cX8_cause 0 = .ok (.aload_n 0, 1) := by decide +kernel
theorem dX8_cause_1 : decode cX8_cause 1 = .ok (.iload_n 1, 1) := by decide +kernel
theorem dX8_cause_2 : decode cX8_cause 2 = .ok (.invokevirtual 166, 3) := by decide +kernel
theorem dX8_cause_5 : decode cX8_cause 5 = .ok (.ifCond .eq 12, 3) := by decide +kernel
theorem dX8_cause_8 : decode cX8_cause 8 = .ok (.aload_n 0, 1) := by decide +kernel
theorem dX8_cause_9 : decode cX8_cause 9 = .ok (.getfield 34, 3) := by decide +kernel
theorem dX8_cause_12 : decode cX8_cause 12 = .ok (.iload_n 1, 1) := by decide +kernel
theorem dX8_cause_13 : decode cX8_cause 13 = .ok (.iaload, 1) := by decide +kernel
theorem dX8_cause_14 : decode cX8_cause 14 = .ok (.goto 4, 3) := by decide +kernel
theorem dX8_cause_17 : decode cX8_cause 17 = .ok (.iconst (-1), 1) := by decide +kernel
theorem dX8_cause_18 : decode cX8_cause 18 = .ok (.ireturn, 1) := by decide +kernel
theorem dX8_standing_0 : decode cX8_standing 0 = .ok (.aload_n 0, 1) := by decide +kernel
theorem dX8_standing_1 : decode cX8_standing 1 = .ok (.iload_n 1, 1) := by decide +kernel
theorem dX8_standing_2 : decode cX8_standing 2 = .ok (.invokevirtual 166, 3) := by decide +kernel
theorem dX8_standing_5 : decode cX8_standing 5 = .ok (.ifCond .eq 22, 3) := by decide +kernel
theorem dX8_standing_8 : decode cX8_standing 8 = .ok (.aload_n 0, 1) := by decide +kernel
theorem dX8_standing_9 : decode cX8_standing 9 = .ok (.iload_n 1, 1) := by decide +kernel
theorem dX8_standing_10 : decode cX8_standing 10 = .ok (.iconst 1, 1) := by decide +kernel
theorem dX8_standing_11 : decode cX8_standing 11 = .ok (.invokevirtual 175, 3) := by decide +kernel
theorem dX8_standing_14 : decode cX8_standing 14 = .ok (.bipush 10, 2) := by decide +kernel
theorem dX8_standing_16 : decode cX8_standing 16 = .ok (.aload_n 0, 1) := by decide +kernel
theorem dX8_standing_17 : decode cX8_standing 17 = .ok (.iload_n 1, 1) := by decide +kernel
theorem dX8_standing_18 : decode cX8_standing 18 = .ok (.iconst 2, 1) := by decide +kernel
theorem dX8_standing_19 : decode cX8_standing 19 = .ok (.invokevirtual 175, 3) := by decide +kernel
theorem dX8_standing_22 : decode cX8_standing 22 = .ok (.imul, 1) := by decide +kernel
theorem dX8_standing_23 : decode cX8_standing 23 = .ok (.iadd, 1) := by decide +kernel
theorem dX8_standing_24 : decode cX8_standing 24 = .ok (.goto 4, 3) := by decide +kernel
theorem dX8_standing_27 : decode cX8_standing 27 = .ok (.iconst (-1), 1) := by decide +kernel
theorem dX8_standing_28 : decode cX8_standing 28 = .ok (.ireturn, 1) := by decide +kernel
theorem dX8_file_0 : decode cX8_file 0 = .ok (.iload_n 2, 1) := by decide +kernel
theorem dX8_file_1 : decode cX8_file 1 = .ok (.ifCond .lt 35, 3) := by decide +kernel
theorem dX8_file_4 : decode cX8_file 4 = .ok (.iload_n 2, 1) := by decide +kernel
theorem dX8_file_5 : decode cX8_file 5 = .ok (.iconst 5, 1) := by decide +kernel
theorem dX8_file_6 : decode cX8_file 6 = .ok (.if_icmp .gt 30, 3) := by decide +kernel
theorem dX8_file_9 : decode cX8_file 9 = .ok (.iload_n 1, 1) := by decide +kernel
theorem dX8_file_10 : decode cX8_file 10 = .ok (.bipush (-2), 2) := by decide +kernel
theorem dX8_file_12 : decode cX8_file 12 = .ok (.if_icmp .lt 24, 3) := by decide +kernel
theorem dX8_file_15 : decode cX8_file 15 = .ok (.iload_n 1, 1) := by decide +kernel
theorem dX8_file_16 : decode cX8_file 16 = .ok (.aload_n 0, 1) := by decide +kernel
theorem dX8_file_17 : decode cX8_file 17 = .ok (.getfield 91, 3) := by decide +kernel
theorem dX8_file_20 : decode cX8_file 20 = .ok (.if_icmp .ge 16, 3) := by decide +kernel
theorem dX8_file_23 : decode cX8_file 23 = .ok (.iload_n 1, 1) := by decide +kernel
theorem dX8_file_24 : decode cX8_file 24 = .ok (.bipush (-2), 2) := by decide +kernel
theorem dX8_file_26 : decode cX8_file 26 = .ok (.if_icmp .ne 12, 3) := by decide +kernel
theorem dX8_file_29 : decode cX8_file 29 = .ok (.aload_n 0, 1) := by decide +kernel
theorem dX8_file_30 : decode cX8_file 30 = .ok (.getfield 100, 3) := by decide +kernel
theorem dX8_file_33 : decode cX8_file 33 = .ok (.ifCond .ne 5, 3) := by decide +kernel
theorem dX8_file_36 : decode cX8_file 36 = .ok (.iconst 0, 1) := by decide +kernel
theorem dX8_file_37 : decode cX8_file 37 = .ok (.ireturn, 1) := by decide +kernel
theorem dX8_file_38 : decode cX8_file 38 = .ok (.aload_n 0, 1) := by decide +kernel
theorem dX8_file_39 : decode cX8_file 39 = .ok (.invokevirtual 140, 3) := by decide +kernel
theorem dX8_file_42 : decode cX8_file 42 = .ok (.iload_n 1, 1) := by decide +kernel
theorem dX8_file_43 : decode cX8_file 43 = .ok (.ifCond .lt 17, 3) := by decide +kernel
theorem dX8_file_46 : decode cX8_file 46 = .ok (.aload_n 0, 1) := by decide +kernel
theorem dX8_file_47 : decode cX8_file 47 = .ok (.getfield 28, 3) := by decide +kernel
theorem dX8_file_50 : decode cX8_file 50 = .ok (.bipush 6, 2) := by decide +kernel
theorem dX8_file_52 : decode cX8_file 52 = .ok (.iload_n 1, 1) := by decide +kernel
theorem dX8_file_53 : decode cX8_file 53 = .ok (.imul, 1) := by decide +kernel
theorem dX8_file_54 : decode cX8_file 54 = .ok (.iload_n 2, 1) := by decide +kernel
theorem dX8_file_55 : decode cX8_file 55 = .ok (.iadd, 1) := by decide +kernel
theorem dX8_file_56 : decode cX8_file 56 = .ok (.iaload, 1) := by decide +kernel
theorem dX8_file_57 : decode cX8_file 57 = .ok (.goto 23, 3) := by decide +kernel
theorem dX8_file_60 : decode cX8_file 60 = .ok (.iload_n 1, 1) := by decide +kernel
theorem dX8_file_61 : decode cX8_file 61 = .ok (.iconst (-1), 1) := by decide +kernel
theorem dX8_file_62 : decode cX8_file 62 = .ok (.if_icmp .ne 12, 3) := by decide +kernel
theorem dX8_file_65 : decode cX8_file 65 = .ok (.aload_n 0, 1) := by decide +kernel
theorem dX8_file_66 : decode cX8_file 66 = .ok (.getfield 22, 3) := by decide +kernel
theorem dX8_file_69 : decode cX8_file 69 = .ok (.iload_n 2, 1) := by decide +kernel
theorem dX8_file_70 : decode cX8_file 70 = .ok (.iaload, 1) := by decide +kernel
theorem dX8_file_71 : decode cX8_file 71 = .ok (.goto 9, 3) := by decide +kernel
theorem dX8_file_74 : decode cX8_file 74 = .ok (.aload_n 0, 1) := by decide +kernel
theorem dX8_file_75 : decode cX8_file 75 = .ok (.getfield 58, 3) := by decide +kernel
theorem dX8_file_78 : decode cX8_file 78 = .ok (.iload_n 2, 1) := by decide +kernel
theorem dX8_file_79 : decode cX8_file 79 = .ok (.iaload, 1) := by decide +kernel
theorem dX8_file_80 : decode cX8_file 80 = .ok (.ireturn, 1) := by decide +kernel
theorem dX8_queueAt_0 : decode cX8_queueAt 0 = .ok (.iload_n 1, 1) := by decide +kernel
theorem dX8_queueAt_1 : decode cX8_queueAt 1 = .ok (.ifCond .lt 20, 3) := by decide +kernel
theorem dX8_queueAt_4 : decode cX8_queueAt 4 = .ok (.iload_n 1, 1) := by decide +kernel
theorem dX8_queueAt_5 : decode cX8_queueAt 5 = .ok (.aload_n 0, 1) := by decide +kernel
theorem dX8_queueAt_6 : decode cX8_queueAt 6 = .ok (.getfield 94, 3) := by decide +kernel
theorem dX8_queueAt_9 : decode cX8_queueAt 9 = .ok (.if_icmp .ge 12, 3) := by decide +kernel
theorem dX8_queueAt_12 : decode cX8_queueAt 12 = .ok (.aload_n 0, 1) := by decide +kernel
theorem dX8_queueAt_13 : decode cX8_queueAt 13 = .ok (.getfield 40, 3) := by decide +kernel
theorem dX8_queueAt_16 : decode cX8_queueAt 16 = .ok (.iload_n 1, 1) := by decide +kernel
theorem dX8_queueAt_17 : decode cX8_queueAt 17 = .ok (.iaload, 1) := by decide +kernel
theorem dX8_queueAt_18 : decode cX8_queueAt 18 = .ok (.goto 4, 3) := by decide +kernel
theorem dX8_queueAt_21 : decode cX8_queueAt 21 = .ok (.iconst (-1), 1) := by decide +kernel
theorem dX8_queueAt_22 : decode cX8_queueAt 22 = .ok (.ireturn, 1) := by decide +kernel
theorem dX8_batch_0 : decode cX8_batch 0 = .ok (.aload_n 0, 1) := by decide +kernel
theorem dX8_batch_1 : decode cX8_batch 1 = .ok (.getfield 100, 3) := by decide +kernel
theorem dX8_batch_4 : decode cX8_batch 4 = .ok (.ireturn, 1) := by decide +kernel
theorem dX8_job_0 : decode cX8_job 0 = .ok (.aload_n 0, 1) := by decide +kernel
theorem dX8_job_1 : decode cX8_job 1 = .ok (.getfield 100, 3) := by decide +kernel
theorem dX8_job_4 : decode cX8_job 4 = .ok (.ifCond .eq 12, 3) := by decide +kernel
theorem dX8_job_7 : decode cX8_job 7 = .ok (.iload_n 1, 1) := by decide +kernel
theorem dX8_job_8 : decode cX8_job 8 = .ok (.ifCond .lt 8, 3) := by decide +kernel
theorem dX8_job_11 : decode cX8_job 11 = .ok (.iload_n 1, 1) := by decide +kernel
theorem dX8_job_12 : decode cX8_job 12 = .ok (.iconst 3, 1) := by decide +kernel
theorem dX8_job_13 : decode cX8_job 13 = .ok (.if_icmp .le 7, 3) := by decide +kernel
theorem dX8_job_16 : decode cX8_job 16 = .ok (.iconst 0, 1) := by decide +kernel
theorem dX8_job_17 : decode cX8_job 17 = .ok (.goto 9, 3) := by decide +kernel
theorem dX8_job_20 : decode cX8_job 20 = .ok (.aload_n 0, 1) := by decide +kernel
theorem dX8_job_21 : decode cX8_job 21 = .ok (.getfield 46, 3) := by decide +kernel
theorem dX8_job_24 : decode cX8_job 24 = .ok (.iload_n 1, 1) := by decide +kernel
theorem dX8_job_25 : decode cX8_job 25 = .ok (.iaload, 1) := by decide +kernel
theorem dX8_job_26 : decode cX8_job 26 = .ok (.ireturn, 1) := by decide +kernel
theorem dX8_version_0 : decode cX8_version 0 = .ok (.aload_n 0, 1) := by decide +kernel
theorem dX8_version_1 : decode cX8_version 1 = .ok (.getfield 85, 3) := by decide +kernel
theorem dX8_version_4 : decode cX8_version 4 = .ok (.ireturn, 1) := by decide +kernel
theorem dJ6_bitCount_0f7a4_0 : decode cJ6_bitCount_0f7a4 0 = .ok (.iload_n 0, 1) := by decide +kernel
theorem dJ6_bitCount_0f7a4_1 : decode cJ6_bitCount_0f7a4 1 = .ok (.iload_n 0, 1) := by decide +kernel
theorem dJ6_bitCount_0f7a4_2 : decode cJ6_bitCount_0f7a4 2 = .ok (.iconst 1, 1) := by decide +kernel
theorem dJ6_bitCount_0f7a4_3 : decode cJ6_bitCount_0f7a4 3 = .ok (.iushr, 1) := by decide +kernel
theorem dJ6_bitCount_0f7a4_4 : decode cJ6_bitCount_0f7a4 4 = .ok (.ldc_w 265, 3) := by decide +kernel
theorem dJ6_bitCount_0f7a4_7 : decode cJ6_bitCount_0f7a4 7 = .ok (.iand, 1) := by decide +kernel
theorem dJ6_bitCount_0f7a4_8 : decode cJ6_bitCount_0f7a4 8 = .ok (.isub, 1) := by decide +kernel
theorem dJ6_bitCount_0f7a4_9 : decode cJ6_bitCount_0f7a4 9 = .ok (.istore_n 0, 1) := by decide +kernel
theorem dJ6_bitCount_0f7a4_10 : decode cJ6_bitCount_0f7a4 10 = .ok (.iload_n 0, 1) := by decide +kernel
theorem dJ6_bitCount_0f7a4_11 : decode cJ6_bitCount_0f7a4 11 = .ok (.ldc_w 266, 3) := by decide +kernel
theorem dJ6_bitCount_0f7a4_14 : decode cJ6_bitCount_0f7a4 14 = .ok (.iand, 1) := by decide +kernel
theorem dJ6_bitCount_0f7a4_15 : decode cJ6_bitCount_0f7a4 15 = .ok (.iload_n 0, 1) := by decide +kernel
theorem dJ6_bitCount_0f7a4_16 : decode cJ6_bitCount_0f7a4 16 = .ok (.iconst 2, 1) := by decide +kernel
theorem dJ6_bitCount_0f7a4_17 : decode cJ6_bitCount_0f7a4 17 = .ok (.iushr, 1) := by decide +kernel
theorem dJ6_bitCount_0f7a4_18 : decode cJ6_bitCount_0f7a4 18 = .ok (.ldc_w 266, 3) := by decide +kernel
theorem dJ6_bitCount_0f7a4_21 : decode cJ6_bitCount_0f7a4 21 = .ok (.iand, 1) := by decide +kernel
theorem dJ6_bitCount_0f7a4_22 : decode cJ6_bitCount_0f7a4 22 = .ok (.iadd, 1) := by decide +kernel
theorem dJ6_bitCount_0f7a4_23 : decode cJ6_bitCount_0f7a4 23 = .ok (.istore_n 0, 1) := by decide +kernel
theorem dJ6_bitCount_0f7a4_24 : decode cJ6_bitCount_0f7a4 24 = .ok (.iload_n 0, 1) := by decide +kernel
theorem dJ6_bitCount_0f7a4_25 : decode cJ6_bitCount_0f7a4 25 = .ok (.iload_n 0, 1) := by decide +kernel
theorem dJ6_bitCount_0f7a4_26 : decode cJ6_bitCount_0f7a4 26 = .ok (.iconst 4, 1) := by decide +kernel
theorem dJ6_bitCount_0f7a4_27 : decode cJ6_bitCount_0f7a4 27 = .ok (.iushr, 1) := by decide +kernel
theorem dJ6_bitCount_0f7a4_28 : decode cJ6_bitCount_0f7a4 28 = .ok (.iadd, 1) := by decide +kernel
theorem dJ6_bitCount_0f7a4_29 : decode cJ6_bitCount_0f7a4 29 = .ok (.ldc_w 267, 3) := by decide +kernel
theorem dJ6_bitCount_0f7a4_32 : decode cJ6_bitCount_0f7a4 32 = .ok (.iand, 1) := by decide +kernel
theorem dJ6_bitCount_0f7a4_33 : decode cJ6_bitCount_0f7a4 33 = .ok (.istore_n 0, 1) := by decide +kernel
theorem dJ6_bitCount_0f7a4_34 : decode cJ6_bitCount_0f7a4 34 = .ok (.iload_n 0, 1) := by decide +kernel
theorem dJ6_bitCount_0f7a4_35 : decode cJ6_bitCount_0f7a4 35 = .ok (.iload_n 0, 1) := by decide +kernel
theorem dJ6_bitCount_0f7a4_36 : decode cJ6_bitCount_0f7a4 36 = .ok (.bipush 8, 2) := by decide +kernel
theorem dJ6_bitCount_0f7a4_38 : decode cJ6_bitCount_0f7a4 38 = .ok (.iushr, 1) := by decide +kernel
theorem dJ6_bitCount_0f7a4_39 : decode cJ6_bitCount_0f7a4 39 = .ok (.iadd, 1) := by decide +kernel
theorem dJ6_bitCount_0f7a4_40 : decode cJ6_bitCount_0f7a4 40 = .ok (.istore_n 0, 1) := by decide +kernel
theorem dJ6_bitCount_0f7a4_41 : decode cJ6_bitCount_0f7a4 41 = .ok (.iload_n 0, 1) := by decide +kernel
theorem dJ6_bitCount_0f7a4_42 : decode cJ6_bitCount_0f7a4 42 = .ok (.iload_n 0, 1) := by decide +kernel
theorem dJ6_bitCount_0f7a4_43 : decode cJ6_bitCount_0f7a4 43 = .ok (.bipush 16, 2) := by decide +kernel
theorem dJ6_bitCount_0f7a4_45 : decode cJ6_bitCount_0f7a4 45 = .ok (.iushr, 1) := by decide +kernel
theorem dJ6_bitCount_0f7a4_46 : decode cJ6_bitCount_0f7a4 46 = .ok (.iadd, 1) := by decide +kernel
theorem dJ6_bitCount_0f7a4_47 : decode cJ6_bitCount_0f7a4 47 = .ok (.istore_n 0, 1) := by decide +kernel
theorem dJ6_bitCount_0f7a4_48 : decode cJ6_bitCount_0f7a4 48 = .ok (.iload_n 0, 1) := by decide +kernel
theorem dJ6_bitCount_0f7a4_49 : decode cJ6_bitCount_0f7a4 49 = .ok (.bipush 63, 2) := by decide +kernel
theorem dJ6_bitCount_0f7a4_51 : decode cJ6_bitCount_0f7a4 51 = .ok (.iand, 1) := by decide +kernel
theorem dJ6_bitCount_0f7a4_52 : decode cJ6_bitCount_0f7a4 52 = .ok (.ireturn, 1) := by decide +kernel
theorem dJ9_max_7cf53_0 : decode cJ9_max_7cf53 0 = .ok (.iload_n 0, 1) := by decide +kernel
theorem dJ9_max_7cf53_1 : decode cJ9_max_7cf53 1 = .ok (.iload_n 1, 1) := by decide +kernel
theorem dJ9_max_7cf53_2 : decode cJ9_max_7cf53 2 = .ok (.if_icmp .lt 7, 3) := by decide +kernel
theorem dJ9_max_7cf53_5 : decode cJ9_max_7cf53 5 = .ok (.iload_n 0, 1) := by decide +kernel
theorem dJ9_max_7cf53_6 : decode cJ9_max_7cf53 6 = .ok (.goto 4, 3) := by decide +kernel
theorem dJ9_max_7cf53_9 : decode cJ9_max_7cf53 9 = .ok (.iload_n 1, 1) := by decide +kernel
theorem dJ9_max_7cf53_10 : decode cJ9_max_7cf53 10 = .ok (.ireturn, 1) := by decide +kernel
theorem dJ9_min_7cf53_0 : decode cJ9_min_7cf53 0 = .ok (.iload_n 0, 1) := by decide +kernel
theorem dJ9_min_7cf53_1 : decode cJ9_min_7cf53 1 = .ok (.iload_n 1, 1) := by decide +kernel
theorem dJ9_min_7cf53_2 : decode cJ9_min_7cf53 2 = .ok (.if_icmp .gt 7, 3) := by decide +kernel
theorem dJ9_min_7cf53_5 : decode cJ9_min_7cf53 5 = .ok (.iload_n 0, 1) := by decide +kernel
theorem dJ9_min_7cf53_6 : decode cJ9_min_7cf53 6 = .ok (.goto 4, 3) := by decide +kernel
theorem dJ9_min_7cf53_9 : decode cJ9_min_7cf53 9 = .ok (.iload_n 1, 1) := by decide +kernel
theorem dJ9_min_7cf53_10 : decode cJ9_min_7cf53 10 = .ok (.ireturn, 1) := by decide +kernel
theorem dL_cell_0 : decode cL_cell 0 = .ok (.iload_n 1, 1) := by decide +kernel
theorem dL_cell_1 : decode cL_cell 1 = .ok (.aload_n 0, 1) := by decide +kernel
theorem dL_cell_2 : decode cL_cell 2 = .ok (.arraylength, 1) := by decide +kernel
theorem dL_cell_3 : decode cL_cell 3 = .ok (.if_icmp .ge 9, 3) := by decide +kernel
theorem dL_cell_6 : decode cL_cell 6 = .ok (.aload_n 0, 1) := by decide +kernel
theorem dL_cell_7 : decode cL_cell 7 = .ok (.iload_n 1, 1) := by decide +kernel
theorem dL_cell_8 : decode cL_cell 8 = .ok (.iaload, 1) := by decide +kernel
theorem dL_cell_9 : decode cL_cell 9 = .ok (.goto 4, 3) := by decide +kernel
theorem dL_cell_12 : decode cL_cell 12 = .ok (.iconst 0, 1) := by decide +kernel
theorem dL_cell_13 : decode cL_cell 13 = .ok (.ireturn, 1) := by decide +kernel
theorem dL_law_0 : decode cL_law 0 = .ok (.new 7, 3) := by decide +kernel
theorem dL_law_3 : decode cL_law 3 = .ok (.dup, 1) := by decide +kernel
theorem dL_law_4 : decode cL_law 4 = .ok (.aload_n 0, 1) := by decide +kernel
theorem dL_law_5 : decode cL_law 5 = .ok (.iconst 0, 1) := by decide +kernel
theorem dL_law_6 : decode cL_law 6 = .ok (.invokestatic 9, 3) := by decide +kernel
theorem dL_law_9 : decode cL_law 9 = .ok (.aload_n 0, 1) := by decide +kernel
theorem dL_law_10 : decode cL_law 10 = .ok (.iconst 1, 1) := by decide +kernel
theorem dL_law_11 : decode cL_law 11 = .ok (.invokestatic 9, 3) := by decide +kernel
theorem dL_law_14 : decode cL_law 14 = .ok (.aload_n 0, 1) := by decide +kernel
theorem dL_law_15 : decode cL_law 15 = .ok (.iconst 2, 1) := by decide +kernel
theorem dL_law_16 : decode cL_law 16 = .ok (.invokestatic 9, 3) := by decide +kernel
theorem dL_law_19 : decode cL_law 19 = .ok (.aload_n 0, 1) := by decide +kernel
theorem dL_law_20 : decode cL_law 20 = .ok (.iconst 3, 1) := by decide +kernel
theorem dL_law_21 : decode cL_law 21 = .ok (.invokestatic 9, 3) := by decide +kernel
theorem dL_law_24 : decode cL_law 24 = .ok (.invokespecial 15, 3) := by decide +kernel
theorem dL_law_27 : decode cL_law 27 = .ok (.astore_n 1, 1) := by decide +kernel
theorem dL_law_28 : decode cL_law 28 = .ok (.new 18, 3) := by decide +kernel
theorem dL_law_31 : decode cL_law 31 = .ok (.dup, 1) := by decide +kernel
theorem dL_law_32 : decode cL_law 32 = .ok (.aload_n 0, 1) := by decide +kernel
theorem dL_law_33 : decode cL_law 33 = .ok (.iconst 0, 1) := by decide +kernel
theorem dL_law_34 : decode cL_law 34 = .ok (.invokestatic 9, 3) := by decide +kernel
theorem dL_law_37 : decode cL_law 37 = .ok (.aload_n 0, 1) := by decide +kernel
theorem dL_law_38 : decode cL_law 38 = .ok (.iconst 1, 1) := by decide +kernel
theorem dL_law_39 : decode cL_law 39 = .ok (.invokestatic 9, 3) := by decide +kernel
theorem dL_law_42 : decode cL_law 42 = .ok (.aload_n 0, 1) := by decide +kernel
theorem dL_law_43 : decode cL_law 43 = .ok (.iconst 2, 1) := by decide +kernel
theorem dL_law_44 : decode cL_law 44 = .ok (.invokestatic 9, 3) := by decide +kernel
theorem dL_law_47 : decode cL_law 47 = .ok (.aload_n 0, 1) := by decide +kernel
theorem dL_law_48 : decode cL_law 48 = .ok (.iconst 3, 1) := by decide +kernel
theorem dL_law_49 : decode cL_law 49 = .ok (.invokestatic 9, 3) := by decide +kernel
theorem dL_law_52 : decode cL_law 52 = .ok (.invokespecial 20, 3) := by decide +kernel
theorem dL_law_55 : decode cL_law 55 = .ok (.astore_n 2, 1) := by decide +kernel
theorem dL_law_56 : decode cL_law 56 = .ok (.iconst 4, 1) := by decide +kernel
theorem dL_law_57 : decode cL_law 57 = .ok (.istore_n 3, 1) := by decide +kernel
theorem dL_law_58 : decode cL_law 58 = .ok (.iload_n 3, 1) := by decide +kernel
theorem dL_law_59 : decode cL_law 59 = .ok (.aload_n 0, 1) := by decide +kernel
theorem dL_law_60 : decode cL_law 60 = .ok (.arraylength, 1) := by decide +kernel
theorem dL_law_61 : decode cL_law 61 = .ok (.iconst 4, 1) := by decide +kernel
theorem dL_law_62 : decode cL_law 62 = .ok (.isub, 1) := by decide +kernel
theorem dL_law_63 : decode cL_law 63 = .ok (.if_icmp .gt 607, 3) := by decide +kernel
theorem dL_law_66 : decode cL_law 66 = .ok (.aload_n 0, 1) := by decide +kernel
theorem dL_law_67 : decode cL_law 67 = .ok (.iload_n 3, 1) := by decide +kernel
theorem dL_law_68 : decode cL_law 68 = .ok (.iaload, 1) := by decide +kernel
theorem dL_law_69 : decode cL_law 69 = .ok (.bipush 31, 2) := by decide +kernel
theorem dL_law_71 : decode cL_law 71 = .ok (.iand, 1) := by decide +kernel
theorem dL_law_72 : decode cL_law 72 = .ok (.tableswitch 592 0 19 #[96, 109, 152, 185, 218, 241, 264, 287, 310, 359, 382, 395, 418, 441, 464, 487, 520, 543, 556, 579], 96) := by decide +kernel
theorem dL_law_168 : decode cL_law 168 = .ok (.aload_n 1, 1) := by decide +kernel
theorem dL_law_169 : decode cL_law 169 = .ok (.invokevirtual 21, 3) := by decide +kernel
theorem dL_law_172 : decode cL_law 172 = .ok (.aload_n 2, 1) := by decide +kernel
theorem dL_law_173 : decode cL_law 173 = .ok (.invokevirtual 25, 3) := by decide +kernel
theorem dL_law_176 : decode cL_law 176 = .ok (.if_icmp .eq 488, 3) := by decide +kernel
theorem dL_law_179 : decode cL_law 179 = .ok (.iconst 0, 1) := by decide +kernel
theorem dL_law_180 : decode cL_law 180 = .ok (.ireturn, 1) := by decide +kernel
theorem dL_law_181 : decode cL_law 181 = .ok (.aload_n 1, 1) := by decide +kernel
theorem dL_law_182 : decode cL_law 182 = .ok (.aload_n 0, 1) := by decide +kernel
theorem dL_law_183 : decode cL_law 183 = .ok (.iload_n 3, 1) := by decide +kernel
theorem dL_law_184 : decode cL_law 184 = .ok (.iconst 1, 1) := by decide +kernel
theorem dL_law_185 : decode cL_law 185 = .ok (.iadd, 1) := by decide +kernel
theorem dL_law_186 : decode cL_law 186 = .ok (.iaload, 1) := by decide +kernel
theorem dL_law_187 : decode cL_law 187 = .ok (.aload_n 0, 1) := by decide +kernel
theorem dL_law_188 : decode cL_law 188 = .ok (.iload_n 3, 1) := by decide +kernel
theorem dL_law_189 : decode cL_law 189 = .ok (.iconst 2, 1) := by decide +kernel
theorem dL_law_190 : decode cL_law 190 = .ok (.iadd, 1) := by decide +kernel
theorem dL_law_191 : decode cL_law 191 = .ok (.iaload, 1) := by decide +kernel
theorem dL_law_192 : decode cL_law 192 = .ok (.aload_n 0, 1) := by decide +kernel
theorem dL_law_193 : decode cL_law 193 = .ok (.iload_n 3, 1) := by decide +kernel
theorem dL_law_194 : decode cL_law 194 = .ok (.iconst 3, 1) := by decide +kernel
theorem dL_law_195 : decode cL_law 195 = .ok (.iadd, 1) := by decide +kernel
theorem dL_law_196 : decode cL_law 196 = .ok (.iaload, 1) := by decide +kernel
theorem dL_law_197 : decode cL_law 197 = .ok (.invokevirtual 26, 3) := by decide +kernel
theorem dL_law_200 : decode cL_law 200 = .ok (.aload_n 2, 1) := by decide +kernel
theorem dL_law_201 : decode cL_law 201 = .ok (.aload_n 0, 1) := by decide +kernel
theorem dL_law_202 : decode cL_law 202 = .ok (.iload_n 3, 1) := by decide +kernel
theorem dL_law_203 : decode cL_law 203 = .ok (.iconst 1, 1) := by decide +kernel
theorem dL_law_204 : decode cL_law 204 = .ok (.iadd, 1) := by decide +kernel
theorem dL_law_205 : decode cL_law 205 = .ok (.iaload, 1) := by decide +kernel
theorem dL_law_206 : decode cL_law 206 = .ok (.aload_n 0, 1) := by decide +kernel
theorem dL_law_207 : decode cL_law 207 = .ok (.iload_n 3, 1) := by decide +kernel
theorem dL_law_208 : decode cL_law 208 = .ok (.iconst 2, 1) := by decide +kernel
theorem dL_law_209 : decode cL_law 209 = .ok (.iadd, 1) := by decide +kernel
theorem dL_law_210 : decode cL_law 210 = .ok (.iaload, 1) := by decide +kernel
theorem dL_law_211 : decode cL_law 211 = .ok (.aload_n 0, 1) := by decide +kernel
theorem dL_law_212 : decode cL_law 212 = .ok (.iload_n 3, 1) := by decide +kernel
theorem dL_law_213 : decode cL_law 213 = .ok (.iconst 3, 1) := by decide +kernel
theorem dL_law_214 : decode cL_law 214 = .ok (.iadd, 1) := by decide +kernel
theorem dL_law_215 : decode cL_law 215 = .ok (.iaload, 1) := by decide +kernel
theorem dL_law_216 : decode cL_law 216 = .ok (.invokevirtual 30, 3) := by decide +kernel
theorem dL_law_219 : decode cL_law 219 = .ok (.if_icmp .eq 445, 3) := by decide +kernel
theorem dL_law_222 : decode cL_law 222 = .ok (.iconst 0, 1) := by decide +kernel
theorem dL_law_223 : decode cL_law 223 = .ok (.ireturn, 1) := by decide +kernel
theorem dL_law_224 : decode cL_law 224 = .ok (.aload_n 1, 1) := by decide +kernel
theorem dL_law_225 : decode cL_law 225 = .ok (.aload_n 0, 1) := by decide +kernel
theorem dL_law_226 : decode cL_law 226 = .ok (.iload_n 3, 1) := by decide +kernel
theorem dL_law_227 : decode cL_law 227 = .ok (.iconst 1, 1) := by decide +kernel
theorem dL_law_228 : decode cL_law 228 = .ok (.iadd, 1) := by decide +kernel
theorem dL_law_229 : decode cL_law 229 = .ok (.iaload, 1) := by decide +kernel
theorem dL_law_230 : decode cL_law 230 = .ok (.aload_n 0, 1) := by decide +kernel
theorem dL_law_231 : decode cL_law 231 = .ok (.iload_n 3, 1) := by decide +kernel
theorem dL_law_232 : decode cL_law 232 = .ok (.iconst 2, 1) := by decide +kernel
theorem dL_law_233 : decode cL_law 233 = .ok (.iadd, 1) := by decide +kernel
theorem dL_law_234 : decode cL_law 234 = .ok (.iaload, 1) := by decide +kernel
theorem dL_law_235 : decode cL_law 235 = .ok (.invokevirtual 31, 3) := by decide +kernel
theorem dL_law_238 : decode cL_law 238 = .ok (.aload_n 2, 1) := by decide +kernel
theorem dL_law_239 : decode cL_law 239 = .ok (.aload_n 0, 1) := by decide +kernel
theorem dL_law_240 : decode cL_law 240 = .ok (.iload_n 3, 1) := by decide +kernel
theorem dL_law_241 : decode cL_law 241 = .ok (.iconst 1, 1) := by decide +kernel
theorem dL_law_242 : decode cL_law 242 = .ok (.iadd, 1) := by decide +kernel
theorem dL_law_243 : decode cL_law 243 = .ok (.iaload, 1) := by decide +kernel
theorem dL_law_244 : decode cL_law 244 = .ok (.aload_n 0, 1) := by decide +kernel
theorem dL_law_245 : decode cL_law 245 = .ok (.iload_n 3, 1) := by decide +kernel
theorem dL_law_246 : decode cL_law 246 = .ok (.iconst 2, 1) := by decide +kernel
theorem dL_law_247 : decode cL_law 247 = .ok (.iadd, 1) := by decide +kernel
theorem dL_law_248 : decode cL_law 248 = .ok (.iaload, 1) := by decide +kernel
theorem dL_law_249 : decode cL_law 249 = .ok (.invokevirtual 35, 3) := by decide +kernel
theorem dL_law_252 : decode cL_law 252 = .ok (.if_icmp .eq 412, 3) := by decide +kernel
theorem dL_law_255 : decode cL_law 255 = .ok (.iconst 0, 1) := by decide +kernel
theorem dL_law_256 : decode cL_law 256 = .ok (.ireturn, 1) := by decide +kernel
theorem dL_law_257 : decode cL_law 257 = .ok (.aload_n 1, 1) := by decide +kernel
theorem dL_law_258 : decode cL_law 258 = .ok (.aload_n 0, 1) := by decide +kernel
theorem dL_law_259 : decode cL_law 259 = .ok (.iload_n 3, 1) := by decide +kernel
theorem dL_law_260 : decode cL_law 260 = .ok (.iconst 1, 1) := by decide +kernel
theorem dL_law_261 : decode cL_law 261 = .ok (.iadd, 1) := by decide +kernel
theorem dL_law_262 : decode cL_law 262 = .ok (.iaload, 1) := by decide +kernel
theorem dL_law_263 : decode cL_law 263 = .ok (.aload_n 0, 1) := by decide +kernel
theorem dL_law_264 : decode cL_law 264 = .ok (.iload_n 3, 1) := by decide +kernel
theorem dL_law_265 : decode cL_law 265 = .ok (.iconst 2, 1) := by decide +kernel
theorem dL_law_266 : decode cL_law 266 = .ok (.iadd, 1) := by decide +kernel
theorem dL_law_267 : decode cL_law 267 = .ok (.iaload, 1) := by decide +kernel
theorem dL_law_268 : decode cL_law 268 = .ok (.invokevirtual 36, 3) := by decide +kernel
theorem dL_law_271 : decode cL_law 271 = .ok (.aload_n 2, 1) := by decide +kernel
theorem dL_law_272 : decode cL_law 272 = .ok (.aload_n 0, 1) := by decide +kernel
theorem dL_law_273 : decode cL_law 273 = .ok (.iload_n 3, 1) := by decide +kernel
theorem dL_law_274 : decode cL_law 274 = .ok (.iconst 1, 1) := by decide +kernel
theorem dL_law_275 : decode cL_law 275 = .ok (.iadd, 1) := by decide +kernel
theorem dL_law_276 : decode cL_law 276 = .ok (.iaload, 1) := by decide +kernel
theorem dL_law_277 : decode cL_law 277 = .ok (.aload_n 0, 1) := by decide +kernel
theorem dL_law_278 : decode cL_law 278 = .ok (.iload_n 3, 1) := by decide +kernel
theorem dL_law_279 : decode cL_law 279 = .ok (.iconst 2, 1) := by decide +kernel
theorem dL_law_280 : decode cL_law 280 = .ok (.iadd, 1) := by decide +kernel
theorem dL_law_281 : decode cL_law 281 = .ok (.iaload, 1) := by decide +kernel
theorem dL_law_282 : decode cL_law 282 = .ok (.invokevirtual 39, 3) := by decide +kernel
theorem dL_law_285 : decode cL_law 285 = .ok (.if_icmp .eq 379, 3) := by decide +kernel
theorem dL_law_288 : decode cL_law 288 = .ok (.iconst 0, 1) := by decide +kernel
theorem dL_law_289 : decode cL_law 289 = .ok (.ireturn, 1) := by decide +kernel
theorem dL_law_290 : decode cL_law 290 = .ok (.aload_n 1, 1) := by decide +kernel
theorem dL_law_291 : decode cL_law 291 = .ok (.aload_n 0, 1) := by decide +kernel
theorem dL_law_292 : decode cL_law 292 = .ok (.iload_n 3, 1) := by decide +kernel
theorem dL_law_293 : decode cL_law 293 = .ok (.iconst 1, 1) := by decide +kernel
theorem dL_law_294 : decode cL_law 294 = .ok (.iadd, 1) := by decide +kernel
theorem dL_law_295 : decode cL_law 295 = .ok (.iaload, 1) := by decide +kernel
theorem dL_law_296 : decode cL_law 296 = .ok (.invokevirtual 40, 3) := by decide +kernel
theorem dL_law_299 : decode cL_law 299 = .ok (.aload_n 2, 1) := by decide +kernel
theorem dL_law_300 : decode cL_law 300 = .ok (.aload_n 0, 1) := by decide +kernel
theorem dL_law_301 : decode cL_law 301 = .ok (.iload_n 3, 1) := by decide +kernel
theorem dL_law_302 : decode cL_law 302 = .ok (.iconst 1, 1) := by decide +kernel
theorem dL_law_303 : decode cL_law 303 = .ok (.iadd, 1) := by decide +kernel
theorem dL_law_304 : decode cL_law 304 = .ok (.iaload, 1) := by decide +kernel
theorem dL_law_305 : decode cL_law 305 = .ok (.invokevirtual 44, 3) := by decide +kernel
theorem dL_law_308 : decode cL_law 308 = .ok (.if_icmp .eq 356, 3) := by decide +kernel
theorem dL_law_311 : decode cL_law 311 = .ok (.iconst 0, 1) := by decide +kernel
theorem dL_law_312 : decode cL_law 312 = .ok (.ireturn, 1) := by decide +kernel
theorem dL_law_313 : decode cL_law 313 = .ok (.aload_n 1, 1) := by decide +kernel
theorem dL_law_314 : decode cL_law 314 = .ok (.aload_n 0, 1) := by decide +kernel
theorem dL_law_315 : decode cL_law 315 = .ok (.iload_n 3, 1) := by decide +kernel
theorem dL_law_316 : decode cL_law 316 = .ok (.iconst 1, 1) := by decide +kernel
theorem dL_law_317 : decode cL_law 317 = .ok (.iadd, 1) := by decide +kernel
theorem dL_law_318 : decode cL_law 318 = .ok (.iaload, 1) := by decide +kernel
theorem dL_law_319 : decode cL_law 319 = .ok (.invokevirtual 45, 3) := by decide +kernel
theorem dL_law_322 : decode cL_law 322 = .ok (.aload_n 2, 1) := by decide +kernel
theorem dL_law_323 : decode cL_law 323 = .ok (.aload_n 0, 1) := by decide +kernel
theorem dL_law_324 : decode cL_law 324 = .ok (.iload_n 3, 1) := by decide +kernel
theorem dL_law_325 : decode cL_law 325 = .ok (.iconst 1, 1) := by decide +kernel
theorem dL_law_326 : decode cL_law 326 = .ok (.iadd, 1) := by decide +kernel
theorem dL_law_327 : decode cL_law 327 = .ok (.iaload, 1) := by decide +kernel
theorem dL_law_328 : decode cL_law 328 = .ok (.invokevirtual 48, 3) := by decide +kernel
theorem dL_law_331 : decode cL_law 331 = .ok (.if_icmp .eq 333, 3) := by decide +kernel
theorem dL_law_334 : decode cL_law 334 = .ok (.iconst 0, 1) := by decide +kernel
theorem dL_law_335 : decode cL_law 335 = .ok (.ireturn, 1) := by decide +kernel
theorem dL_law_336 : decode cL_law 336 = .ok (.aload_n 1, 1) := by decide +kernel
theorem dL_law_337 : decode cL_law 337 = .ok (.aload_n 0, 1) := by decide +kernel
theorem dL_law_338 : decode cL_law 338 = .ok (.iload_n 3, 1) := by decide +kernel
theorem dL_law_339 : decode cL_law 339 = .ok (.iconst 1, 1) := by decide +kernel
theorem dL_law_340 : decode cL_law 340 = .ok (.iadd, 1) := by decide +kernel
theorem dL_law_341 : decode cL_law 341 = .ok (.iaload, 1) := by decide +kernel
theorem dL_law_342 : decode cL_law 342 = .ok (.invokevirtual 49, 3) := by decide +kernel
theorem dL_law_345 : decode cL_law 345 = .ok (.aload_n 2, 1) := by decide +kernel
theorem dL_law_346 : decode cL_law 346 = .ok (.aload_n 0, 1) := by decide +kernel
theorem dL_law_347 : decode cL_law 347 = .ok (.iload_n 3, 1) := by decide +kernel
theorem dL_law_348 : decode cL_law 348 = .ok (.iconst 1, 1) := by decide +kernel
theorem dL_law_349 : decode cL_law 349 = .ok (.iadd, 1) := by decide +kernel
theorem dL_law_350 : decode cL_law 350 = .ok (.iaload, 1) := by decide +kernel
theorem dL_law_351 : decode cL_law 351 = .ok (.invokevirtual 52, 3) := by decide +kernel
theorem dL_law_354 : decode cL_law 354 = .ok (.if_icmp .eq 310, 3) := by decide +kernel
theorem dL_law_357 : decode cL_law 357 = .ok (.iconst 0, 1) := by decide +kernel
theorem dL_law_358 : decode cL_law 358 = .ok (.ireturn, 1) := by decide +kernel
theorem dL_law_359 : decode cL_law 359 = .ok (.aload_n 1, 1) := by decide +kernel
theorem dL_law_360 : decode cL_law 360 = .ok (.aload_n 0, 1) := by decide +kernel
theorem dL_law_361 : decode cL_law 361 = .ok (.iload_n 3, 1) := by decide +kernel
theorem dL_law_362 : decode cL_law 362 = .ok (.iconst 1, 1) := by decide +kernel
theorem dL_law_363 : decode cL_law 363 = .ok (.iadd, 1) := by decide +kernel
theorem dL_law_364 : decode cL_law 364 = .ok (.iaload, 1) := by decide +kernel
theorem dL_law_365 : decode cL_law 365 = .ok (.invokevirtual 53, 3) := by decide +kernel
theorem dL_law_368 : decode cL_law 368 = .ok (.aload_n 2, 1) := by decide +kernel
theorem dL_law_369 : decode cL_law 369 = .ok (.aload_n 0, 1) := by decide +kernel
theorem dL_law_370 : decode cL_law 370 = .ok (.iload_n 3, 1) := by decide +kernel
theorem dL_law_371 : decode cL_law 371 = .ok (.iconst 1, 1) := by decide +kernel
theorem dL_law_372 : decode cL_law 372 = .ok (.iadd, 1) := by decide +kernel
theorem dL_law_373 : decode cL_law 373 = .ok (.iaload, 1) := by decide +kernel
theorem dL_law_374 : decode cL_law 374 = .ok (.invokevirtual 57, 3) := by decide +kernel
theorem dL_law_377 : decode cL_law 377 = .ok (.if_icmp .eq 287, 3) := by decide +kernel
theorem dL_law_380 : decode cL_law 380 = .ok (.iconst 0, 1) := by decide +kernel
theorem dL_law_381 : decode cL_law 381 = .ok (.ireturn, 1) := by decide +kernel
theorem dL_law_382 : decode cL_law 382 = .ok (.aload_n 1, 1) := by decide +kernel
theorem dL_law_383 : decode cL_law 383 = .ok (.aload_n 0, 1) := by decide +kernel
theorem dL_law_384 : decode cL_law 384 = .ok (.iload_n 3, 1) := by decide +kernel
theorem dL_law_385 : decode cL_law 385 = .ok (.iconst 1, 1) := by decide +kernel
theorem dL_law_386 : decode cL_law 386 = .ok (.iadd, 1) := by decide +kernel
theorem dL_law_387 : decode cL_law 387 = .ok (.iaload, 1) := by decide +kernel
theorem dL_law_388 : decode cL_law 388 = .ok (.aload_n 0, 1) := by decide +kernel
theorem dL_law_389 : decode cL_law 389 = .ok (.iload_n 3, 1) := by decide +kernel
theorem dL_law_390 : decode cL_law 390 = .ok (.iconst 2, 1) := by decide +kernel
theorem dL_law_391 : decode cL_law 391 = .ok (.iadd, 1) := by decide +kernel
theorem dL_law_392 : decode cL_law 392 = .ok (.iaload, 1) := by decide +kernel
theorem dL_law_393 : decode cL_law 393 = .ok (.ifCond .eq 7, 3) := by decide +kernel
theorem dL_law_396 : decode cL_law 396 = .ok (.iconst 1, 1) := by decide +kernel
theorem dL_law_397 : decode cL_law 397 = .ok (.goto 4, 3) := by decide +kernel
theorem dL_law_400 : decode cL_law 400 = .ok (.iconst 0, 1) := by decide +kernel
theorem dL_law_401 : decode cL_law 401 = .ok (.invokevirtual 58, 3) := by decide +kernel
theorem dL_law_404 : decode cL_law 404 = .ok (.aload_n 2, 1) := by decide +kernel
theorem dL_law_405 : decode cL_law 405 = .ok (.aload_n 0, 1) := by decide +kernel
theorem dL_law_406 : decode cL_law 406 = .ok (.iload_n 3, 1) := by decide +kernel
theorem dL_law_407 : decode cL_law 407 = .ok (.iconst 1, 1) := by decide +kernel
theorem dL_law_408 : decode cL_law 408 = .ok (.iadd, 1) := by decide +kernel
theorem dL_law_409 : decode cL_law 409 = .ok (.iaload, 1) := by decide +kernel
theorem dL_law_410 : decode cL_law 410 = .ok (.aload_n 0, 1) := by decide +kernel
theorem dL_law_411 : decode cL_law 411 = .ok (.iload_n 3, 1) := by decide +kernel
theorem dL_law_412 : decode cL_law 412 = .ok (.iconst 2, 1) := by decide +kernel
theorem dL_law_413 : decode cL_law 413 = .ok (.iadd, 1) := by decide +kernel
theorem dL_law_414 : decode cL_law 414 = .ok (.iaload, 1) := by decide +kernel
theorem dL_law_415 : decode cL_law 415 = .ok (.ifCond .eq 7, 3) := by decide +kernel
theorem dL_law_418 : decode cL_law 418 = .ok (.iconst 1, 1) := by decide +kernel
theorem dL_law_419 : decode cL_law 419 = .ok (.goto 4, 3) := by decide +kernel
theorem dL_law_422 : decode cL_law 422 = .ok (.iconst 0, 1) := by decide +kernel
theorem dL_law_423 : decode cL_law 423 = .ok (.invokevirtual 62, 3) := by decide +kernel
theorem dL_law_426 : decode cL_law 426 = .ok (.if_icmp .eq 238, 3) := by decide +kernel
theorem dL_law_429 : decode cL_law 429 = .ok (.iconst 0, 1) := by decide +kernel
theorem dL_law_430 : decode cL_law 430 = .ok (.ireturn, 1) := by decide +kernel
theorem dL_law_431 : decode cL_law 431 = .ok (.aload_n 1, 1) := by decide +kernel
theorem dL_law_432 : decode cL_law 432 = .ok (.aload_n 0, 1) := by decide +kernel
theorem dL_law_433 : decode cL_law 433 = .ok (.iload_n 3, 1) := by decide +kernel
theorem dL_law_434 : decode cL_law 434 = .ok (.iconst 1, 1) := by decide +kernel
theorem dL_law_435 : decode cL_law 435 = .ok (.iadd, 1) := by decide +kernel
theorem dL_law_436 : decode cL_law 436 = .ok (.iaload, 1) := by decide +kernel
theorem dL_law_437 : decode cL_law 437 = .ok (.invokevirtual 63, 3) := by decide +kernel
theorem dL_law_440 : decode cL_law 440 = .ok (.aload_n 2, 1) := by decide +kernel
theorem dL_law_441 : decode cL_law 441 = .ok (.aload_n 0, 1) := by decide +kernel
theorem dL_law_442 : decode cL_law 442 = .ok (.iload_n 3, 1) := by decide +kernel
theorem dL_law_443 : decode cL_law 443 = .ok (.iconst 1, 1) := by decide +kernel
theorem dL_law_444 : decode cL_law 444 = .ok (.iadd, 1) := by decide +kernel
theorem dL_law_445 : decode cL_law 445 = .ok (.iaload, 1) := by decide +kernel
theorem dL_law_446 : decode cL_law 446 = .ok (.invokevirtual 66, 3) := by decide +kernel
theorem dL_law_449 : decode cL_law 449 = .ok (.if_icmp .eq 215, 3) := by decide +kernel
theorem dL_law_452 : decode cL_law 452 = .ok (.iconst 0, 1) := by decide +kernel
theorem dL_law_453 : decode cL_law 453 = .ok (.ireturn, 1) := by decide +kernel
theorem dL_law_454 : decode cL_law 454 = .ok (.aload_n 1, 1) := by decide +kernel
theorem dL_law_455 : decode cL_law 455 = .ok (.invokevirtual 67, 3) := by decide +kernel
theorem dL_law_458 : decode cL_law 458 = .ok (.aload_n 2, 1) := by decide +kernel
theorem dL_law_459 : decode cL_law 459 = .ok (.invokevirtual 70, 3) := by decide +kernel
theorem dL_law_462 : decode cL_law 462 = .ok (.if_icmp .eq 202, 3) := by decide +kernel
theorem dL_law_465 : decode cL_law 465 = .ok (.iconst 0, 1) := by decide +kernel
theorem dL_law_466 : decode cL_law 466 = .ok (.ireturn, 1) := by decide +kernel
theorem dL_law_467 : decode cL_law 467 = .ok (.aload_n 1, 1) := by decide +kernel
theorem dL_law_468 : decode cL_law 468 = .ok (.aload_n 0, 1) := by decide +kernel
theorem dL_law_469 : decode cL_law 469 = .ok (.iload_n 3, 1) := by decide +kernel
theorem dL_law_470 : decode cL_law 470 = .ok (.iconst 1, 1) := by decide +kernel
theorem dL_law_471 : decode cL_law 471 = .ok (.iadd, 1) := by decide +kernel
theorem dL_law_472 : decode cL_law 472 = .ok (.iaload, 1) := by decide +kernel
theorem dL_law_473 : decode cL_law 473 = .ok (.invokevirtual 71, 3) := by decide +kernel
theorem dL_law_476 : decode cL_law 476 = .ok (.aload_n 2, 1) := by decide +kernel
theorem dL_law_477 : decode cL_law 477 = .ok (.aload_n 0, 1) := by decide +kernel
theorem dL_law_478 : decode cL_law 478 = .ok (.iload_n 3, 1) := by decide +kernel
theorem dL_law_479 : decode cL_law 479 = .ok (.iconst 1, 1) := by decide +kernel
theorem dL_law_480 : decode cL_law 480 = .ok (.iadd, 1) := by decide +kernel
theorem dL_law_481 : decode cL_law 481 = .ok (.iaload, 1) := by decide +kernel
theorem dL_law_482 : decode cL_law 482 = .ok (.invokevirtual 74, 3) := by decide +kernel
theorem dL_law_485 : decode cL_law 485 = .ok (.if_icmp .eq 179, 3) := by decide +kernel
theorem dL_law_488 : decode cL_law 488 = .ok (.iconst 0, 1) := by decide +kernel
theorem dL_law_489 : decode cL_law 489 = .ok (.ireturn, 1) := by decide +kernel
theorem dL_law_490 : decode cL_law 490 = .ok (.aload_n 1, 1) := by decide +kernel
theorem dL_law_491 : decode cL_law 491 = .ok (.aload_n 0, 1) := by decide +kernel
theorem dL_law_492 : decode cL_law 492 = .ok (.iload_n 3, 1) := by decide +kernel
theorem dL_law_493 : decode cL_law 493 = .ok (.iconst 1, 1) := by decide +kernel
theorem dL_law_494 : decode cL_law 494 = .ok (.iadd, 1) := by decide +kernel
theorem dL_law_495 : decode cL_law 495 = .ok (.iaload, 1) := by decide +kernel
theorem dL_law_496 : decode cL_law 496 = .ok (.invokevirtual 75, 3) := by decide +kernel
theorem dL_law_499 : decode cL_law 499 = .ok (.aload_n 2, 1) := by decide +kernel
theorem dL_law_500 : decode cL_law 500 = .ok (.aload_n 0, 1) := by decide +kernel
theorem dL_law_501 : decode cL_law 501 = .ok (.iload_n 3, 1) := by decide +kernel
theorem dL_law_502 : decode cL_law 502 = .ok (.iconst 1, 1) := by decide +kernel
theorem dL_law_503 : decode cL_law 503 = .ok (.iadd, 1) := by decide +kernel
theorem dL_law_504 : decode cL_law 504 = .ok (.iaload, 1) := by decide +kernel
theorem dL_law_505 : decode cL_law 505 = .ok (.invokevirtual 78, 3) := by decide +kernel
theorem dL_law_508 : decode cL_law 508 = .ok (.if_icmp .eq 156, 3) := by decide +kernel
theorem dL_law_511 : decode cL_law 511 = .ok (.iconst 0, 1) := by decide +kernel
theorem dL_law_512 : decode cL_law 512 = .ok (.ireturn, 1) := by decide +kernel
theorem dL_law_513 : decode cL_law 513 = .ok (.aload_n 1, 1) := by decide +kernel
theorem dL_law_514 : decode cL_law 514 = .ok (.aload_n 0, 1) := by decide +kernel
theorem dL_law_515 : decode cL_law 515 = .ok (.iload_n 3, 1) := by decide +kernel
theorem dL_law_516 : decode cL_law 516 = .ok (.iconst 1, 1) := by decide +kernel
theorem dL_law_517 : decode cL_law 517 = .ok (.iadd, 1) := by decide +kernel
theorem dL_law_518 : decode cL_law 518 = .ok (.iaload, 1) := by decide +kernel
theorem dL_law_519 : decode cL_law 519 = .ok (.invokevirtual 79, 3) := by decide +kernel
theorem dL_law_522 : decode cL_law 522 = .ok (.aload_n 2, 1) := by decide +kernel
theorem dL_law_523 : decode cL_law 523 = .ok (.aload_n 0, 1) := by decide +kernel
theorem dL_law_524 : decode cL_law 524 = .ok (.iload_n 3, 1) := by decide +kernel
theorem dL_law_525 : decode cL_law 525 = .ok (.iconst 1, 1) := by decide +kernel
theorem dL_law_526 : decode cL_law 526 = .ok (.iadd, 1) := by decide +kernel
theorem dL_law_527 : decode cL_law 527 = .ok (.iaload, 1) := by decide +kernel
theorem dL_law_528 : decode cL_law 528 = .ok (.invokevirtual 82, 3) := by decide +kernel
theorem dL_law_531 : decode cL_law 531 = .ok (.if_icmp .eq 133, 3) := by decide +kernel
theorem dL_law_534 : decode cL_law 534 = .ok (.iconst 0, 1) := by decide +kernel
theorem dL_law_535 : decode cL_law 535 = .ok (.ireturn, 1) := by decide +kernel
theorem dL_law_536 : decode cL_law 536 = .ok (.aload_n 1, 1) := by decide +kernel
theorem dL_law_537 : decode cL_law 537 = .ok (.aload_n 0, 1) := by decide +kernel
theorem dL_law_538 : decode cL_law 538 = .ok (.iload_n 3, 1) := by decide +kernel
theorem dL_law_539 : decode cL_law 539 = .ok (.iconst 1, 1) := by decide +kernel
theorem dL_law_540 : decode cL_law 540 = .ok (.iadd, 1) := by decide +kernel
theorem dL_law_541 : decode cL_law 541 = .ok (.iaload, 1) := by decide +kernel
theorem dL_law_542 : decode cL_law 542 = .ok (.invokevirtual 83, 3) := by decide +kernel
theorem dL_law_545 : decode cL_law 545 = .ok (.aload_n 2, 1) := by decide +kernel
theorem dL_law_546 : decode cL_law 546 = .ok (.aload_n 0, 1) := by decide +kernel
theorem dL_law_547 : decode cL_law 547 = .ok (.iload_n 3, 1) := by decide +kernel
theorem dL_law_548 : decode cL_law 548 = .ok (.iconst 1, 1) := by decide +kernel
theorem dL_law_549 : decode cL_law 549 = .ok (.iadd, 1) := by decide +kernel
theorem dL_law_550 : decode cL_law 550 = .ok (.iaload, 1) := by decide +kernel
theorem dL_law_551 : decode cL_law 551 = .ok (.invokevirtual 86, 3) := by decide +kernel
theorem dL_law_554 : decode cL_law 554 = .ok (.if_icmp .eq 110, 3) := by decide +kernel
theorem dL_law_557 : decode cL_law 557 = .ok (.iconst 0, 1) := by decide +kernel
theorem dL_law_558 : decode cL_law 558 = .ok (.ireturn, 1) := by decide +kernel
theorem dL_law_559 : decode cL_law 559 = .ok (.aload_n 1, 1) := by decide +kernel
theorem dL_law_560 : decode cL_law 560 = .ok (.aload_n 0, 1) := by decide +kernel
theorem dL_law_561 : decode cL_law 561 = .ok (.iload_n 3, 1) := by decide +kernel
theorem dL_law_562 : decode cL_law 562 = .ok (.iconst 1, 1) := by decide +kernel
theorem dL_law_563 : decode cL_law 563 = .ok (.iadd, 1) := by decide +kernel
theorem dL_law_564 : decode cL_law 564 = .ok (.iaload, 1) := by decide +kernel
theorem dL_law_565 : decode cL_law 565 = .ok (.aload_n 0, 1) := by decide +kernel
theorem dL_law_566 : decode cL_law 566 = .ok (.iload_n 3, 1) := by decide +kernel
theorem dL_law_567 : decode cL_law 567 = .ok (.iconst 2, 1) := by decide +kernel
theorem dL_law_568 : decode cL_law 568 = .ok (.iadd, 1) := by decide +kernel
theorem dL_law_569 : decode cL_law 569 = .ok (.iaload, 1) := by decide +kernel
theorem dL_law_570 : decode cL_law 570 = .ok (.invokevirtual 87, 3) := by decide +kernel
theorem dL_law_573 : decode cL_law 573 = .ok (.aload_n 2, 1) := by decide +kernel
theorem dL_law_574 : decode cL_law 574 = .ok (.aload_n 0, 1) := by decide +kernel
theorem dL_law_575 : decode cL_law 575 = .ok (.iload_n 3, 1) := by decide +kernel
theorem dL_law_576 : decode cL_law 576 = .ok (.iconst 1, 1) := by decide +kernel
theorem dL_law_577 : decode cL_law 577 = .ok (.iadd, 1) := by decide +kernel
theorem dL_law_578 : decode cL_law 578 = .ok (.iaload, 1) := by decide +kernel
theorem dL_law_579 : decode cL_law 579 = .ok (.aload_n 0, 1) := by decide +kernel
theorem dL_law_580 : decode cL_law 580 = .ok (.iload_n 3, 1) := by decide +kernel
theorem dL_law_581 : decode cL_law 581 = .ok (.iconst 2, 1) := by decide +kernel
theorem dL_law_582 : decode cL_law 582 = .ok (.iadd, 1) := by decide +kernel
theorem dL_law_583 : decode cL_law 583 = .ok (.iaload, 1) := by decide +kernel
theorem dL_law_584 : decode cL_law 584 = .ok (.invokevirtual 91, 3) := by decide +kernel
theorem dL_law_587 : decode cL_law 587 = .ok (.if_icmp .eq 77, 3) := by decide +kernel
theorem dL_law_590 : decode cL_law 590 = .ok (.iconst 0, 1) := by decide +kernel
theorem dL_law_591 : decode cL_law 591 = .ok (.ireturn, 1) := by decide +kernel
theorem dL_law_592 : decode cL_law 592 = .ok (.aload_n 1, 1) := by decide +kernel
theorem dL_law_593 : decode cL_law 593 = .ok (.aload_n 0, 1) := by decide +kernel
theorem dL_law_594 : decode cL_law 594 = .ok (.iload_n 3, 1) := by decide +kernel
theorem dL_law_595 : decode cL_law 595 = .ok (.iconst 1, 1) := by decide +kernel
theorem dL_law_596 : decode cL_law 596 = .ok (.iadd, 1) := by decide +kernel
theorem dL_law_597 : decode cL_law 597 = .ok (.iaload, 1) := by decide +kernel
theorem dL_law_598 : decode cL_law 598 = .ok (.invokevirtual 92, 3) := by decide +kernel
theorem dL_law_601 : decode cL_law 601 = .ok (.aload_n 2, 1) := by decide +kernel
theorem dL_law_602 : decode cL_law 602 = .ok (.aload_n 0, 1) := by decide +kernel
theorem dL_law_603 : decode cL_law 603 = .ok (.iload_n 3, 1) := by decide +kernel
theorem dL_law_604 : decode cL_law 604 = .ok (.iconst 1, 1) := by decide +kernel
theorem dL_law_605 : decode cL_law 605 = .ok (.iadd, 1) := by decide +kernel
theorem dL_law_606 : decode cL_law 606 = .ok (.iaload, 1) := by decide +kernel
theorem dL_law_607 : decode cL_law 607 = .ok (.invokevirtual 95, 3) := by decide +kernel
theorem dL_law_610 : decode cL_law 610 = .ok (.if_icmp .eq 54, 3) := by decide +kernel
theorem dL_law_613 : decode cL_law 613 = .ok (.iconst 0, 1) := by decide +kernel
theorem dL_law_614 : decode cL_law 614 = .ok (.ireturn, 1) := by decide +kernel
theorem dL_law_615 : decode cL_law 615 = .ok (.aload_n 1, 1) := by decide +kernel
theorem dL_law_616 : decode cL_law 616 = .ok (.invokevirtual 96, 3) := by decide +kernel
theorem dL_law_619 : decode cL_law 619 = .ok (.aload_n 2, 1) := by decide +kernel
theorem dL_law_620 : decode cL_law 620 = .ok (.invokevirtual 99, 3) := by decide +kernel
theorem dL_law_623 : decode cL_law 623 = .ok (.if_icmp .eq 41, 3) := by decide +kernel
theorem dL_law_626 : decode cL_law 626 = .ok (.iconst 0, 1) := by decide +kernel
theorem dL_law_627 : decode cL_law 627 = .ok (.ireturn, 1) := by decide +kernel
theorem dL_law_628 : decode cL_law 628 = .ok (.aload_n 1, 1) := by decide +kernel
theorem dL_law_629 : decode cL_law 629 = .ok (.aload_n 0, 1) := by decide +kernel
theorem dL_law_630 : decode cL_law 630 = .ok (.iload_n 3, 1) := by decide +kernel
theorem dL_law_631 : decode cL_law 631 = .ok (.iconst 1, 1) := by decide +kernel
theorem dL_law_632 : decode cL_law 632 = .ok (.iadd, 1) := by decide +kernel
theorem dL_law_633 : decode cL_law 633 = .ok (.iaload, 1) := by decide +kernel
theorem dL_law_634 : decode cL_law 634 = .ok (.invokevirtual 100, 3) := by decide +kernel
theorem dL_law_637 : decode cL_law 637 = .ok (.aload_n 2, 1) := by decide +kernel
theorem dL_law_638 : decode cL_law 638 = .ok (.aload_n 0, 1) := by decide +kernel
theorem dL_law_639 : decode cL_law 639 = .ok (.iload_n 3, 1) := by decide +kernel
theorem dL_law_640 : decode cL_law 640 = .ok (.iconst 1, 1) := by decide +kernel
theorem dL_law_641 : decode cL_law 641 = .ok (.iadd, 1) := by decide +kernel
theorem dL_law_642 : decode cL_law 642 = .ok (.iaload, 1) := by decide +kernel
theorem dL_law_643 : decode cL_law 643 = .ok (.invokevirtual 103, 3) := by decide +kernel
theorem dL_law_646 : decode cL_law 646 = .ok (.if_icmp .eq 18, 3) := by decide +kernel
theorem dL_law_649 : decode cL_law 649 = .ok (.iconst 0, 1) := by decide +kernel
theorem dL_law_650 : decode cL_law 650 = .ok (.ireturn, 1) := by decide +kernel
theorem dL_law_651 : decode cL_law 651 = .ok (.aload_n 1, 1) := by decide +kernel
theorem dL_law_652 : decode cL_law 652 = .ok (.invokevirtual 104, 3) := by decide +kernel
theorem dL_law_655 : decode cL_law 655 = .ok (.aload_n 2, 1) := by decide +kernel
theorem dL_law_656 : decode cL_law 656 = .ok (.invokevirtual 107, 3) := by decide +kernel
theorem dL_law_659 : decode cL_law 659 = .ok (.if_icmp .eq 5, 3) := by decide +kernel
theorem dL_law_662 : decode cL_law 662 = .ok (.iconst 0, 1) := by decide +kernel
theorem dL_law_663 : decode cL_law 663 = .ok (.ireturn, 1) := by decide +kernel
theorem dL_law_664 : decode cL_law 664 = .ok (.iinc 3 4, 3) := by decide +kernel
theorem dL_law_667 : decode cL_law 667 = .ok (.goto (-609), 3) := by decide +kernel
theorem dL_law_670 : decode cL_law 670 = .ok (.iconst 1, 1) := by decide +kernel
theorem dL_law_671 : decode cL_law 671 = .ok (.ireturn, 1) := by decide +kernel
