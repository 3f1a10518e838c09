theorem dX0_init_0_k : decode cX0_init 0 = .ok (.aload_n 0, 1) ∧ decode cX0_init 1 = .ok (.invokespecial 3, 3) ∧ decode cX0_init 4 = .ok (.aload_n 0, 1) ∧ decode cX0_init 5 = .ok (.sipush 400, 3) ∧ decode cX0_init 8 = .ok (.newarray .int, 2) ∧ decode cX0_init 10 = .ok (.putfield 9, 3) ∧ decode cX0_init 13 = .ok (.aload_n 0, 1) ∧ decode cX0_init 14 = .ok (.sipush 256, 3) ∧ decode cX0_init 17 = .ok (.newarray .int, 2) ∧ decode cX0_init 19 = .ok (.putfield 15, 3) ∧ decode cX0_init 22 = .ok (.aload_n 0, 1) ∧ decode cX0_init 23 = .ok (.iconst 0, 1) ∧ decode cX0_init 24 = .ok (.putfield 18, 3) ∧ decode cX0_init 27 = .ok (.aload_n 0, 1) ∧ decode cX0_init 28 = .ok (.iconst 0, 1) ∧ decode cX0_init 29 = .ok (.putfield 22, 3) := by decide +kernel
theorem dX0_init_0 : decode cX0_init 0 = .ok (.aload_n 0, 1) := dX0_init_0_k.1
theorem dX0_init_1 : decode cX0_init 1 = .ok (.invokespecial 3, 3) := dX0_init_0_k.2.1
theorem dX0_init_4 : decode cX0_init 4 = .ok (.aload_n 0, 1) := dX0_init_0_k.2.2.1
theorem dX0_init_5 : decode cX0_init 5 = .ok (.sipush 400, 3) := dX0_init_0_k.2.2.2.1
theorem dX0_init_8 : decode cX0_init 8 = .ok (.newarray .int, 2) := dX0_init_0_k.2.2.2.2.1
theorem dX0_init_10 : decode cX0_init 10 = .ok (.putfield 9, 3) := dX0_init_0_k.2.2.2.2.2.1
theorem dX0_init_13 : decode cX0_init 13 = .ok (.aload_n 0, 1) := dX0_init_0_k.2.2.2.2.2.2.1
theorem dX0_init_14 : decode cX0_init 14 = .ok (.sipush 256, 3) := dX0_init_0_k.2.2.2.2.2.2.2.1
theorem dX0_init_17 : decode cX0_init 17 = .ok (.newarray .int, 2) := dX0_init_0_k.2.2.2.2.2.2.2.2.1
theorem dX0_init_19 : decode cX0_init 19 = .ok (.putfield 15, 3) := dX0_init_0_k.2.2.2.2.2.2.2.2.2.1
theorem dX0_init_22 : decode cX0_init 22 = .ok (.aload_n 0, 1) := dX0_init_0_k.2.2.2.2.2.2.2.2.2.2.1
theorem dX0_init_23 : decode cX0_init 23 = .ok (.iconst 0, 1) := dX0_init_0_k.2.2.2.2.2.2.2.2.2.2.2.1
theorem dX0_init_24 : decode cX0_init 24 = .ok (.putfield 18, 3) := dX0_init_0_k.2.2.2.2.2.2.2.2.2.2.2.2.1
theorem dX0_init_27 : decode cX0_init 27 = .ok (.aload_n 0, 1) := dX0_init_0_k.2.2.2.2.2.2.2.2.2.2.2.2.2.1
theorem dX0_init_28 : decode cX0_init 28 = .ok (.iconst 0, 1) := dX0_init_0_k.2.2.2.2.2.2.2.2.2.2.2.2.2.2.1
theorem dX0_init_29 : decode cX0_init 29 = .ok (.putfield 22, 3) := dX0_init_0_k.2.2.2.2.2.2.2.2.2.2.2.2.2.2.2
theorem dX0_init_32_k : decode cX0_init 32 = .ok (.aload_n 0, 1) ∧ decode cX0_init 33 = .ok (.iconst 0, 1) ∧ decode cX0_init 34 = .ok (.putfield 25, 3) ∧ decode cX0_init 37 = .ok (.return_, 1) := by decide +kernel
theorem dX0_init_32 : decode cX0_init 32 = .ok (.aload_n 0, 1) := dX0_init_32_k.1
theorem dX0_init_33 : decode cX0_init 33 = .ok (.iconst 0, 1) := dX0_init_32_k.2.1
theorem dX0_init_34 : decode cX0_init 34 = .ok (.putfield 25, 3) := dX0_init_32_k.2.2.1
theorem dX0_init_37 : decode cX0_init 37 = .ok (.return_, 1) := dX0_init_32_k.2.2.2
theorem dX0_load_0_k : decode cX0_load 0 = .ok (.aload_n 0, 1) ∧ decode cX0_load 1 = .ok (.iconst 0, 1) ∧ decode cX0_load 2 = .ok (.iload_n 2, 1) ∧ decode cX0_load 3 = .ok (.sipush 400, 3) ∧ decode cX0_load 6 = .ok (.invokestatic 28, 3) ∧ decode cX0_load 9 = .ok (.invokestatic 34, 3) ∧ decode cX0_load 12 = .ok (.putfield 18, 3) ∧ decode cX0_load 15 = .ok (.aload_n 1, 1) ∧ decode cX0_load 16 = .ok (.getfield 37, 3) ∧ decode cX0_load 19 = .ok (.aload_n 0, 1) ∧ decode cX0_load 20 = .ok (.getfield 18, 3) ∧ decode cX0_load 23 = .ok (.isub, 1) ∧ decode cX0_load 24 = .ok (.istore_n 3, 1) ∧ decode cX0_load 25 = .ok (.iconst 0, 1) ∧ decode cX0_load 26 = .ok (.istore 4, 2) ∧ decode cX0_load 28 = .ok (.iload 4, 2) := by decide +kernel
theorem dX0_load_0 : decode cX0_load 0 = .ok (.aload_n 0, 1) := dX0_load_0_k.1
theorem dX0_load_1 : decode cX0_load 1 = .ok (.iconst 0, 1) := dX0_load_0_k.2.1
theorem dX0_load_2 : decode cX0_load 2 = .ok (.iload_n 2, 1) := dX0_load_0_k.2.2.1
theorem dX0_load_3 : decode cX0_load 3 = .ok (.sipush 400, 3) := dX0_load_0_k.2.2.2.1
theorem dX0_load_6 : decode cX0_load 6 = .ok (.invokestatic 28, 3) := dX0_load_0_k.2.2.2.2.1
theorem dX0_load_9 : decode cX0_load 9 = .ok (.invokestatic 34, 3) := dX0_load_0_k.2.2.2.2.2.1
theorem dX0_load_12 : decode cX0_load 12 = .ok (.putfield 18, 3) := dX0_load_0_k.2.2.2.2.2.2.1
theorem dX0_load_15 : decode cX0_load 15 = .ok (.aload_n 1, 1) := dX0_load_0_k.2.2.2.2.2.2.2.1
theorem dX0_load_16 : decode cX0_load 16 = .ok (.getfield 37, 3) := dX0_load_0_k.2.2.2.2.2.2.2.2.1
theorem dX0_load_19 : decode cX0_load 19 = .ok (.aload_n 0, 1) := dX0_load_0_k.2.2.2.2.2.2.2.2.2.1
theorem dX0_load_20 : decode cX0_load 20 = .ok (.getfield 18, 3) := dX0_load_0_k.2.2.2.2.2.2.2.2.2.2.1
theorem dX0_load_23 : decode cX0_load 23 = .ok (.isub, 1) := dX0_load_0_k.2.2.2.2.2.2.2.2.2.2.2.1
theorem dX0_load_24 : decode cX0_load 24 = .ok (.istore_n 3, 1) := dX0_load_0_k.2.2.2.2.2.2.2.2.2.2.2.2.1
theorem dX0_load_25 : decode cX0_load 25 = .ok (.iconst 0, 1) := dX0_load_0_k.2.2.2.2.2.2.2.2.2.2.2.2.2.1
theorem dX0_load_26 : decode cX0_load 26 = .ok (.istore 4, 2) := dX0_load_0_k.2.2.2.2.2.2.2.2.2.2.2.2.2.2.1
theorem dX0_load_28 : decode cX0_load 28 = .ok (.iload 4, 2) := dX0_load_0_k.2.2.2.2.2.2.2.2.2.2.2.2.2.2.2
theorem dX0_load_30_k : decode cX0_load 30 = .ok (.aload_n 0, 1) ∧ decode cX0_load 31 = .ok (.getfield 18, 3) ∧ decode cX0_load 34 = .ok (.if_icmp .ge 32, 3) ∧ decode cX0_load 37 = .ok (.iload 4, 2) ∧ decode cX0_load 39 = .ok (.sipush 400, 3) ∧ decode cX0_load 42 = .ok (.if_icmp .ge 24, 3) ∧ decode cX0_load 45 = .ok (.aload_n 0, 1) ∧ decode cX0_load 46 = .ok (.getfield 9, 3) ∧ decode cX0_load 49 = .ok (.iload 4, 2) ∧ decode cX0_load 51 = .ok (.aload_n 1, 1) ∧ decode cX0_load 52 = .ok (.iload_n 3, 1) ∧ decode cX0_load 53 = .ok (.iload 4, 2) ∧ decode cX0_load 55 = .ok (.iadd, 1) ∧ decode cX0_load 56 = .ok (.invokevirtual 40, 3) ∧ decode cX0_load 59 = .ok (.iastore, 1) ∧ decode cX0_load 60 = .ok (.iinc 4 1, 3) := by decide +kernel
theorem dX0_load_30 : decode cX0_load 30 = .ok (.aload_n 0, 1) := dX0_load_30_k.1
theorem dX0_load_31 : decode cX0_load 31 = .ok (.getfield 18, 3) := dX0_load_30_k.2.1
theorem dX0_load_34 : decode cX0_load 34 = .ok (.if_icmp .ge 32, 3) := dX0_load_30_k.2.2.1
theorem dX0_load_37 : decode cX0_load 37 = .ok (.iload 4, 2) := dX0_load_30_k.2.2.2.1
theorem dX0_load_39 : decode cX0_load 39 = .ok (.sipush 400, 3) := dX0_load_30_k.2.2.2.2.1
theorem dX0_load_42 : decode cX0_load 42 = .ok (.if_icmp .ge 24, 3) := dX0_load_30_k.2.2.2.2.2.1
theorem dX0_load_45 : decode cX0_load 45 = .ok (.aload_n 0, 1) := dX0_load_30_k.2.2.2.2.2.2.1
theorem dX0_load_46 : decode cX0_load 46 = .ok (.getfield 9, 3) := dX0_load_30_k.2.2.2.2.2.2.2.1
theorem dX0_load_49 : decode cX0_load 49 = .ok (.iload 4, 2) := dX0_load_30_k.2.2.2.2.2.2.2.2.1
theorem dX0_load_51 : decode cX0_load 51 = .ok (.aload_n 1, 1) := dX0_load_30_k.2.2.2.2.2.2.2.2.2.1
theorem dX0_load_52 : decode cX0_load 52 = .ok (.iload_n 3, 1) := dX0_load_30_k.2.2.2.2.2.2.2.2.2.2.1
theorem dX0_load_53 : decode cX0_load 53 = .ok (.iload 4, 2) := dX0_load_30_k.2.2.2.2.2.2.2.2.2.2.2.1
theorem dX0_load_55 : decode cX0_load 55 = .ok (.iadd, 1) := dX0_load_30_k.2.2.2.2.2.2.2.2.2.2.2.2.1
theorem dX0_load_56 : decode cX0_load 56 = .ok (.invokevirtual 40, 3) := dX0_load_30_k.2.2.2.2.2.2.2.2.2.2.2.2.2.1
theorem dX0_load_59 : decode cX0_load 59 = .ok (.iastore, 1) := dX0_load_30_k.2.2.2.2.2.2.2.2.2.2.2.2.2.2.1
theorem dX0_load_60 : decode cX0_load 60 = .ok (.iinc 4 1, 3) := dX0_load_30_k.2.2.2.2.2.2.2.2.2.2.2.2.2.2.2
theorem dX0_load_63_k : decode cX0_load 63 = .ok (.goto (-35), 3) ∧ decode cX0_load 66 = .ok (.return_, 1) := by decide +kernel
theorem dX0_load_63 : decode cX0_load 63 = .ok (.goto (-35), 3) := dX0_load_63_k.1
theorem dX0_load_66 : decode cX0_load 66 = .ok (.return_, 1) := dX0_load_63_k.2
theorem dX0_measure_0_k : decode cX0_measure 0 = .ok (.iload_n 1, 1) ∧ decode cX0_measure 1 = .ok (.ifCond .ne 10, 3) ∧ decode cX0_measure 4 = .ok (.aload_n 0, 1) ∧ decode cX0_measure 5 = .ok (.invokevirtual 44, 3) ∧ decode cX0_measure 8 = .ok (.goto 19, 3) ∧ decode cX0_measure 11 = .ok (.iload_n 1, 1) ∧ decode cX0_measure 12 = .ok (.iconst 1, 1) ∧ decode cX0_measure 13 = .ok (.if_icmp .ne 10, 3) ∧ decode cX0_measure 16 = .ok (.aload_n 0, 1) ∧ decode cX0_measure 17 = .ok (.invokevirtual 47, 3) ∧ decode cX0_measure 20 = .ok (.goto 7, 3) ∧ decode cX0_measure 23 = .ok (.aload_n 0, 1) ∧ decode cX0_measure 24 = .ok (.invokevirtual 50, 3) ∧ decode cX0_measure 27 = .ok (.return_, 1) := by decide +kernel
theorem dX0_measure_0 : decode cX0_measure 0 = .ok (.iload_n 1, 1) := dX0_measure_0_k.1
theorem dX0_measure_1 : decode cX0_measure 1 = .ok (.ifCond .ne 10, 3) := dX0_measure_0_k.2.1
theorem dX0_measure_4 : decode cX0_measure 4 = .ok (.aload_n 0, 1) := dX0_measure_0_k.2.2.1
theorem dX0_measure_5 : decode cX0_measure 5 = .ok (.invokevirtual 44, 3) := dX0_measure_0_k.2.2.2.1
theorem dX0_measure_8 : decode cX0_measure 8 = .ok (.goto 19, 3) := dX0_measure_0_k.2.2.2.2.1
theorem dX0_measure_11 : decode cX0_measure 11 = .ok (.iload_n 1, 1) := dX0_measure_0_k.2.2.2.2.2.1
theorem dX0_measure_12 : decode cX0_measure 12 = .ok (.iconst 1, 1) := dX0_measure_0_k.2.2.2.2.2.2.1
theorem dX0_measure_13 : decode cX0_measure 13 = .ok (.if_icmp .ne 10, 3) := dX0_measure_0_k.2.2.2.2.2.2.2.1
theorem dX0_measure_16 : decode cX0_measure 16 = .ok (.aload_n 0, 1) := dX0_measure_0_k.2.2.2.2.2.2.2.2.1
theorem dX0_measure_17 : decode cX0_measure 17 = .ok (.invokevirtual 47, 3) := dX0_measure_0_k.2.2.2.2.2.2.2.2.2.1
theorem dX0_measure_20 : decode cX0_measure 20 = .ok (.goto 7, 3) := dX0_measure_0_k.2.2.2.2.2.2.2.2.2.2.1
theorem dX0_measure_23 : decode cX0_measure 23 = .ok (.aload_n 0, 1) := dX0_measure_0_k.2.2.2.2.2.2.2.2.2.2.2.1
theorem dX0_measure_24 : decode cX0_measure 24 = .ok (.invokevirtual 50, 3) := dX0_measure_0_k.2.2.2.2.2.2.2.2.2.2.2.2.1
theorem dX0_measure_27 : decode cX0_measure 27 = .ok (.return_, 1) := dX0_measure_0_k.2.2.2.2.2.2.2.2.2.2.2.2.2
theorem dX0_measureCommon_0_k : decode cX0_measureCommon 0 = .ok (.iconst 0, 1) ∧ decode cX0_measureCommon 1 = .ok (.istore_n 1, 1) ∧ decode cX0_measureCommon 2 = .ok (.iconst 0, 1) ∧ decode cX0_measureCommon 3 = .ok (.istore_n 2, 1) ∧ decode cX0_measureCommon 4 = .ok (.iload_n 2, 1) ∧ decode cX0_measureCommon 5 = .ok (.aload_n 0, 1) ∧ decode cX0_measureCommon 6 = .ok (.getfield 18, 3) ∧ decode cX0_measureCommon 9 = .ok (.if_icmp .ge 25, 3) ∧ decode cX0_measureCommon 12 = .ok (.iload_n 2, 1) ∧ decode cX0_measureCommon 13 = .ok (.sipush 400, 3) ∧ decode cX0_measureCommon 16 = .ok (.if_icmp .ge 18, 3) ∧ decode cX0_measureCommon 19 = .ok (.iload_n 1, 1) ∧ decode cX0_measureCommon 20 = .ok (.aload_n 0, 1) ∧ decode cX0_measureCommon 21 = .ok (.getfield 9, 3) ∧ decode cX0_measureCommon 24 = .ok (.iload_n 2, 1) ∧ decode cX0_measureCommon 25 = .ok (.iaload, 1) := by decide +kernel
theorem dX0_measureCommon_0 : decode cX0_measureCommon 0 = .ok (.iconst 0, 1) := dX0_measureCommon_0_k.1
theorem dX0_measureCommon_1 : decode cX0_measureCommon 1 = .ok (.istore_n 1, 1) := dX0_measureCommon_0_k.2.1
theorem dX0_measureCommon_2 : decode cX0_measureCommon 2 = .ok (.iconst 0, 1) := dX0_measureCommon_0_k.2.2.1
theorem dX0_measureCommon_3 : decode cX0_measureCommon 3 = .ok (.istore_n 2, 1) := dX0_measureCommon_0_k.2.2.2.1
theorem dX0_measureCommon_4 : decode cX0_measureCommon 4 = .ok (.iload_n 2, 1) := dX0_measureCommon_0_k.2.2.2.2.1
theorem dX0_measureCommon_5 : decode cX0_measureCommon 5 = .ok (.aload_n 0, 1) := dX0_measureCommon_0_k.2.2.2.2.2.1
theorem dX0_measureCommon_6 : decode cX0_measureCommon 6 = .ok (.getfield 18, 3) := dX0_measureCommon_0_k.2.2.2.2.2.2.1
theorem dX0_measureCommon_9 : decode cX0_measureCommon 9 = .ok (.if_icmp .ge 25, 3) := dX0_measureCommon_0_k.2.2.2.2.2.2.2.1
theorem dX0_measureCommon_12 : decode cX0_measureCommon 12 = .ok (.iload_n 2, 1) := dX0_measureCommon_0_k.2.2.2.2.2.2.2.2.1
theorem dX0_measureCommon_13 : decode cX0_measureCommon 13 = .ok (.sipush 400, 3) := dX0_measureCommon_0_k.2.2.2.2.2.2.2.2.2.1
theorem dX0_measureCommon_16 : decode cX0_measureCommon 16 = .ok (.if_icmp .ge 18, 3) := dX0_measureCommon_0_k.2.2.2.2.2.2.2.2.2.2.1
theorem dX0_measureCommon_19 : decode cX0_measureCommon 19 = .ok (.iload_n 1, 1) := dX0_measureCommon_0_k.2.2.2.2.2.2.2.2.2.2.2.1
theorem dX0_measureCommon_20 : decode cX0_measureCommon 20 = .ok (.aload_n 0, 1) := dX0_measureCommon_0_k.2.2.2.2.2.2.2.2.2.2.2.2.1
theorem dX0_measureCommon_21 : decode cX0_measureCommon 21 = .ok (.getfield 9, 3) := dX0_measureCommon_0_k.2.2.2.2.2.2.2.2.2.2.2.2.2.1
theorem dX0_measureCommon_24 : decode cX0_measureCommon 24 = .ok (.iload_n 2, 1) := dX0_measureCommon_0_k.2.2.2.2.2.2.2.2.2.2.2.2.2.2.1
theorem dX0_measureCommon_25 : decode cX0_measureCommon 25 = .ok (.iaload, 1) := dX0_measureCommon_0_k.2.2.2.2.2.2.2.2.2.2.2.2.2.2.2
theorem dX0_measureCommon_26_k : decode cX0_measureCommon 26 = .ok (.iadd, 1) ∧ decode cX0_measureCommon 27 = .ok (.istore_n 1, 1) ∧ decode cX0_measureCommon 28 = .ok (.iinc 2 1, 3) ∧ decode cX0_measureCommon 31 = .ok (.goto (-27), 3) ∧ decode cX0_measureCommon 34 = .ok (.aload_n 0, 1) ∧ decode cX0_measureCommon 35 = .ok (.iload_n 1, 1) ∧ decode cX0_measureCommon 36 = .ok (.aload_n 0, 1) ∧ decode cX0_measureCommon 37 = .ok (.getfield 18, 3) ∧ decode cX0_measureCommon 40 = .ok (.iload_n 1, 1) ∧ decode cX0_measureCommon 41 = .ok (.isub, 1) ∧ decode cX0_measureCommon 42 = .ok (.invokestatic 34, 3) ∧ decode cX0_measureCommon 45 = .ok (.putfield 22, 3) ∧ decode cX0_measureCommon 48 = .ok (.aload_n 0, 1) ∧ decode cX0_measureCommon 49 = .ok (.aload_n 0, 1) ∧ decode cX0_measureCommon 50 = .ok (.getfield 18, 3) ∧ decode cX0_measureCommon 53 = .ok (.putfield 25, 3) := by decide +kernel
theorem dX0_measureCommon_26 : decode cX0_measureCommon 26 = .ok (.iadd, 1) := dX0_measureCommon_26_k.1
theorem dX0_measureCommon_27 : decode cX0_measureCommon 27 = .ok (.istore_n 1, 1) := dX0_measureCommon_26_k.2.1
theorem dX0_measureCommon_28 : decode cX0_measureCommon 28 = .ok (.iinc 2 1, 3) := dX0_measureCommon_26_k.2.2.1
theorem dX0_measureCommon_31 : decode cX0_measureCommon 31 = .ok (.goto (-27), 3) := dX0_measureCommon_26_k.2.2.2.1
theorem dX0_measureCommon_34 : decode cX0_measureCommon 34 = .ok (.aload_n 0, 1) := dX0_measureCommon_26_k.2.2.2.2.1
theorem dX0_measureCommon_35 : decode cX0_measureCommon 35 = .ok (.iload_n 1, 1) := dX0_measureCommon_26_k.2.2.2.2.2.1
theorem dX0_measureCommon_36 : decode cX0_measureCommon 36 = .ok (.aload_n 0, 1) := dX0_measureCommon_26_k.2.2.2.2.2.2.1
theorem dX0_measureCommon_37 : decode cX0_measureCommon 37 = .ok (.getfield 18, 3) := dX0_measureCommon_26_k.2.2.2.2.2.2.2.1
theorem dX0_measureCommon_40 : decode cX0_measureCommon 40 = .ok (.iload_n 1, 1) := dX0_measureCommon_26_k.2.2.2.2.2.2.2.2.1
theorem dX0_measureCommon_41 : decode cX0_measureCommon 41 = .ok (.isub, 1) := dX0_measureCommon_26_k.2.2.2.2.2.2.2.2.2.1
theorem dX0_measureCommon_42 : decode cX0_measureCommon 42 = .ok (.invokestatic 34, 3) := dX0_measureCommon_26_k.2.2.2.2.2.2.2.2.2.2.1
theorem dX0_measureCommon_45 : decode cX0_measureCommon 45 = .ok (.putfield 22, 3) := dX0_measureCommon_26_k.2.2.2.2.2.2.2.2.2.2.2.1
theorem dX0_measureCommon_48 : decode cX0_measureCommon 48 = .ok (.aload_n 0, 1) := dX0_measureCommon_26_k.2.2.2.2.2.2.2.2.2.2.2.2.1
theorem dX0_measureCommon_49 : decode cX0_measureCommon 49 = .ok (.aload_n 0, 1) := dX0_measureCommon_26_k.2.2.2.2.2.2.2.2.2.2.2.2.2.1
theorem dX0_measureCommon_50 : decode cX0_measureCommon 50 = .ok (.getfield 18, 3) := dX0_measureCommon_26_k.2.2.2.2.2.2.2.2.2.2.2.2.2.2.1
theorem dX0_measureCommon_53 : decode cX0_measureCommon 53 = .ok (.putfield 25, 3) := dX0_measureCommon_26_k.2.2.2.2.2.2.2.2.2.2.2.2.2.2.2
theorem dX0_measureCommon_56 : decode cX0_measureCommon 56 = .ok (.return_, 1) := by decide +kernel
theorem dX0_measureCollision_0_k : decode cX0_measureCollision 0 = .ok (.aload_n 0, 1) ∧ decode cX0_measureCollision 1 = .ok (.iconst 0, 1) ∧ decode cX0_measureCollision 2 = .ok (.putfield 22, 3) ∧ decode cX0_measureCollision 5 = .ok (.aload_n 0, 1) ∧ decode cX0_measureCollision 6 = .ok (.iconst 0, 1) ∧ decode cX0_measureCollision 7 = .ok (.putfield 25, 3) ∧ decode cX0_measureCollision 10 = .ok (.iconst 0, 1) ∧ decode cX0_measureCollision 11 = .ok (.istore_n 1, 1) ∧ decode cX0_measureCollision 12 = .ok (.iload_n 1, 1) ∧ decode cX0_measureCollision 13 = .ok (.iconst 1, 1) ∧ decode cX0_measureCollision 14 = .ok (.iadd, 1) ∧ decode cX0_measureCollision 15 = .ok (.aload_n 0, 1) ∧ decode cX0_measureCollision 16 = .ok (.getfield 18, 3) ∧ decode cX0_measureCollision 19 = .ok (.if_icmp .ge 70, 3) ∧ decode cX0_measureCollision 22 = .ok (.iload_n 1, 1) ∧ decode cX0_measureCollision 23 = .ok (.iconst 1, 1) := by decide +kernel
theorem dX0_measureCollision_0 : decode cX0_measureCollision 0 = .ok (.aload_n 0, 1) := dX0_measureCollision_0_k.1
theorem dX0_measureCollision_1 : decode cX0_measureCollision 1 = .ok (.iconst 0, 1) := dX0_measureCollision_0_k.2.1
theorem dX0_measureCollision_2 : decode cX0_measureCollision 2 = .ok (.putfield 22, 3) := dX0_measureCollision_0_k.2.2.1
theorem dX0_measureCollision_5 : decode cX0_measureCollision 5 = .ok (.aload_n 0, 1) := dX0_measureCollision_0_k.2.2.2.1
theorem dX0_measureCollision_6 : decode cX0_measureCollision 6 = .ok (.iconst 0, 1) := dX0_measureCollision_0_k.2.2.2.2.1
theorem dX0_measureCollision_7 : decode cX0_measureCollision 7 = .ok (.putfield 25, 3) := dX0_measureCollision_0_k.2.2.2.2.2.1
theorem dX0_measureCollision_10 : decode cX0_measureCollision 10 = .ok (.iconst 0, 1) := dX0_measureCollision_0_k.2.2.2.2.2.2.1
theorem dX0_measureCollision_11 : decode cX0_measureCollision 11 = .ok (.istore_n 1, 1) := dX0_measureCollision_0_k.2.2.2.2.2.2.2.1
theorem dX0_measureCollision_12 : decode cX0_measureCollision 12 = .ok (.iload_n 1, 1) := dX0_measureCollision_0_k.2.2.2.2.2.2.2.2.1
theorem dX0_measureCollision_13 : decode cX0_measureCollision 13 = .ok (.iconst 1, 1) := dX0_measureCollision_0_k.2.2.2.2.2.2.2.2.2.1
theorem dX0_measureCollision_14 : decode cX0_measureCollision 14 = .ok (.iadd, 1) := dX0_measureCollision_0_k.2.2.2.2.2.2.2.2.2.2.1
theorem dX0_measureCollision_15 : decode cX0_measureCollision 15 = .ok (.aload_n 0, 1) := dX0_measureCollision_0_k.2.2.2.2.2.2.2.2.2.2.2.1
theorem dX0_measureCollision_16 : decode cX0_measureCollision 16 = .ok (.getfield 18, 3) := dX0_measureCollision_0_k.2.2.2.2.2.2.2.2.2.2.2.2.1
theorem dX0_measureCollision_19 : decode cX0_measureCollision 19 = .ok (.if_icmp .ge 70, 3) := dX0_measureCollision_0_k.2.2.2.2.2.2.2.2.2.2.2.2.2.1
theorem dX0_measureCollision_22 : decode cX0_measureCollision 22 = .ok (.iload_n 1, 1) := dX0_measureCollision_0_k.2.2.2.2.2.2.2.2.2.2.2.2.2.2.1
theorem dX0_measureCollision_23 : decode cX0_measureCollision 23 = .ok (.iconst 1, 1) := dX0_measureCollision_0_k.2.2.2.2.2.2.2.2.2.2.2.2.2.2.2
theorem dX0_measureCollision_24_k : decode cX0_measureCollision 24 = .ok (.iadd, 1) ∧ decode cX0_measureCollision 25 = .ok (.sipush 400, 3) ∧ decode cX0_measureCollision 28 = .ok (.if_icmp .ge 61, 3) ∧ decode cX0_measureCollision 31 = .ok (.aload_n 0, 1) ∧ decode cX0_measureCollision 32 = .ok (.getfield 9, 3) ∧ decode cX0_measureCollision 35 = .ok (.iload_n 1, 1) ∧ decode cX0_measureCollision 36 = .ok (.iaload, 1) ∧ decode cX0_measureCollision 37 = .ok (.aload_n 0, 1) ∧ decode cX0_measureCollision 38 = .ok (.getfield 9, 3) ∧ decode cX0_measureCollision 41 = .ok (.iload_n 1, 1) ∧ decode cX0_measureCollision 42 = .ok (.iconst 1, 1) ∧ decode cX0_measureCollision 43 = .ok (.iadd, 1) ∧ decode cX0_measureCollision 44 = .ok (.iaload, 1) ∧ decode cX0_measureCollision 45 = .ok (.if_icmp .ne 7, 3) ∧ decode cX0_measureCollision 48 = .ok (.iconst 2, 1) ∧ decode cX0_measureCollision 49 = .ok (.goto 4, 3) := by decide +kernel
theorem dX0_measureCollision_24 : decode cX0_measureCollision 24 = .ok (.iadd, 1) := dX0_measureCollision_24_k.1
theorem dX0_measureCollision_25 : decode cX0_measureCollision 25 = .ok (.sipush 400, 3) := dX0_measureCollision_24_k.2.1
theorem dX0_measureCollision_28 : decode cX0_measureCollision 28 = .ok (.if_icmp .ge 61, 3) := dX0_measureCollision_24_k.2.2.1
theorem dX0_measureCollision_31 : decode cX0_measureCollision 31 = .ok (.aload_n 0, 1) := dX0_measureCollision_24_k.2.2.2.1
theorem dX0_measureCollision_32 : decode cX0_measureCollision 32 = .ok (.getfield 9, 3) := dX0_measureCollision_24_k.2.2.2.2.1
theorem dX0_measureCollision_35 : decode cX0_measureCollision 35 = .ok (.iload_n 1, 1) := dX0_measureCollision_24_k.2.2.2.2.2.1
theorem dX0_measureCollision_36 : decode cX0_measureCollision 36 = .ok (.iaload, 1) := dX0_measureCollision_24_k.2.2.2.2.2.2.1
theorem dX0_measureCollision_37 : decode cX0_measureCollision 37 = .ok (.aload_n 0, 1) := dX0_measureCollision_24_k.2.2.2.2.2.2.2.1
theorem dX0_measureCollision_38 : decode cX0_measureCollision 38 = .ok (.getfield 9, 3) := dX0_measureCollision_24_k.2.2.2.2.2.2.2.2.1
theorem dX0_measureCollision_41 : decode cX0_measureCollision 41 = .ok (.iload_n 1, 1) := dX0_measureCollision_24_k.2.2.2.2.2.2.2.2.2.1
theorem dX0_measureCollision_42 : decode cX0_measureCollision 42 = .ok (.iconst 1, 1) := dX0_measureCollision_24_k.2.2.2.2.2.2.2.2.2.2.1
theorem dX0_measureCollision_43 : decode cX0_measureCollision 43 = .ok (.iadd, 1) := dX0_measureCollision_24_k.2.2.2.2.2.2.2.2.2.2.2.1
theorem dX0_measureCollision_44 : decode cX0_measureCollision 44 = .ok (.iaload, 1) := dX0_measureCollision_24_k.2.2.2.2.2.2.2.2.2.2.2.2.1
theorem dX0_measureCollision_45 : decode cX0_measureCollision 45 = .ok (.if_icmp .ne 7, 3) := dX0_measureCollision_24_k.2.2.2.2.2.2.2.2.2.2.2.2.2.1
theorem dX0_measureCollision_48 : decode cX0_measureCollision 48 = .ok (.iconst 2, 1) := dX0_measureCollision_24_k.2.2.2.2.2.2.2.2.2.2.2.2.2.2.1
theorem dX0_measureCollision_49 : decode cX0_measureCollision 49 = .ok (.goto 4, 3) := dX0_measureCollision_24_k.2.2.2.2.2.2.2.2.2.2.2.2.2.2.2
theorem dX0_measureCollision_52_k : decode cX0_measureCollision 52 = .ok (.iconst 3, 1) ∧ decode cX0_measureCollision 53 = .ok (.istore_n 2, 1) ∧ decode cX0_measureCollision 54 = .ok (.iload_n 1, 1) ∧ decode cX0_measureCollision 55 = .ok (.iload_n 2, 1) ∧ decode cX0_measureCollision 56 = .ok (.iadd, 1) ∧ decode cX0_measureCollision 57 = .ok (.istore_n 1, 1) ∧ decode cX0_measureCollision 58 = .ok (.iload_n 1, 1) ∧ decode cX0_measureCollision 59 = .ok (.aload_n 0, 1) ∧ decode cX0_measureCollision 60 = .ok (.getfield 18, 3) ∧ decode cX0_measureCollision 63 = .ok (.if_icmp .gt 23, 3) ∧ decode cX0_measureCollision 66 = .ok (.aload_n 0, 1) ∧ decode cX0_measureCollision 67 = .ok (.dup, 1) ∧ decode cX0_measureCollision 68 = .ok (.getfield 22, 3) ∧ decode cX0_measureCollision 71 = .ok (.iload_n 2, 1) ∧ decode cX0_measureCollision 72 = .ok (.iadd, 1) ∧ decode cX0_measureCollision 73 = .ok (.putfield 22, 3) := by decide +kernel
theorem dX0_measureCollision_52 : decode cX0_measureCollision 52 = .ok (.iconst 3, 1) := dX0_measureCollision_52_k.1
theorem dX0_measureCollision_53 : decode cX0_measureCollision 53 = .ok (.istore_n 2, 1) := dX0_measureCollision_52_k.2.1
theorem dX0_measureCollision_54 : decode cX0_measureCollision 54 = .ok (.iload_n 1, 1) := dX0_measureCollision_52_k.2.2.1
theorem dX0_measureCollision_55 : decode cX0_measureCollision 55 = .ok (.iload_n 2, 1) := dX0_measureCollision_52_k.2.2.2.1
theorem dX0_measureCollision_56 : decode cX0_measureCollision 56 = .ok (.iadd, 1) := dX0_measureCollision_52_k.2.2.2.2.1
theorem dX0_measureCollision_57 : decode cX0_measureCollision 57 = .ok (.istore_n 1, 1) := dX0_measureCollision_52_k.2.2.2.2.2.1
theorem dX0_measureCollision_58 : decode cX0_measureCollision 58 = .ok (.iload_n 1, 1) := dX0_measureCollision_52_k.2.2.2.2.2.2.1
theorem dX0_measureCollision_59 : decode cX0_measureCollision 59 = .ok (.aload_n 0, 1) := dX0_measureCollision_52_k.2.2.2.2.2.2.2.1
theorem dX0_measureCollision_60 : decode cX0_measureCollision 60 = .ok (.getfield 18, 3) := dX0_measureCollision_52_k.2.2.2.2.2.2.2.2.1
theorem dX0_measureCollision_63 : decode cX0_measureCollision 63 = .ok (.if_icmp .gt 23, 3) := dX0_measureCollision_52_k.2.2.2.2.2.2.2.2.2.1
theorem dX0_measureCollision_66 : decode cX0_measureCollision 66 = .ok (.aload_n 0, 1) := dX0_measureCollision_52_k.2.2.2.2.2.2.2.2.2.2.1
theorem dX0_measureCollision_67 : decode cX0_measureCollision 67 = .ok (.dup, 1) := dX0_measureCollision_52_k.2.2.2.2.2.2.2.2.2.2.2.1
theorem dX0_measureCollision_68 : decode cX0_measureCollision 68 = .ok (.getfield 22, 3) := dX0_measureCollision_52_k.2.2.2.2.2.2.2.2.2.2.2.2.1
theorem dX0_measureCollision_71 : decode cX0_measureCollision 71 = .ok (.iload_n 2, 1) := dX0_measureCollision_52_k.2.2.2.2.2.2.2.2.2.2.2.2.2.1
theorem dX0_measureCollision_72 : decode cX0_measureCollision 72 = .ok (.iadd, 1) := dX0_measureCollision_52_k.2.2.2.2.2.2.2.2.2.2.2.2.2.2.1
theorem dX0_measureCollision_73 : decode cX0_measureCollision 73 = .ok (.putfield 22, 3) := dX0_measureCollision_52_k.2.2.2.2.2.2.2.2.2.2.2.2.2.2.2
theorem dX0_measureCollision_76_k : decode cX0_measureCollision 76 = .ok (.aload_n 0, 1) ∧ decode cX0_measureCollision 77 = .ok (.dup, 1) ∧ decode cX0_measureCollision 78 = .ok (.getfield 25, 3) ∧ decode cX0_measureCollision 81 = .ok (.iconst 1, 1) ∧ decode cX0_measureCollision 82 = .ok (.iadd, 1) ∧ decode cX0_measureCollision 83 = .ok (.putfield 25, 3) ∧ decode cX0_measureCollision 86 = .ok (.goto (-74), 3) ∧ decode cX0_measureCollision 89 = .ok (.return_, 1) := by decide +kernel
theorem dX0_measureCollision_76 : decode cX0_measureCollision 76 = .ok (.aload_n 0, 1) := dX0_measureCollision_76_k.1
theorem dX0_measureCollision_77 : decode cX0_measureCollision 77 = .ok (.dup, 1) := dX0_measureCollision_76_k.2.1
theorem dX0_measureCollision_78 : decode cX0_measureCollision 78 = .ok (.getfield 25, 3) := dX0_measureCollision_76_k.2.2.1
theorem dX0_measureCollision_81 : decode cX0_measureCollision 81 = .ok (.iconst 1, 1) := dX0_measureCollision_76_k.2.2.2.1
theorem dX0_measureCollision_82 : decode cX0_measureCollision 82 = .ok (.iadd, 1) := dX0_measureCollision_76_k.2.2.2.2.1
theorem dX0_measureCollision_83 : decode cX0_measureCollision 83 = .ok (.putfield 25, 3) := dX0_measureCollision_76_k.2.2.2.2.2.1
theorem dX0_measureCollision_86 : decode cX0_measureCollision 86 = .ok (.goto (-74), 3) := dX0_measureCollision_76_k.2.2.2.2.2.2.1
theorem dX0_measureCollision_89 : decode cX0_measureCollision 89 = .ok (.return_, 1) := dX0_measureCollision_76_k.2.2.2.2.2.2.2
theorem dX0_measureFollow_0_k : decode cX0_measureFollow 0 = .ok (.iconst 0, 1) ∧ decode cX0_measureFollow 1 = .ok (.istore_n 1, 1) ∧ decode cX0_measureFollow 2 = .ok (.iconst 0, 1) ∧ decode cX0_measureFollow 3 = .ok (.istore_n 2, 1) ∧ decode cX0_measureFollow 4 = .ok (.iconst 0, 1) ∧ decode cX0_measureFollow 5 = .ok (.istore_n 3, 1) ∧ decode cX0_measureFollow 6 = .ok (.iconst 0, 1) ∧ decode cX0_measureFollow 7 = .ok (.istore 4, 2) ∧ decode cX0_measureFollow 9 = .ok (.iload 4, 2) ∧ decode cX0_measureFollow 11 = .ok (.iconst 1, 1) ∧ decode cX0_measureFollow 12 = .ok (.iadd, 1) ∧ decode cX0_measureFollow 13 = .ok (.aload_n 0, 1) ∧ decode cX0_measureFollow 14 = .ok (.getfield 18, 3) ∧ decode cX0_measureFollow 17 = .ok (.if_icmp .ge 60, 3) ∧ decode cX0_measureFollow 20 = .ok (.iload 4, 2) ∧ decode cX0_measureFollow 22 = .ok (.iconst 1, 1) := by decide +kernel
theorem dX0_measureFollow_0 : decode cX0_measureFollow 0 = .ok (.iconst 0, 1) := dX0_measureFollow_0_k.1
theorem dX0_measureFollow_1 : decode cX0_measureFollow 1 = .ok (.istore_n 1, 1) := dX0_measureFollow_0_k.2.1
theorem dX0_measureFollow_2 : decode cX0_measureFollow 2 = .ok (.iconst 0, 1) := dX0_measureFollow_0_k.2.2.1
theorem dX0_measureFollow_3 : decode cX0_measureFollow 3 = .ok (.istore_n 2, 1) := dX0_measureFollow_0_k.2.2.2.1
theorem dX0_measureFollow_4 : decode cX0_measureFollow 4 = .ok (.iconst 0, 1) := dX0_measureFollow_0_k.2.2.2.2.1
theorem dX0_measureFollow_5 : decode cX0_measureFollow 5 = .ok (.istore_n 3, 1) := dX0_measureFollow_0_k.2.2.2.2.2.1
theorem dX0_measureFollow_6 : decode cX0_measureFollow 6 = .ok (.iconst 0, 1) := dX0_measureFollow_0_k.2.2.2.2.2.2.1
theorem dX0_measureFollow_7 : decode cX0_measureFollow 7 = .ok (.istore 4, 2) := dX0_measureFollow_0_k.2.2.2.2.2.2.2.1
theorem dX0_measureFollow_9 : decode cX0_measureFollow 9 = .ok (.iload 4, 2) := dX0_measureFollow_0_k.2.2.2.2.2.2.2.2.1
theorem dX0_measureFollow_11 : decode cX0_measureFollow 11 = .ok (.iconst 1, 1) := dX0_measureFollow_0_k.2.2.2.2.2.2.2.2.2.1
theorem dX0_measureFollow_12 : decode cX0_measureFollow 12 = .ok (.iadd, 1) := dX0_measureFollow_0_k.2.2.2.2.2.2.2.2.2.2.1
theorem dX0_measureFollow_13 : decode cX0_measureFollow 13 = .ok (.aload_n 0, 1) := dX0_measureFollow_0_k.2.2.2.2.2.2.2.2.2.2.2.1
theorem dX0_measureFollow_14 : decode cX0_measureFollow 14 = .ok (.getfield 18, 3) := dX0_measureFollow_0_k.2.2.2.2.2.2.2.2.2.2.2.2.1
theorem dX0_measureFollow_17 : decode cX0_measureFollow 17 = .ok (.if_icmp .ge 60, 3) := dX0_measureFollow_0_k.2.2.2.2.2.2.2.2.2.2.2.2.2.1
theorem dX0_measureFollow_20 : decode cX0_measureFollow 20 = .ok (.iload 4, 2) := dX0_measureFollow_0_k.2.2.2.2.2.2.2.2.2.2.2.2.2.2.1
theorem dX0_measureFollow_22 : decode cX0_measureFollow 22 = .ok (.iconst 1, 1) := dX0_measureFollow_0_k.2.2.2.2.2.2.2.2.2.2.2.2.2.2.2
theorem dX0_measureFollow_23_k : decode cX0_measureFollow 23 = .ok (.iadd, 1) ∧ decode cX0_measureFollow 24 = .ok (.sipush 400, 3) ∧ decode cX0_measureFollow 27 = .ok (.if_icmp .ge 50, 3) ∧ decode cX0_measureFollow 30 = .ok (.aload_n 0, 1) ∧ decode cX0_measureFollow 31 = .ok (.getfield 9, 3) ∧ decode cX0_measureFollow 34 = .ok (.iload 4, 2) ∧ decode cX0_measureFollow 36 = .ok (.iaload, 1) ∧ decode cX0_measureFollow 37 = .ok (.iconst 1, 1) ∧ decode cX0_measureFollow 38 = .ok (.if_icmp .ne 21, 3) ∧ decode cX0_measureFollow 41 = .ok (.iinc 1 1, 3) ∧ decode cX0_measureFollow 44 = .ok (.iload_n 2, 1) ∧ decode cX0_measureFollow 45 = .ok (.aload_n 0, 1) ∧ decode cX0_measureFollow 46 = .ok (.getfield 9, 3) ∧ decode cX0_measureFollow 49 = .ok (.iload 4, 2) ∧ decode cX0_measureFollow 51 = .ok (.iconst 1, 1) ∧ decode cX0_measureFollow 52 = .ok (.iadd, 1) := by decide +kernel
theorem dX0_measureFollow_23 : decode cX0_measureFollow 23 = .ok (.iadd, 1) := dX0_measureFollow_23_k.1
theorem dX0_measureFollow_24 : decode cX0_measureFollow 24 = .ok (.sipush 400, 3) := dX0_measureFollow_23_k.2.1
theorem dX0_measureFollow_27 : decode cX0_measureFollow 27 = .ok (.if_icmp .ge 50, 3) := dX0_measureFollow_23_k.2.2.1
theorem dX0_measureFollow_30 : decode cX0_measureFollow 30 = .ok (.aload_n 0, 1) := dX0_measureFollow_23_k.2.2.2.1
theorem dX0_measureFollow_31 : decode cX0_measureFollow 31 = .ok (.getfield 9, 3) := dX0_measureFollow_23_k.2.2.2.2.1
theorem dX0_measureFollow_34 : decode cX0_measureFollow 34 = .ok (.iload 4, 2) := dX0_measureFollow_23_k.2.2.2.2.2.1
theorem dX0_measureFollow_36 : decode cX0_measureFollow 36 = .ok (.iaload, 1) := dX0_measureFollow_23_k.2.2.2.2.2.2.1
theorem dX0_measureFollow_37 : decode cX0_measureFollow 37 = .ok (.iconst 1, 1) := dX0_measureFollow_23_k.2.2.2.2.2.2.2.1
theorem dX0_measureFollow_38 : decode cX0_measureFollow 38 = .ok (.if_icmp .ne 21, 3) := dX0_measureFollow_23_k.2.2.2.2.2.2.2.2.1
theorem dX0_measureFollow_41 : decode cX0_measureFollow 41 = .ok (.iinc 1 1, 3) := dX0_measureFollow_23_k.2.2.2.2.2.2.2.2.2.1
theorem dX0_measureFollow_44 : decode cX0_measureFollow 44 = .ok (.iload_n 2, 1) := dX0_measureFollow_23_k.2.2.2.2.2.2.2.2.2.2.1
theorem dX0_measureFollow_45 : decode cX0_measureFollow 45 = .ok (.aload_n 0, 1) := dX0_measureFollow_23_k.2.2.2.2.2.2.2.2.2.2.2.1
theorem dX0_measureFollow_46 : decode cX0_measureFollow 46 = .ok (.getfield 9, 3) := dX0_measureFollow_23_k.2.2.2.2.2.2.2.2.2.2.2.2.1
theorem dX0_measureFollow_49 : decode cX0_measureFollow 49 = .ok (.iload 4, 2) := dX0_measureFollow_23_k.2.2.2.2.2.2.2.2.2.2.2.2.2.1
theorem dX0_measureFollow_51 : decode cX0_measureFollow 51 = .ok (.iconst 1, 1) := dX0_measureFollow_23_k.2.2.2.2.2.2.2.2.2.2.2.2.2.2.1
theorem dX0_measureFollow_52 : decode cX0_measureFollow 52 = .ok (.iadd, 1) := dX0_measureFollow_23_k.2.2.2.2.2.2.2.2.2.2.2.2.2.2.2
theorem dX0_measureFollow_53_k : decode cX0_measureFollow 53 = .ok (.iaload, 1) ∧ decode cX0_measureFollow 54 = .ok (.iadd, 1) ∧ decode cX0_measureFollow 55 = .ok (.istore_n 2, 1) ∧ decode cX0_measureFollow 56 = .ok (.goto 15, 3) ∧ decode cX0_measureFollow 59 = .ok (.iload_n 3, 1) ∧ decode cX0_measureFollow 60 = .ok (.aload_n 0, 1) ∧ decode cX0_measureFollow 61 = .ok (.getfield 9, 3) ∧ decode cX0_measureFollow 64 = .ok (.iload 4, 2) ∧ decode cX0_measureFollow 66 = .ok (.iconst 1, 1) ∧ decode cX0_measureFollow 67 = .ok (.iadd, 1) ∧ decode cX0_measureFollow 68 = .ok (.iaload, 1) ∧ decode cX0_measureFollow 69 = .ok (.iadd, 1) ∧ decode cX0_measureFollow 70 = .ok (.istore_n 3, 1) ∧ decode cX0_measureFollow 71 = .ok (.iinc 4 1, 3) ∧ decode cX0_measureFollow 74 = .ok (.goto (-65), 3) ∧ decode cX0_measureFollow 77 = .ok (.aload_n 0, 1) := by decide +kernel
theorem dX0_measureFollow_53 : decode cX0_measureFollow 53 = .ok (.iaload, 1) := dX0_measureFollow_53_k.1
theorem dX0_measureFollow_54 : decode cX0_measureFollow 54 = .ok (.iadd, 1) := dX0_measureFollow_53_k.2.1
theorem dX0_measureFollow_55 : decode cX0_measureFollow 55 = .ok (.istore_n 2, 1) := dX0_measureFollow_53_k.2.2.1
theorem dX0_measureFollow_56 : decode cX0_measureFollow 56 = .ok (.goto 15, 3) := dX0_measureFollow_53_k.2.2.2.1
theorem dX0_measureFollow_59 : decode cX0_measureFollow 59 = .ok (.iload_n 3, 1) := dX0_measureFollow_53_k.2.2.2.2.1
theorem dX0_measureFollow_60 : decode cX0_measureFollow 60 = .ok (.aload_n 0, 1) := dX0_measureFollow_53_k.2.2.2.2.2.1
theorem dX0_measureFollow_61 : decode cX0_measureFollow 61 = .ok (.getfield 9, 3) := dX0_measureFollow_53_k.2.2.2.2.2.2.1
theorem dX0_measureFollow_64 : decode cX0_measureFollow 64 = .ok (.iload 4, 2) := dX0_measureFollow_53_k.2.2.2.2.2.2.2.1
theorem dX0_measureFollow_66 : decode cX0_measureFollow 66 = .ok (.iconst 1, 1) := dX0_measureFollow_53_k.2.2.2.2.2.2.2.2.1
theorem dX0_measureFollow_67 : decode cX0_measureFollow 67 = .ok (.iadd, 1) := dX0_measureFollow_53_k.2.2.2.2.2.2.2.2.2.1
theorem dX0_measureFollow_68 : decode cX0_measureFollow 68 = .ok (.iaload, 1) := dX0_measureFollow_53_k.2.2.2.2.2.2.2.2.2.2.1
theorem dX0_measureFollow_69 : decode cX0_measureFollow 69 = .ok (.iadd, 1) := dX0_measureFollow_53_k.2.2.2.2.2.2.2.2.2.2.2.1
theorem dX0_measureFollow_70 : decode cX0_measureFollow 70 = .ok (.istore_n 3, 1) := dX0_measureFollow_53_k.2.2.2.2.2.2.2.2.2.2.2.2.1
theorem dX0_measureFollow_71 : decode cX0_measureFollow 71 = .ok (.iinc 4 1, 3) := dX0_measureFollow_53_k.2.2.2.2.2.2.2.2.2.2.2.2.2.1
theorem dX0_measureFollow_74 : decode cX0_measureFollow 74 = .ok (.goto (-65), 3) := dX0_measureFollow_53_k.2.2.2.2.2.2.2.2.2.2.2.2.2.2.1
theorem dX0_measureFollow_77 : decode cX0_measureFollow 77 = .ok (.aload_n 0, 1) := dX0_measureFollow_53_k.2.2.2.2.2.2.2.2.2.2.2.2.2.2.2
theorem dX0_measureFollow_78_k : decode cX0_measureFollow 78 = .ok (.getfield 18, 3) ∧ decode cX0_measureFollow 81 = .ok (.iconst 1, 1) ∧ decode cX0_measureFollow 82 = .ok (.isub, 1) ∧ decode cX0_measureFollow 83 = .ok (.iload_n 1, 1) ∧ decode cX0_measureFollow 84 = .ok (.isub, 1) ∧ decode cX0_measureFollow 85 = .ok (.istore 4, 2) ∧ decode cX0_measureFollow 87 = .ok (.iload_n 2, 1) ∧ decode cX0_measureFollow 88 = .ok (.iload_n 1, 1) ∧ decode cX0_measureFollow 89 = .ok (.iload_n 2, 1) ∧ decode cX0_measureFollow 90 = .ok (.isub, 1) ∧ decode cX0_measureFollow 91 = .ok (.invokestatic 34, 3) ∧ decode cX0_measureFollow 94 = .ok (.istore 5, 2) ∧ decode cX0_measureFollow 96 = .ok (.aload_n 0, 1) ∧ decode cX0_measureFollow 97 = .ok (.iload_n 3, 1) ∧ decode cX0_measureFollow 98 = .ok (.iload 4, 2) ∧ decode cX0_measureFollow 100 = .ok (.iload_n 3, 1) := by decide +kernel
theorem dX0_measureFollow_78 : decode cX0_measureFollow 78 = .ok (.getfield 18, 3) := dX0_measureFollow_78_k.1
theorem dX0_measureFollow_81 : decode cX0_measureFollow 81 = .ok (.iconst 1, 1) := dX0_measureFollow_78_k.2.1
theorem dX0_measureFollow_82 : decode cX0_measureFollow 82 = .ok (.isub, 1) := dX0_measureFollow_78_k.2.2.1
theorem dX0_measureFollow_83 : decode cX0_measureFollow 83 = .ok (.iload_n 1, 1) := dX0_measureFollow_78_k.2.2.2.1
theorem dX0_measureFollow_84 : decode cX0_measureFollow 84 = .ok (.isub, 1) := dX0_measureFollow_78_k.2.2.2.2.1
theorem dX0_measureFollow_85 : decode cX0_measureFollow 85 = .ok (.istore 4, 2) := dX0_measureFollow_78_k.2.2.2.2.2.1
theorem dX0_measureFollow_87 : decode cX0_measureFollow 87 = .ok (.iload_n 2, 1) := dX0_measureFollow_78_k.2.2.2.2.2.2.1
theorem dX0_measureFollow_88 : decode cX0_measureFollow 88 = .ok (.iload_n 1, 1) := dX0_measureFollow_78_k.2.2.2.2.2.2.2.1
theorem dX0_measureFollow_89 : decode cX0_measureFollow 89 = .ok (.iload_n 2, 1) := dX0_measureFollow_78_k.2.2.2.2.2.2.2.2.1
theorem dX0_measureFollow_90 : decode cX0_measureFollow 90 = .ok (.isub, 1) := dX0_measureFollow_78_k.2.2.2.2.2.2.2.2.2.1
theorem dX0_measureFollow_91 : decode cX0_measureFollow 91 = .ok (.invokestatic 34, 3) := dX0_measureFollow_78_k.2.2.2.2.2.2.2.2.2.2.1
theorem dX0_measureFollow_94 : decode cX0_measureFollow 94 = .ok (.istore 5, 2) := dX0_measureFollow_78_k.2.2.2.2.2.2.2.2.2.2.2.1
theorem dX0_measureFollow_96 : decode cX0_measureFollow 96 = .ok (.aload_n 0, 1) := dX0_measureFollow_78_k.2.2.2.2.2.2.2.2.2.2.2.2.1
theorem dX0_measureFollow_97 : decode cX0_measureFollow 97 = .ok (.iload_n 3, 1) := dX0_measureFollow_78_k.2.2.2.2.2.2.2.2.2.2.2.2.2.1
theorem dX0_measureFollow_98 : decode cX0_measureFollow 98 = .ok (.iload 4, 2) := dX0_measureFollow_78_k.2.2.2.2.2.2.2.2.2.2.2.2.2.2.1
theorem dX0_measureFollow_100 : decode cX0_measureFollow 100 = .ok (.iload_n 3, 1) := dX0_measureFollow_78_k.2.2.2.2.2.2.2.2.2.2.2.2.2.2.2
theorem dX0_measureFollow_101_k : decode cX0_measureFollow 101 = .ok (.isub, 1) ∧ decode cX0_measureFollow 102 = .ok (.invokestatic 34, 3) ∧ decode cX0_measureFollow 105 = .ok (.putfield 22, 3) ∧ decode cX0_measureFollow 108 = .ok (.aload_n 0, 1) ∧ decode cX0_measureFollow 109 = .ok (.iload 4, 2) ∧ decode cX0_measureFollow 111 = .ok (.putfield 25, 3) ∧ decode cX0_measureFollow 114 = .ok (.iload 4, 2) ∧ decode cX0_measureFollow 116 = .ok (.ifCond .eq 17, 3) ∧ decode cX0_measureFollow 119 = .ok (.iload 5, 2) ∧ decode cX0_measureFollow 121 = .ok (.iload 4, 2) ∧ decode cX0_measureFollow 123 = .ok (.imul, 1) ∧ decode cX0_measureFollow 124 = .ok (.aload_n 0, 1) ∧ decode cX0_measureFollow 125 = .ok (.getfield 22, 3) ∧ decode cX0_measureFollow 128 = .ok (.iload_n 1, 1) ∧ decode cX0_measureFollow 129 = .ok (.imul, 1) ∧ decode cX0_measureFollow 130 = .ok (.if_icmp .le 14, 3) := by decide +kernel
theorem dX0_measureFollow_101 : decode cX0_measureFollow 101 = .ok (.isub, 1) := dX0_measureFollow_101_k.1
theorem dX0_measureFollow_102 : decode cX0_measureFollow 102 = .ok (.invokestatic 34, 3) := dX0_measureFollow_101_k.2.1
theorem dX0_measureFollow_105 : decode cX0_measureFollow 105 = .ok (.putfield 22, 3) := dX0_measureFollow_101_k.2.2.1
theorem dX0_measureFollow_108 : decode cX0_measureFollow 108 = .ok (.aload_n 0, 1) := dX0_measureFollow_101_k.2.2.2.1
theorem dX0_measureFollow_109 : decode cX0_measureFollow 109 = .ok (.iload 4, 2) := dX0_measureFollow_101_k.2.2.2.2.1
theorem dX0_measureFollow_111 : decode cX0_measureFollow 111 = .ok (.putfield 25, 3) := dX0_measureFollow_101_k.2.2.2.2.2.1
theorem dX0_measureFollow_114 : decode cX0_measureFollow 114 = .ok (.iload 4, 2) := dX0_measureFollow_101_k.2.2.2.2.2.2.1
theorem dX0_measureFollow_116 : decode cX0_measureFollow 116 = .ok (.ifCond .eq 17, 3) := dX0_measureFollow_101_k.2.2.2.2.2.2.2.1
theorem dX0_measureFollow_119 : decode cX0_measureFollow 119 = .ok (.iload 5, 2) := dX0_measureFollow_101_k.2.2.2.2.2.2.2.2.1
theorem dX0_measureFollow_121 : decode cX0_measureFollow 121 = .ok (.iload 4, 2) := dX0_measureFollow_101_k.2.2.2.2.2.2.2.2.2.1
theorem dX0_measureFollow_123 : decode cX0_measureFollow 123 = .ok (.imul, 1) := dX0_measureFollow_101_k.2.2.2.2.2.2.2.2.2.2.1
theorem dX0_measureFollow_124 : decode cX0_measureFollow 124 = .ok (.aload_n 0, 1) := dX0_measureFollow_101_k.2.2.2.2.2.2.2.2.2.2.2.1
theorem dX0_measureFollow_125 : decode cX0_measureFollow 125 = .ok (.getfield 22, 3) := dX0_measureFollow_101_k.2.2.2.2.2.2.2.2.2.2.2.2.1
theorem dX0_measureFollow_128 : decode cX0_measureFollow 128 = .ok (.iload_n 1, 1) := dX0_measureFollow_101_k.2.2.2.2.2.2.2.2.2.2.2.2.2.1
theorem dX0_measureFollow_129 : decode cX0_measureFollow 129 = .ok (.imul, 1) := dX0_measureFollow_101_k.2.2.2.2.2.2.2.2.2.2.2.2.2.2.1
theorem dX0_measureFollow_130 : decode cX0_measureFollow 130 = .ok (.if_icmp .le 14, 3) := dX0_measureFollow_101_k.2.2.2.2.2.2.2.2.2.2.2.2.2.2.2
theorem dX0_measureFollow_133_k : decode cX0_measureFollow 133 = .ok (.aload_n 0, 1) ∧ decode cX0_measureFollow 134 = .ok (.iload 5, 2) ∧ decode cX0_measureFollow 136 = .ok (.putfield 22, 3) ∧ decode cX0_measureFollow 139 = .ok (.aload_n 0, 1) ∧ decode cX0_measureFollow 140 = .ok (.iload_n 1, 1) ∧ decode cX0_measureFollow 141 = .ok (.putfield 25, 3) ∧ decode cX0_measureFollow 144 = .ok (.return_, 1) := by decide +kernel
theorem dX0_measureFollow_133 : decode cX0_measureFollow 133 = .ok (.aload_n 0, 1) := dX0_measureFollow_133_k.1
theorem dX0_measureFollow_134 : decode cX0_measureFollow 134 = .ok (.iload 5, 2) := dX0_measureFollow_133_k.2.1
theorem dX0_measureFollow_136 : decode cX0_measureFollow 136 = .ok (.putfield 22, 3) := dX0_measureFollow_133_k.2.2.1
theorem dX0_measureFollow_139 : decode cX0_measureFollow 139 = .ok (.aload_n 0, 1) := dX0_measureFollow_133_k.2.2.2.1
theorem dX0_measureFollow_140 : decode cX0_measureFollow 140 = .ok (.iload_n 1, 1) := dX0_measureFollow_133_k.2.2.2.2.1
theorem dX0_measureFollow_141 : decode cX0_measureFollow 141 = .ok (.putfield 25, 3) := dX0_measureFollow_133_k.2.2.2.2.2.1
theorem dX0_measureFollow_144 : decode cX0_measureFollow 144 = .ok (.return_, 1) := dX0_measureFollow_133_k.2.2.2.2.2.2
theorem dX0_holdsBy_0_k : decode cX0_holdsBy 0 = .ok (.iload_n 1, 1) ∧ decode cX0_holdsBy 1 = .ok (.iconst 1, 1) ∧ decode cX0_holdsBy 2 = .ok (.if_icmp .ne 37, 3) ∧ decode cX0_holdsBy 5 = .ok (.sipush 256, 3) ∧ decode cX0_holdsBy 8 = .ok (.aload_n 0, 1) ∧ decode cX0_holdsBy 9 = .ok (.getfield 22, 3) ∧ decode cX0_holdsBy 12 = .ok (.imul, 1) ∧ decode cX0_holdsBy 13 = .ok (.aload_n 0, 1) ∧ decode cX0_holdsBy 14 = .ok (.getfield 25, 3) ∧ decode cX0_holdsBy 17 = .ok (.sipush 512, 3) ∧ decode cX0_holdsBy 20 = .ok (.iconst 2, 1) ∧ decode cX0_holdsBy 21 = .ok (.iload_n 2, 1) ∧ decode cX0_holdsBy 22 = .ok (.imul, 1) ∧ decode cX0_holdsBy 23 = .ok (.bipush 16, 2) ∧ decode cX0_holdsBy 25 = .ok (.iload_n 2, 1) ∧ decode cX0_holdsBy 26 = .ok (.isub, 1) := by decide +kernel
theorem dX0_holdsBy_0 : decode cX0_holdsBy 0 = .ok (.iload_n 1, 1) := dX0_holdsBy_0_k.1
theorem dX0_holdsBy_1 : decode cX0_holdsBy 1 = .ok (.iconst 1, 1) := dX0_holdsBy_0_k.2.1
theorem dX0_holdsBy_2 : decode cX0_holdsBy 2 = .ok (.if_icmp .ne 37, 3) := dX0_holdsBy_0_k.2.2.1
theorem dX0_holdsBy_5 : decode cX0_holdsBy 5 = .ok (.sipush 256, 3) := dX0_holdsBy_0_k.2.2.2.1
theorem dX0_holdsBy_8 : decode cX0_holdsBy 8 = .ok (.aload_n 0, 1) := dX0_holdsBy_0_k.2.2.2.2.1
theorem dX0_holdsBy_9 : decode cX0_holdsBy 9 = .ok (.getfield 22, 3) := dX0_holdsBy_0_k.2.2.2.2.2.1
theorem dX0_holdsBy_12 : decode cX0_holdsBy 12 = .ok (.imul, 1) := dX0_holdsBy_0_k.2.2.2.2.2.2.1
theorem dX0_holdsBy_13 : decode cX0_holdsBy 13 = .ok (.aload_n 0, 1) := dX0_holdsBy_0_k.2.2.2.2.2.2.2.1
theorem dX0_holdsBy_14 : decode cX0_holdsBy 14 = .ok (.getfield 25, 3) := dX0_holdsBy_0_k.2.2.2.2.2.2.2.2.1
theorem dX0_holdsBy_17 : decode cX0_holdsBy 17 = .ok (.sipush 512, 3) := dX0_holdsBy_0_k.2.2.2.2.2.2.2.2.2.1
theorem dX0_holdsBy_20 : decode cX0_holdsBy 20 = .ok (.iconst 2, 1) := dX0_holdsBy_0_k.2.2.2.2.2.2.2.2.2.2.1
theorem dX0_holdsBy_21 : decode cX0_holdsBy 21 = .ok (.iload_n 2, 1) := dX0_holdsBy_0_k.2.2.2.2.2.2.2.2.2.2.2.1
theorem dX0_holdsBy_22 : decode cX0_holdsBy 22 = .ok (.imul, 1) := dX0_holdsBy_0_k.2.2.2.2.2.2.2.2.2.2.2.2.1
theorem dX0_holdsBy_23 : decode cX0_holdsBy 23 = .ok (.bipush 16, 2) := dX0_holdsBy_0_k.2.2.2.2.2.2.2.2.2.2.2.2.2.1
theorem dX0_holdsBy_25 : decode cX0_holdsBy 25 = .ok (.iload_n 2, 1) := dX0_holdsBy_0_k.2.2.2.2.2.2.2.2.2.2.2.2.2.2.1
theorem dX0_holdsBy_26 : decode cX0_holdsBy 26 = .ok (.isub, 1) := dX0_holdsBy_0_k.2.2.2.2.2.2.2.2.2.2.2.2.2.2.2
theorem dX0_holdsBy_27_k : decode cX0_holdsBy 27 = .ok (.imul, 1) ∧ decode cX0_holdsBy 28 = .ok (.iadd, 1) ∧ decode cX0_holdsBy 29 = .ok (.imul, 1) ∧ decode cX0_holdsBy 30 = .ok (.if_icmp .lt 7, 3) ∧ decode cX0_holdsBy 33 = .ok (.iconst 1, 1) ∧ decode cX0_holdsBy 34 = .ok (.goto 4, 3) ∧ decode cX0_holdsBy 37 = .ok (.iconst 0, 1) ∧ decode cX0_holdsBy 38 = .ok (.ireturn, 1) ∧ decode cX0_holdsBy 39 = .ok (.aload_n 0, 1) ∧ decode cX0_holdsBy 40 = .ok (.getfield 25, 3) ∧ decode cX0_holdsBy 43 = .ok (.iload_n 2, 1) ∧ decode cX0_holdsBy 44 = .ok (.imul, 1) ∧ decode cX0_holdsBy 45 = .ok (.bipush 16, 2) ∧ decode cX0_holdsBy 47 = .ok (.aload_n 0, 1) ∧ decode cX0_holdsBy 48 = .ok (.getfield 22, 3) ∧ decode cX0_holdsBy 51 = .ok (.imul, 1) := by decide +kernel
theorem dX0_holdsBy_27 : decode cX0_holdsBy 27 = .ok (.imul, 1) := dX0_holdsBy_27_k.1
theorem dX0_holdsBy_28 : decode cX0_holdsBy 28 = .ok (.iadd, 1) := dX0_holdsBy_27_k.2.1
theorem dX0_holdsBy_29 : decode cX0_holdsBy 29 = .ok (.imul, 1) := dX0_holdsBy_27_k.2.2.1
theorem dX0_holdsBy_30 : decode cX0_holdsBy 30 = .ok (.if_icmp .lt 7, 3) := dX0_holdsBy_27_k.2.2.2.1
theorem dX0_holdsBy_33 : decode cX0_holdsBy 33 = .ok (.iconst 1, 1) := dX0_holdsBy_27_k.2.2.2.2.1
theorem dX0_holdsBy_34 : decode cX0_holdsBy 34 = .ok (.goto 4, 3) := dX0_holdsBy_27_k.2.2.2.2.2.1
theorem dX0_holdsBy_37 : decode cX0_holdsBy 37 = .ok (.iconst 0, 1) := dX0_holdsBy_27_k.2.2.2.2.2.2.1
theorem dX0_holdsBy_38 : decode cX0_holdsBy 38 = .ok (.ireturn, 1) := dX0_holdsBy_27_k.2.2.2.2.2.2.2.1
theorem dX0_holdsBy_39 : decode cX0_holdsBy 39 = .ok (.aload_n 0, 1) := dX0_holdsBy_27_k.2.2.2.2.2.2.2.2.1
theorem dX0_holdsBy_40 : decode cX0_holdsBy 40 = .ok (.getfield 25, 3) := dX0_holdsBy_27_k.2.2.2.2.2.2.2.2.2.1
theorem dX0_holdsBy_43 : decode cX0_holdsBy 43 = .ok (.iload_n 2, 1) := dX0_holdsBy_27_k.2.2.2.2.2.2.2.2.2.2.1
theorem dX0_holdsBy_44 : decode cX0_holdsBy 44 = .ok (.imul, 1) := dX0_holdsBy_27_k.2.2.2.2.2.2.2.2.2.2.2.1
theorem dX0_holdsBy_45 : decode cX0_holdsBy 45 = .ok (.bipush 16, 2) := dX0_holdsBy_27_k.2.2.2.2.2.2.2.2.2.2.2.2.1
theorem dX0_holdsBy_47 : decode cX0_holdsBy 47 = .ok (.aload_n 0, 1) := dX0_holdsBy_27_k.2.2.2.2.2.2.2.2.2.2.2.2.2.1
theorem dX0_holdsBy_48 : decode cX0_holdsBy 48 = .ok (.getfield 22, 3) := dX0_holdsBy_27_k.2.2.2.2.2.2.2.2.2.2.2.2.2.2.1
theorem dX0_holdsBy_51 : decode cX0_holdsBy 51 = .ok (.imul, 1) := dX0_holdsBy_27_k.2.2.2.2.2.2.2.2.2.2.2.2.2.2.2
theorem dX0_holdsBy_52_k : decode cX0_holdsBy 52 = .ok (.if_icmp .lt 7, 3) ∧ decode cX0_holdsBy 55 = .ok (.iconst 1, 1) ∧ decode cX0_holdsBy 56 = .ok (.goto 4, 3) ∧ decode cX0_holdsBy 59 = .ok (.iconst 0, 1) ∧ decode cX0_holdsBy 60 = .ok (.ireturn, 1) := by decide +kernel
theorem dX0_holdsBy_52 : decode cX0_holdsBy 52 = .ok (.if_icmp .lt 7, 3) := dX0_holdsBy_52_k.1
theorem dX0_holdsBy_55 : decode cX0_holdsBy 55 = .ok (.iconst 1, 1) := dX0_holdsBy_52_k.2.1
theorem dX0_holdsBy_56 : decode cX0_holdsBy 56 = .ok (.goto 4, 3) := dX0_holdsBy_52_k.2.2.1
theorem dX0_holdsBy_59 : decode cX0_holdsBy 59 = .ok (.iconst 0, 1) := dX0_holdsBy_52_k.2.2.2.1
theorem dX0_holdsBy_60 : decode cX0_holdsBy 60 = .ok (.ireturn, 1) := dX0_holdsBy_52_k.2.2.2.2
theorem dX0_mostOften_0_k : decode cX0_mostOften 0 = .ok (.aload_n 0, 1) ∧ decode cX0_mostOften 1 = .ok (.getfield 15, 3) ∧ decode cX0_mostOften 4 = .ok (.iconst 0, 1) ∧ decode cX0_mostOften 5 = .ok (.invokestatic 53, 3) ∧ decode cX0_mostOften 8 = .ok (.iconst 1, 1) ∧ decode cX0_mostOften 9 = .ok (.iload_n 1, 1) ∧ decode cX0_mostOften 10 = .ok (.ishl, 1) ∧ decode cX0_mostOften 11 = .ok (.iconst 1, 1) ∧ decode cX0_mostOften 12 = .ok (.isub, 1) ∧ decode cX0_mostOften 13 = .ok (.sipush 255, 3) ∧ decode cX0_mostOften 16 = .ok (.iand, 1) ∧ decode cX0_mostOften 17 = .ok (.istore_n 2, 1) ∧ decode cX0_mostOften 18 = .ok (.iconst 0, 1) ∧ decode cX0_mostOften 19 = .ok (.istore_n 3, 1) ∧ decode cX0_mostOften 20 = .ok (.iconst 0, 1) ∧ decode cX0_mostOften 21 = .ok (.istore 4, 2) := by decide +kernel
theorem dX0_mostOften_0 : decode cX0_mostOften 0 = .ok (.aload_n 0, 1) := dX0_mostOften_0_k.1
theorem dX0_mostOften_1 : decode cX0_mostOften 1 = .ok (.getfield 15, 3) := dX0_mostOften_0_k.2.1
theorem dX0_mostOften_4 : decode cX0_mostOften 4 = .ok (.iconst 0, 1) := dX0_mostOften_0_k.2.2.1
theorem dX0_mostOften_5 : decode cX0_mostOften 5 = .ok (.invokestatic 53, 3) := dX0_mostOften_0_k.2.2.2.1
theorem dX0_mostOften_8 : decode cX0_mostOften 8 = .ok (.iconst 1, 1) := dX0_mostOften_0_k.2.2.2.2.1
theorem dX0_mostOften_9 : decode cX0_mostOften 9 = .ok (.iload_n 1, 1) := dX0_mostOften_0_k.2.2.2.2.2.1
theorem dX0_mostOften_10 : decode cX0_mostOften 10 = .ok (.ishl, 1) := dX0_mostOften_0_k.2.2.2.2.2.2.1
theorem dX0_mostOften_11 : decode cX0_mostOften 11 = .ok (.iconst 1, 1) := dX0_mostOften_0_k.2.2.2.2.2.2.2.1
theorem dX0_mostOften_12 : decode cX0_mostOften 12 = .ok (.isub, 1) := dX0_mostOften_0_k.2.2.2.2.2.2.2.2.1
theorem dX0_mostOften_13 : decode cX0_mostOften 13 = .ok (.sipush 255, 3) := dX0_mostOften_0_k.2.2.2.2.2.2.2.2.2.1
theorem dX0_mostOften_16 : decode cX0_mostOften 16 = .ok (.iand, 1) := dX0_mostOften_0_k.2.2.2.2.2.2.2.2.2.2.1
theorem dX0_mostOften_17 : decode cX0_mostOften 17 = .ok (.istore_n 2, 1) := dX0_mostOften_0_k.2.2.2.2.2.2.2.2.2.2.2.1
theorem dX0_mostOften_18 : decode cX0_mostOften 18 = .ok (.iconst 0, 1) := dX0_mostOften_0_k.2.2.2.2.2.2.2.2.2.2.2.2.1
theorem dX0_mostOften_19 : decode cX0_mostOften 19 = .ok (.istore_n 3, 1) := dX0_mostOften_0_k.2.2.2.2.2.2.2.2.2.2.2.2.2.1
theorem dX0_mostOften_20 : decode cX0_mostOften 20 = .ok (.iconst 0, 1) := dX0_mostOften_0_k.2.2.2.2.2.2.2.2.2.2.2.2.2.2.1
theorem dX0_mostOften_21 : decode cX0_mostOften 21 = .ok (.istore 4, 2) := dX0_mostOften_0_k.2.2.2.2.2.2.2.2.2.2.2.2.2.2.2
theorem dX0_mostOften_23_k : decode cX0_mostOften 23 = .ok (.iconst 0, 1) ∧ decode cX0_mostOften 24 = .ok (.istore 5, 2) ∧ decode cX0_mostOften 26 = .ok (.iload 5, 2) ∧ decode cX0_mostOften 28 = .ok (.aload_n 0, 1) ∧ decode cX0_mostOften 29 = .ok (.getfield 18, 3) ∧ decode cX0_mostOften 32 = .ok (.if_icmp .ge 62, 3) ∧ decode cX0_mostOften 35 = .ok (.iload 5, 2) ∧ decode cX0_mostOften 37 = .ok (.sipush 400, 3) ∧ decode cX0_mostOften 40 = .ok (.if_icmp .ge 54, 3) ∧ decode cX0_mostOften 43 = .ok (.iload_n 3, 1) ∧ decode cX0_mostOften 44 = .ok (.iconst 1, 1) ∧ decode cX0_mostOften 45 = .ok (.ishl, 1) ∧ decode cX0_mostOften 46 = .ok (.aload_n 0, 1) ∧ decode cX0_mostOften 47 = .ok (.getfield 9, 3) ∧ decode cX0_mostOften 50 = .ok (.iload 5, 2) ∧ decode cX0_mostOften 52 = .ok (.iaload, 1) := by decide +kernel
theorem dX0_mostOften_23 : decode cX0_mostOften 23 = .ok (.iconst 0, 1) := dX0_mostOften_23_k.1
theorem dX0_mostOften_24 : decode cX0_mostOften 24 = .ok (.istore 5, 2) := dX0_mostOften_23_k.2.1
theorem dX0_mostOften_26 : decode cX0_mostOften 26 = .ok (.iload 5, 2) := dX0_mostOften_23_k.2.2.1
theorem dX0_mostOften_28 : decode cX0_mostOften 28 = .ok (.aload_n 0, 1) := dX0_mostOften_23_k.2.2.2.1
theorem dX0_mostOften_29 : decode cX0_mostOften 29 = .ok (.getfield 18, 3) := dX0_mostOften_23_k.2.2.2.2.1
theorem dX0_mostOften_32 : decode cX0_mostOften 32 = .ok (.if_icmp .ge 62, 3) := dX0_mostOften_23_k.2.2.2.2.2.1
theorem dX0_mostOften_35 : decode cX0_mostOften 35 = .ok (.iload 5, 2) := dX0_mostOften_23_k.2.2.2.2.2.2.1
theorem dX0_mostOften_37 : decode cX0_mostOften 37 = .ok (.sipush 400, 3) := dX0_mostOften_23_k.2.2.2.2.2.2.2.1
theorem dX0_mostOften_40 : decode cX0_mostOften 40 = .ok (.if_icmp .ge 54, 3) := dX0_mostOften_23_k.2.2.2.2.2.2.2.2.1
theorem dX0_mostOften_43 : decode cX0_mostOften 43 = .ok (.iload_n 3, 1) := dX0_mostOften_23_k.2.2.2.2.2.2.2.2.2.1
theorem dX0_mostOften_44 : decode cX0_mostOften 44 = .ok (.iconst 1, 1) := dX0_mostOften_23_k.2.2.2.2.2.2.2.2.2.2.1
theorem dX0_mostOften_45 : decode cX0_mostOften 45 = .ok (.ishl, 1) := dX0_mostOften_23_k.2.2.2.2.2.2.2.2.2.2.2.1
theorem dX0_mostOften_46 : decode cX0_mostOften 46 = .ok (.aload_n 0, 1) := dX0_mostOften_23_k.2.2.2.2.2.2.2.2.2.2.2.2.1
theorem dX0_mostOften_47 : decode cX0_mostOften 47 = .ok (.getfield 9, 3) := dX0_mostOften_23_k.2.2.2.2.2.2.2.2.2.2.2.2.2.1
theorem dX0_mostOften_50 : decode cX0_mostOften 50 = .ok (.iload 5, 2) := dX0_mostOften_23_k.2.2.2.2.2.2.2.2.2.2.2.2.2.2.1
theorem dX0_mostOften_52 : decode cX0_mostOften 52 = .ok (.iaload, 1) := dX0_mostOften_23_k.2.2.2.2.2.2.2.2.2.2.2.2.2.2.2
theorem dX0_mostOften_53_k : decode cX0_mostOften 53 = .ok (.ior, 1) ∧ decode cX0_mostOften 54 = .ok (.iload_n 2, 1) ∧ decode cX0_mostOften 55 = .ok (.iand, 1) ∧ decode cX0_mostOften 56 = .ok (.istore_n 3, 1) ∧ decode cX0_mostOften 57 = .ok (.iload 5, 2) ∧ decode cX0_mostOften 59 = .ok (.iload_n 1, 1) ∧ decode cX0_mostOften 60 = .ok (.iconst 1, 1) ∧ decode cX0_mostOften 61 = .ok (.isub, 1) ∧ decode cX0_mostOften 62 = .ok (.if_icmp .lt 26, 3) ∧ decode cX0_mostOften 65 = .ok (.aload_n 0, 1) ∧ decode cX0_mostOften 66 = .ok (.getfield 15, 3) ∧ decode cX0_mostOften 69 = .ok (.iload_n 3, 1) ∧ decode cX0_mostOften 70 = .ok (.dup2, 1) ∧ decode cX0_mostOften 71 = .ok (.iaload, 1) ∧ decode cX0_mostOften 72 = .ok (.iconst 1, 1) ∧ decode cX0_mostOften 73 = .ok (.iadd, 1) := by decide +kernel
theorem dX0_mostOften_53 : decode cX0_mostOften 53 = .ok (.ior, 1) := dX0_mostOften_53_k.1
theorem dX0_mostOften_54 : decode cX0_mostOften 54 = .ok (.iload_n 2, 1) := dX0_mostOften_53_k.2.1
theorem dX0_mostOften_55 : decode cX0_mostOften 55 = .ok (.iand, 1) := dX0_mostOften_53_k.2.2.1
theorem dX0_mostOften_56 : decode cX0_mostOften 56 = .ok (.istore_n 3, 1) := dX0_mostOften_53_k.2.2.2.1
theorem dX0_mostOften_57 : decode cX0_mostOften 57 = .ok (.iload 5, 2) := dX0_mostOften_53_k.2.2.2.2.1
theorem dX0_mostOften_59 : decode cX0_mostOften 59 = .ok (.iload_n 1, 1) := dX0_mostOften_53_k.2.2.2.2.2.1
theorem dX0_mostOften_60 : decode cX0_mostOften 60 = .ok (.iconst 1, 1) := dX0_mostOften_53_k.2.2.2.2.2.2.1
theorem dX0_mostOften_61 : decode cX0_mostOften 61 = .ok (.isub, 1) := dX0_mostOften_53_k.2.2.2.2.2.2.2.1
theorem dX0_mostOften_62 : decode cX0_mostOften 62 = .ok (.if_icmp .lt 26, 3) := dX0_mostOften_53_k.2.2.2.2.2.2.2.2.1
theorem dX0_mostOften_65 : decode cX0_mostOften 65 = .ok (.aload_n 0, 1) := dX0_mostOften_53_k.2.2.2.2.2.2.2.2.2.1
theorem dX0_mostOften_66 : decode cX0_mostOften 66 = .ok (.getfield 15, 3) := dX0_mostOften_53_k.2.2.2.2.2.2.2.2.2.2.1
theorem dX0_mostOften_69 : decode cX0_mostOften 69 = .ok (.iload_n 3, 1) := dX0_mostOften_53_k.2.2.2.2.2.2.2.2.2.2.2.1
theorem dX0_mostOften_70 : decode cX0_mostOften 70 = .ok (.dup2, 1) := dX0_mostOften_53_k.2.2.2.2.2.2.2.2.2.2.2.2.1
theorem dX0_mostOften_71 : decode cX0_mostOften 71 = .ok (.iaload, 1) := dX0_mostOften_53_k.2.2.2.2.2.2.2.2.2.2.2.2.2.1
theorem dX0_mostOften_72 : decode cX0_mostOften 72 = .ok (.iconst 1, 1) := dX0_mostOften_53_k.2.2.2.2.2.2.2.2.2.2.2.2.2.2.1
theorem dX0_mostOften_73 : decode cX0_mostOften 73 = .ok (.iadd, 1) := dX0_mostOften_53_k.2.2.2.2.2.2.2.2.2.2.2.2.2.2.2
theorem dX0_mostOften_74_k : decode cX0_mostOften 74 = .ok (.iastore, 1) ∧ decode cX0_mostOften 75 = .ok (.iload 4, 2) ∧ decode cX0_mostOften 77 = .ok (.aload_n 0, 1) ∧ decode cX0_mostOften 78 = .ok (.getfield 15, 3) ∧ decode cX0_mostOften 81 = .ok (.iload_n 3, 1) ∧ decode cX0_mostOften 82 = .ok (.iaload, 1) ∧ decode cX0_mostOften 83 = .ok (.invokestatic 34, 3) ∧ decode cX0_mostOften 86 = .ok (.istore 4, 2) ∧ decode cX0_mostOften 88 = .ok (.iinc 5 1, 3) ∧ decode cX0_mostOften 91 = .ok (.goto (-65), 3) ∧ decode cX0_mostOften 94 = .ok (.iload 4, 2) ∧ decode cX0_mostOften 96 = .ok (.ireturn, 1) := by decide +kernel
theorem dX0_mostOften_74 : decode cX0_mostOften 74 = .ok (.iastore, 1) := dX0_mostOften_74_k.1
theorem dX0_mostOften_75 : decode cX0_mostOften 75 = .ok (.iload 4, 2) := dX0_mostOften_74_k.2.1
theorem dX0_mostOften_77 : decode cX0_mostOften 77 = .ok (.aload_n 0, 1) := dX0_mostOften_74_k.2.2.1
theorem dX0_mostOften_78 : decode cX0_mostOften 78 = .ok (.getfield 15, 3) := dX0_mostOften_74_k.2.2.2.1
theorem dX0_mostOften_81 : decode cX0_mostOften 81 = .ok (.iload_n 3, 1) := dX0_mostOften_74_k.2.2.2.2.1
theorem dX0_mostOften_82 : decode cX0_mostOften 82 = .ok (.iaload, 1) := dX0_mostOften_74_k.2.2.2.2.2.1
theorem dX0_mostOften_83 : decode cX0_mostOften 83 = .ok (.invokestatic 34, 3) := dX0_mostOften_74_k.2.2.2.2.2.2.1
theorem dX0_mostOften_86 : decode cX0_mostOften 86 = .ok (.istore 4, 2) := dX0_mostOften_74_k.2.2.2.2.2.2.2.1
theorem dX0_mostOften_88 : decode cX0_mostOften 88 = .ok (.iinc 5 1, 3) := dX0_mostOften_74_k.2.2.2.2.2.2.2.2.1
theorem dX0_mostOften_91 : decode cX0_mostOften 91 = .ok (.goto (-65), 3) := dX0_mostOften_74_k.2.2.2.2.2.2.2.2.2.1
theorem dX0_mostOften_94 : decode cX0_mostOften 94 = .ok (.iload 4, 2) := dX0_mostOften_74_k.2.2.2.2.2.2.2.2.2.2.1
theorem dX0_mostOften_96 : decode cX0_mostOften 96 = .ok (.ireturn, 1) := dX0_mostOften_74_k.2.2.2.2.2.2.2.2.2.2.2
theorem dX0_alikeAt_0_k : decode cX0_alikeAt 0 = .ok (.iload_n 1, 1) ∧ decode cX0_alikeAt 1 = .ok (.iconst 1, 1) ∧ decode cX0_alikeAt 2 = .ok (.if_icmp .ge 5, 3) ∧ decode cX0_alikeAt 5 = .ok (.iconst 0, 1) ∧ decode cX0_alikeAt 6 = .ok (.ireturn, 1) ∧ decode cX0_alikeAt 7 = .ok (.iconst 0, 1) ∧ decode cX0_alikeAt 8 = .ok (.istore_n 2, 1) ∧ decode cX0_alikeAt 9 = .ok (.iload_n 1, 1) ∧ decode cX0_alikeAt 10 = .ok (.istore_n 3, 1) ∧ decode cX0_alikeAt 11 = .ok (.iload_n 3, 1) ∧ decode cX0_alikeAt 12 = .ok (.aload_n 0, 1) ∧ decode cX0_alikeAt 13 = .ok (.getfield 18, 3) ∧ decode cX0_alikeAt 16 = .ok (.if_icmp .ge 36, 3) ∧ decode cX0_alikeAt 19 = .ok (.iload_n 3, 1) ∧ decode cX0_alikeAt 20 = .ok (.sipush 400, 3) ∧ decode cX0_alikeAt 23 = .ok (.if_icmp .ge 29, 3) := by decide +kernel
theorem dX0_alikeAt_0 : decode cX0_alikeAt 0 = .ok (.iload_n 1, 1) := dX0_alikeAt_0_k.1
theorem dX0_alikeAt_1 : decode cX0_alikeAt 1 = .ok (.iconst 1, 1) := dX0_alikeAt_0_k.2.1
theorem dX0_alikeAt_2 : decode cX0_alikeAt 2 = .ok (.if_icmp .ge 5, 3) := dX0_alikeAt_0_k.2.2.1
theorem dX0_alikeAt_5 : decode cX0_alikeAt 5 = .ok (.iconst 0, 1) := dX0_alikeAt_0_k.2.2.2.1
theorem dX0_alikeAt_6 : decode cX0_alikeAt 6 = .ok (.ireturn, 1) := dX0_alikeAt_0_k.2.2.2.2.1
theorem dX0_alikeAt_7 : decode cX0_alikeAt 7 = .ok (.iconst 0, 1) := dX0_alikeAt_0_k.2.2.2.2.2.1
theorem dX0_alikeAt_8 : decode cX0_alikeAt 8 = .ok (.istore_n 2, 1) := dX0_alikeAt_0_k.2.2.2.2.2.2.1
theorem dX0_alikeAt_9 : decode cX0_alikeAt 9 = .ok (.iload_n 1, 1) := dX0_alikeAt_0_k.2.2.2.2.2.2.2.1
theorem dX0_alikeAt_10 : decode cX0_alikeAt 10 = .ok (.istore_n 3, 1) := dX0_alikeAt_0_k.2.2.2.2.2.2.2.2.1
theorem dX0_alikeAt_11 : decode cX0_alikeAt 11 = .ok (.iload_n 3, 1) := dX0_alikeAt_0_k.2.2.2.2.2.2.2.2.2.1
theorem dX0_alikeAt_12 : decode cX0_alikeAt 12 = .ok (.aload_n 0, 1) := dX0_alikeAt_0_k.2.2.2.2.2.2.2.2.2.2.1
theorem dX0_alikeAt_13 : decode cX0_alikeAt 13 = .ok (.getfield 18, 3) := dX0_alikeAt_0_k.2.2.2.2.2.2.2.2.2.2.2.1
theorem dX0_alikeAt_16 : decode cX0_alikeAt 16 = .ok (.if_icmp .ge 36, 3) := dX0_alikeAt_0_k.2.2.2.2.2.2.2.2.2.2.2.2.1
theorem dX0_alikeAt_19 : decode cX0_alikeAt 19 = .ok (.iload_n 3, 1) := dX0_alikeAt_0_k.2.2.2.2.2.2.2.2.2.2.2.2.2.1
theorem dX0_alikeAt_20 : decode cX0_alikeAt 20 = .ok (.sipush 400, 3) := dX0_alikeAt_0_k.2.2.2.2.2.2.2.2.2.2.2.2.2.2.1
theorem dX0_alikeAt_23 : decode cX0_alikeAt 23 = .ok (.if_icmp .ge 29, 3) := dX0_alikeAt_0_k.2.2.2.2.2.2.2.2.2.2.2.2.2.2.2
theorem dX0_alikeAt_26_k : decode cX0_alikeAt 26 = .ok (.aload_n 0, 1) ∧ decode cX0_alikeAt 27 = .ok (.getfield 9, 3) ∧ decode cX0_alikeAt 30 = .ok (.iload_n 3, 1) ∧ decode cX0_alikeAt 31 = .ok (.iaload, 1) ∧ decode cX0_alikeAt 32 = .ok (.aload_n 0, 1) ∧ decode cX0_alikeAt 33 = .ok (.getfield 9, 3) ∧ decode cX0_alikeAt 36 = .ok (.iload_n 3, 1) ∧ decode cX0_alikeAt 37 = .ok (.iload_n 1, 1) ∧ decode cX0_alikeAt 38 = .ok (.isub, 1) ∧ decode cX0_alikeAt 39 = .ok (.iaload, 1) ∧ decode cX0_alikeAt 40 = .ok (.if_icmp .ne 6, 3) ∧ decode cX0_alikeAt 43 = .ok (.iinc 2 1, 3) ∧ decode cX0_alikeAt 46 = .ok (.iinc 3 1, 3) ∧ decode cX0_alikeAt 49 = .ok (.goto (-38), 3) ∧ decode cX0_alikeAt 52 = .ok (.iload_n 2, 1) ∧ decode cX0_alikeAt 53 = .ok (.ireturn, 1) := by decide +kernel
theorem dX0_alikeAt_26 : decode cX0_alikeAt 26 = .ok (.aload_n 0, 1) := dX0_alikeAt_26_k.1
theorem dX0_alikeAt_27 : decode cX0_alikeAt 27 = .ok (.getfield 9, 3) := dX0_alikeAt_26_k.2.1
theorem dX0_alikeAt_30 : decode cX0_alikeAt 30 = .ok (.iload_n 3, 1) := dX0_alikeAt_26_k.2.2.1
theorem dX0_alikeAt_31 : decode cX0_alikeAt 31 = .ok (.iaload, 1) := dX0_alikeAt_26_k.2.2.2.1
theorem dX0_alikeAt_32 : decode cX0_alikeAt 32 = .ok (.aload_n 0, 1) := dX0_alikeAt_26_k.2.2.2.2.1
theorem dX0_alikeAt_33 : decode cX0_alikeAt 33 = .ok (.getfield 9, 3) := dX0_alikeAt_26_k.2.2.2.2.2.1
theorem dX0_alikeAt_36 : decode cX0_alikeAt 36 = .ok (.iload_n 3, 1) := dX0_alikeAt_26_k.2.2.2.2.2.2.1
theorem dX0_alikeAt_37 : decode cX0_alikeAt 37 = .ok (.iload_n 1, 1) := dX0_alikeAt_26_k.2.2.2.2.2.2.2.1
theorem dX0_alikeAt_38 : decode cX0_alikeAt 38 = .ok (.isub, 1) := dX0_alikeAt_26_k.2.2.2.2.2.2.2.2.1
theorem dX0_alikeAt_39 : decode cX0_alikeAt 39 = .ok (.iaload, 1) := dX0_alikeAt_26_k.2.2.2.2.2.2.2.2.2.1
theorem dX0_alikeAt_40 : decode cX0_alikeAt 40 = .ok (.if_icmp .ne 6, 3) := dX0_alikeAt_26_k.2.2.2.2.2.2.2.2.2.2.1
theorem dX0_alikeAt_43 : decode cX0_alikeAt 43 = .ok (.iinc 2 1, 3) := dX0_alikeAt_26_k.2.2.2.2.2.2.2.2.2.2.2.1
theorem dX0_alikeAt_46 : decode cX0_alikeAt 46 = .ok (.iinc 3 1, 3) := dX0_alikeAt_26_k.2.2.2.2.2.2.2.2.2.2.2.2.1
theorem dX0_alikeAt_49 : decode cX0_alikeAt 49 = .ok (.goto (-38), 3) := dX0_alikeAt_26_k.2.2.2.2.2.2.2.2.2.2.2.2.2.1
theorem dX0_alikeAt_52 : decode cX0_alikeAt 52 = .ok (.iload_n 2, 1) := dX0_alikeAt_26_k.2.2.2.2.2.2.2.2.2.2.2.2.2.2.1
theorem dX0_alikeAt_53 : decode cX0_alikeAt 53 = .ok (.ireturn, 1) := dX0_alikeAt_26_k.2.2.2.2.2.2.2.2.2.2.2.2.2.2.2
theorem dX0_measureLongest_0_k : decode cX0_measureLongest 0 = .ok (.aload_n 0, 1) ∧ decode cX0_measureLongest 1 = .ok (.iconst 0, 1) ∧ decode cX0_measureLongest 2 = .ok (.putfield 22, 3) ∧ decode cX0_measureLongest 5 = .ok (.aload_n 0, 1) ∧ decode cX0_measureLongest 6 = .ok (.iconst 0, 1) ∧ decode cX0_measureLongest 7 = .ok (.putfield 25, 3) ∧ decode cX0_measureLongest 10 = .ok (.iconst 0, 1) ∧ decode cX0_measureLongest 11 = .ok (.istore_n 1, 1) ∧ decode cX0_measureLongest 12 = .ok (.iconst 0, 1) ∧ decode cX0_measureLongest 13 = .ok (.istore_n 2, 1) ∧ decode cX0_measureLongest 14 = .ok (.iload_n 2, 1) ∧ decode cX0_measureLongest 15 = .ok (.aload_n 0, 1) ∧ decode cX0_measureLongest 16 = .ok (.getfield 18, 3) ∧ decode cX0_measureLongest 19 = .ok (.if_icmp .ge 59, 3) ∧ decode cX0_measureLongest 22 = .ok (.iload_n 2, 1) ∧ decode cX0_measureLongest 23 = .ok (.sipush 400, 3) := by decide +kernel
theorem dX0_measureLongest_0 : decode cX0_measureLongest 0 = .ok (.aload_n 0, 1) := dX0_measureLongest_0_k.1
theorem dX0_measureLongest_1 : decode cX0_measureLongest 1 = .ok (.iconst 0, 1) := dX0_measureLongest_0_k.2.1
theorem dX0_measureLongest_2 : decode cX0_measureLongest 2 = .ok (.putfield 22, 3) := dX0_measureLongest_0_k.2.2.1
theorem dX0_measureLongest_5 : decode cX0_measureLongest 5 = .ok (.aload_n 0, 1) := dX0_measureLongest_0_k.2.2.2.1
theorem dX0_measureLongest_6 : decode cX0_measureLongest 6 = .ok (.iconst 0, 1) := dX0_measureLongest_0_k.2.2.2.2.1
theorem dX0_measureLongest_7 : decode cX0_measureLongest 7 = .ok (.putfield 25, 3) := dX0_measureLongest_0_k.2.2.2.2.2.1
theorem dX0_measureLongest_10 : decode cX0_measureLongest 10 = .ok (.iconst 0, 1) := dX0_measureLongest_0_k.2.2.2.2.2.2.1
theorem dX0_measureLongest_11 : decode cX0_measureLongest 11 = .ok (.istore_n 1, 1) := dX0_measureLongest_0_k.2.2.2.2.2.2.2.1
theorem dX0_measureLongest_12 : decode cX0_measureLongest 12 = .ok (.iconst 0, 1) := dX0_measureLongest_0_k.2.2.2.2.2.2.2.2.1
theorem dX0_measureLongest_13 : decode cX0_measureLongest 13 = .ok (.istore_n 2, 1) := dX0_measureLongest_0_k.2.2.2.2.2.2.2.2.2.1
theorem dX0_measureLongest_14 : decode cX0_measureLongest 14 = .ok (.iload_n 2, 1) := dX0_measureLongest_0_k.2.2.2.2.2.2.2.2.2.2.1
theorem dX0_measureLongest_15 : decode cX0_measureLongest 15 = .ok (.aload_n 0, 1) := dX0_measureLongest_0_k.2.2.2.2.2.2.2.2.2.2.2.1
theorem dX0_measureLongest_16 : decode cX0_measureLongest 16 = .ok (.getfield 18, 3) := dX0_measureLongest_0_k.2.2.2.2.2.2.2.2.2.2.2.2.1
theorem dX0_measureLongest_19 : decode cX0_measureLongest 19 = .ok (.if_icmp .ge 59, 3) := dX0_measureLongest_0_k.2.2.2.2.2.2.2.2.2.2.2.2.2.1
theorem dX0_measureLongest_22 : decode cX0_measureLongest 22 = .ok (.iload_n 2, 1) := dX0_measureLongest_0_k.2.2.2.2.2.2.2.2.2.2.2.2.2.2.1
theorem dX0_measureLongest_23 : decode cX0_measureLongest 23 = .ok (.sipush 400, 3) := dX0_measureLongest_0_k.2.2.2.2.2.2.2.2.2.2.2.2.2.2.2
theorem dX0_measureLongest_26_k : decode cX0_measureLongest 26 = .ok (.if_icmp .ge 52, 3) ∧ decode cX0_measureLongest 29 = .ok (.aload_n 0, 1) ∧ decode cX0_measureLongest 30 = .ok (.getfield 9, 3) ∧ decode cX0_measureLongest 33 = .ok (.iload_n 2, 1) ∧ decode cX0_measureLongest 34 = .ok (.iaload, 1) ∧ decode cX0_measureLongest 35 = .ok (.aload_n 0, 1) ∧ decode cX0_measureLongest 36 = .ok (.getfield 9, 3) ∧ decode cX0_measureLongest 39 = .ok (.iload_n 1, 1) ∧ decode cX0_measureLongest 40 = .ok (.iaload, 1) ∧ decode cX0_measureLongest 41 = .ok (.if_icmp .eq 5, 3) ∧ decode cX0_measureLongest 44 = .ok (.iload_n 2, 1) ∧ decode cX0_measureLongest 45 = .ok (.istore_n 1, 1) ∧ decode cX0_measureLongest 46 = .ok (.iload_n 2, 1) ∧ decode cX0_measureLongest 47 = .ok (.iload_n 1, 1) ∧ decode cX0_measureLongest 48 = .ok (.isub, 1) ∧ decode cX0_measureLongest 49 = .ok (.iconst 1, 1) := by decide +kernel
theorem dX0_measureLongest_26 : decode cX0_measureLongest 26 = .ok (.if_icmp .ge 52, 3) := dX0_measureLongest_26_k.1
theorem dX0_measureLongest_29 : decode cX0_measureLongest 29 = .ok (.aload_n 0, 1) := dX0_measureLongest_26_k.2.1
theorem dX0_measureLongest_30 : decode cX0_measureLongest 30 = .ok (.getfield 9, 3) := dX0_measureLongest_26_k.2.2.1
theorem dX0_measureLongest_33 : decode cX0_measureLongest 33 = .ok (.iload_n 2, 1) := dX0_measureLongest_26_k.2.2.2.1
theorem dX0_measureLongest_34 : decode cX0_measureLongest 34 = .ok (.iaload, 1) := dX0_measureLongest_26_k.2.2.2.2.1
theorem dX0_measureLongest_35 : decode cX0_measureLongest 35 = .ok (.aload_n 0, 1) := dX0_measureLongest_26_k.2.2.2.2.2.1
theorem dX0_measureLongest_36 : decode cX0_measureLongest 36 = .ok (.getfield 9, 3) := dX0_measureLongest_26_k.2.2.2.2.2.2.1
theorem dX0_measureLongest_39 : decode cX0_measureLongest 39 = .ok (.iload_n 1, 1) := dX0_measureLongest_26_k.2.2.2.2.2.2.2.1
theorem dX0_measureLongest_40 : decode cX0_measureLongest 40 = .ok (.iaload, 1) := dX0_measureLongest_26_k.2.2.2.2.2.2.2.2.1
theorem dX0_measureLongest_41 : decode cX0_measureLongest 41 = .ok (.if_icmp .eq 5, 3) := dX0_measureLongest_26_k.2.2.2.2.2.2.2.2.2.1
theorem dX0_measureLongest_44 : decode cX0_measureLongest 44 = .ok (.iload_n 2, 1) := dX0_measureLongest_26_k.2.2.2.2.2.2.2.2.2.2.1
theorem dX0_measureLongest_45 : decode cX0_measureLongest 45 = .ok (.istore_n 1, 1) := dX0_measureLongest_26_k.2.2.2.2.2.2.2.2.2.2.2.1
theorem dX0_measureLongest_46 : decode cX0_measureLongest 46 = .ok (.iload_n 2, 1) := dX0_measureLongest_26_k.2.2.2.2.2.2.2.2.2.2.2.2.1
theorem dX0_measureLongest_47 : decode cX0_measureLongest 47 = .ok (.iload_n 1, 1) := dX0_measureLongest_26_k.2.2.2.2.2.2.2.2.2.2.2.2.2.1
theorem dX0_measureLongest_48 : decode cX0_measureLongest 48 = .ok (.isub, 1) := dX0_measureLongest_26_k.2.2.2.2.2.2.2.2.2.2.2.2.2.2.1
theorem dX0_measureLongest_49 : decode cX0_measureLongest 49 = .ok (.iconst 1, 1) := dX0_measureLongest_26_k.2.2.2.2.2.2.2.2.2.2.2.2.2.2.2
theorem dX0_measureLongest_50_k : decode cX0_measureLongest 50 = .ok (.iadd, 1) ∧ decode cX0_measureLongest 51 = .ok (.aload_n 0, 1) ∧ decode cX0_measureLongest 52 = .ok (.getfield 22, 3) ∧ decode cX0_measureLongest 55 = .ok (.if_icmp .le 17, 3) ∧ decode cX0_measureLongest 58 = .ok (.aload_n 0, 1) ∧ decode cX0_measureLongest 59 = .ok (.iload_n 2, 1) ∧ decode cX0_measureLongest 60 = .ok (.iload_n 1, 1) ∧ decode cX0_measureLongest 61 = .ok (.isub, 1) ∧ decode cX0_measureLongest 62 = .ok (.iconst 1, 1) ∧ decode cX0_measureLongest 63 = .ok (.iadd, 1) ∧ decode cX0_measureLongest 64 = .ok (.putfield 22, 3) ∧ decode cX0_measureLongest 67 = .ok (.aload_n 0, 1) ∧ decode cX0_measureLongest 68 = .ok (.iload_n 1, 1) ∧ decode cX0_measureLongest 69 = .ok (.putfield 25, 3) ∧ decode cX0_measureLongest 72 = .ok (.iinc 2 1, 3) ∧ decode cX0_measureLongest 75 = .ok (.goto (-61), 3) := by decide +kernel
theorem dX0_measureLongest_50 : decode cX0_measureLongest 50 = .ok (.iadd, 1) := dX0_measureLongest_50_k.1
theorem dX0_measureLongest_51 : decode cX0_measureLongest 51 = .ok (.aload_n 0, 1) := dX0_measureLongest_50_k.2.1
theorem dX0_measureLongest_52 : decode cX0_measureLongest 52 = .ok (.getfield 22, 3) := dX0_measureLongest_50_k.2.2.1
theorem dX0_measureLongest_55 : decode cX0_measureLongest 55 = .ok (.if_icmp .le 17, 3) := dX0_measureLongest_50_k.2.2.2.1
theorem dX0_measureLongest_58 : decode cX0_measureLongest 58 = .ok (.aload_n 0, 1) := dX0_measureLongest_50_k.2.2.2.2.1
theorem dX0_measureLongest_59 : decode cX0_measureLongest 59 = .ok (.iload_n 2, 1) := dX0_measureLongest_50_k.2.2.2.2.2.1
theorem dX0_measureLongest_60 : decode cX0_measureLongest 60 = .ok (.iload_n 1, 1) := dX0_measureLongest_50_k.2.2.2.2.2.2.1
theorem dX0_measureLongest_61 : decode cX0_measureLongest 61 = .ok (.isub, 1) := dX0_measureLongest_50_k.2.2.2.2.2.2.2.1
theorem dX0_measureLongest_62 : decode cX0_measureLongest 62 = .ok (.iconst 1, 1) := dX0_measureLongest_50_k.2.2.2.2.2.2.2.2.1
theorem dX0_measureLongest_63 : decode cX0_measureLongest 63 = .ok (.iadd, 1) := dX0_measureLongest_50_k.2.2.2.2.2.2.2.2.2.1
theorem dX0_measureLongest_64 : decode cX0_measureLongest 64 = .ok (.putfield 22, 3) := dX0_measureLongest_50_k.2.2.2.2.2.2.2.2.2.2.1
theorem dX0_measureLongest_67 : decode cX0_measureLongest 67 = .ok (.aload_n 0, 1) := dX0_measureLongest_50_k.2.2.2.2.2.2.2.2.2.2.2.1
theorem dX0_measureLongest_68 : decode cX0_measureLongest 68 = .ok (.iload_n 1, 1) := dX0_measureLongest_50_k.2.2.2.2.2.2.2.2.2.2.2.2.1
theorem dX0_measureLongest_69 : decode cX0_measureLongest 69 = .ok (.putfield 25, 3) := dX0_measureLongest_50_k.2.2.2.2.2.2.2.2.2.2.2.2.2.1
theorem dX0_measureLongest_72 : decode cX0_measureLongest 72 = .ok (.iinc 2 1, 3) := dX0_measureLongest_50_k.2.2.2.2.2.2.2.2.2.2.2.2.2.2.1
theorem dX0_measureLongest_75 : decode cX0_measureLongest 75 = .ok (.goto (-61), 3) := dX0_measureLongest_50_k.2.2.2.2.2.2.2.2.2.2.2.2.2.2.2
theorem dX0_measureLongest_78 : decode cX0_measureLongest 78 = .ok (.return_, 1) := by decide +kernel
theorem dX1_init_0_k : decode cX1_init 0 = .ok (.aload_n 0, 1) ∧ decode cX1_init 1 = .ok (.invokespecial 1, 3) ∧ decode cX1_init 4 = .ok (.aload_n 0, 1) ∧ decode cX1_init 5 = .ok (.iconst 0, 1) ∧ decode cX1_init 6 = .ok (.putfield 7, 3) ∧ decode cX1_init 9 = .ok (.aload_n 0, 1) ∧ decode cX1_init 10 = .ok (.iconst 0, 1) ∧ decode cX1_init 11 = .ok (.putfield 13, 3) ∧ decode cX1_init 14 = .ok (.aload_n 0, 1) ∧ decode cX1_init 15 = .ok (.iconst 0, 1) ∧ decode cX1_init 16 = .ok (.putfield 16, 3) ∧ decode cX1_init 19 = .ok (.aload_n 0, 1) ∧ decode cX1_init 20 = .ok (.iconst 0, 1) ∧ decode cX1_init 21 = .ok (.putfield 19, 3) ∧ decode cX1_init 24 = .ok (.aload_n 0, 1) ∧ decode cX1_init 25 = .ok (.iconst 0, 1) := by decide +kernel
theorem dX1_init_0 : decode cX1_init 0 = .ok (.aload_n 0, 1) := dX1_init_0_k.1
theorem dX1_init_1 : decode cX1_init 1 = .ok (.invokespecial 1, 3) := dX1_init_0_k.2.1
theorem dX1_init_4 : decode cX1_init 4 = .ok (.aload_n 0, 1) := dX1_init_0_k.2.2.1
theorem dX1_init_5 : decode cX1_init 5 = .ok (.iconst 0, 1) := dX1_init_0_k.2.2.2.1
theorem dX1_init_6 : decode cX1_init 6 = .ok (.putfield 7, 3) := dX1_init_0_k.2.2.2.2.1
theorem dX1_init_9 : decode cX1_init 9 = .ok (.aload_n 0, 1) := dX1_init_0_k.2.2.2.2.2.1
theorem dX1_init_10 : decode cX1_init 10 = .ok (.iconst 0, 1) := dX1_init_0_k.2.2.2.2.2.2.1
theorem dX1_init_11 : decode cX1_init 11 = .ok (.putfield 13, 3) := dX1_init_0_k.2.2.2.2.2.2.2.1
theorem dX1_init_14 : decode cX1_init 14 = .ok (.aload_n 0, 1) := dX1_init_0_k.2.2.2.2.2.2.2.2.1
theorem dX1_init_15 : decode cX1_init 15 = .ok (.iconst 0, 1) := dX1_init_0_k.2.2.2.2.2.2.2.2.2.1
theorem dX1_init_16 : decode cX1_init 16 = .ok (.putfield 16, 3) := dX1_init_0_k.2.2.2.2.2.2.2.2.2.2.1
theorem dX1_init_19 : decode cX1_init 19 = .ok (.aload_n 0, 1) := dX1_init_0_k.2.2.2.2.2.2.2.2.2.2.2.1
theorem dX1_init_20 : decode cX1_init 20 = .ok (.iconst 0, 1) := dX1_init_0_k.2.2.2.2.2.2.2.2.2.2.2.2.1
theorem dX1_init_21 : decode cX1_init 21 = .ok (.putfield 19, 3) := dX1_init_0_k.2.2.2.2.2.2.2.2.2.2.2.2.2.1
theorem dX1_init_24 : decode cX1_init 24 = .ok (.aload_n 0, 1) := dX1_init_0_k.2.2.2.2.2.2.2.2.2.2.2.2.2.2.1
theorem dX1_init_25 : decode cX1_init 25 = .ok (.iconst 0, 1) := dX1_init_0_k.2.2.2.2.2.2.2.2.2.2.2.2.2.2.2
theorem dX1_init_26_k : decode cX1_init 26 = .ok (.putfield 22, 3) ∧ decode cX1_init 29 = .ok (.aload_n 0, 1) ∧ decode cX1_init 30 = .ok (.iconst 0, 1) ∧ decode cX1_init 31 = .ok (.putfield 25, 3) ∧ decode cX1_init 34 = .ok (.return_, 1) := by decide +kernel
theorem dX1_init_26 : decode cX1_init 26 = .ok (.putfield 22, 3) := dX1_init_26_k.1
theorem dX1_init_29 : decode cX1_init 29 = .ok (.aload_n 0, 1) := dX1_init_26_k.2.1
theorem dX1_init_30 : decode cX1_init 30 = .ok (.iconst 0, 1) := dX1_init_26_k.2.2.1
theorem dX1_init_31 : decode cX1_init 31 = .ok (.putfield 25, 3) := dX1_init_26_k.2.2.2.1
theorem dX1_init_34 : decode cX1_init 34 = .ok (.return_, 1) := dX1_init_26_k.2.2.2.2
theorem dX1_clear_0_k : decode cX1_clear 0 = .ok (.aload_n 0, 1) ∧ decode cX1_clear 1 = .ok (.iconst 0, 1) ∧ decode cX1_clear 2 = .ok (.putfield 7, 3) ∧ decode cX1_clear 5 = .ok (.aload_n 0, 1) ∧ decode cX1_clear 6 = .ok (.iconst 0, 1) ∧ decode cX1_clear 7 = .ok (.putfield 13, 3) ∧ decode cX1_clear 10 = .ok (.aload_n 0, 1) ∧ decode cX1_clear 11 = .ok (.iconst 0, 1) ∧ decode cX1_clear 12 = .ok (.putfield 16, 3) ∧ decode cX1_clear 15 = .ok (.aload_n 0, 1) ∧ decode cX1_clear 16 = .ok (.iconst 0, 1) ∧ decode cX1_clear 17 = .ok (.putfield 19, 3) ∧ decode cX1_clear 20 = .ok (.aload_n 0, 1) ∧ decode cX1_clear 21 = .ok (.iconst 0, 1) ∧ decode cX1_clear 22 = .ok (.putfield 22, 3) ∧ decode cX1_clear 25 = .ok (.aload_n 0, 1) := by decide +kernel
theorem dX1_clear_0 : decode cX1_clear 0 = .ok (.aload_n 0, 1) := dX1_clear_0_k.1
theorem dX1_clear_1 : decode cX1_clear 1 = .ok (.iconst 0, 1) := dX1_clear_0_k.2.1
theorem dX1_clear_2 : decode cX1_clear 2 = .ok (.putfield 7, 3) := dX1_clear_0_k.2.2.1
theorem dX1_clear_5 : decode cX1_clear 5 = .ok (.aload_n 0, 1) := dX1_clear_0_k.2.2.2.1
theorem dX1_clear_6 : decode cX1_clear 6 = .ok (.iconst 0, 1) := dX1_clear_0_k.2.2.2.2.1
theorem dX1_clear_7 : decode cX1_clear 7 = .ok (.putfield 13, 3) := dX1_clear_0_k.2.2.2.2.2.1
theorem dX1_clear_10 : decode cX1_clear 10 = .ok (.aload_n 0, 1) := dX1_clear_0_k.2.2.2.2.2.2.1
theorem dX1_clear_11 : decode cX1_clear 11 = .ok (.iconst 0, 1) := dX1_clear_0_k.2.2.2.2.2.2.2.1
theorem dX1_clear_12 : decode cX1_clear 12 = .ok (.putfield 16, 3) := dX1_clear_0_k.2.2.2.2.2.2.2.2.1
theorem dX1_clear_15 : decode cX1_clear 15 = .ok (.aload_n 0, 1) := dX1_clear_0_k.2.2.2.2.2.2.2.2.2.1
theorem dX1_clear_16 : decode cX1_clear 16 = .ok (.iconst 0, 1) := dX1_clear_0_k.2.2.2.2.2.2.2.2.2.2.1
theorem dX1_clear_17 : decode cX1_clear 17 = .ok (.putfield 19, 3) := dX1_clear_0_k.2.2.2.2.2.2.2.2.2.2.2.1
theorem dX1_clear_20 : decode cX1_clear 20 = .ok (.aload_n 0, 1) := dX1_clear_0_k.2.2.2.2.2.2.2.2.2.2.2.2.1
theorem dX1_clear_21 : decode cX1_clear 21 = .ok (.iconst 0, 1) := dX1_clear_0_k.2.2.2.2.2.2.2.2.2.2.2.2.2.1
theorem dX1_clear_22 : decode cX1_clear 22 = .ok (.putfield 22, 3) := dX1_clear_0_k.2.2.2.2.2.2.2.2.2.2.2.2.2.2.1
theorem dX1_clear_25 : decode cX1_clear 25 = .ok (.aload_n 0, 1) := dX1_clear_0_k.2.2.2.2.2.2.2.2.2.2.2.2.2.2.2
theorem dX1_clear_26_k : decode cX1_clear 26 = .ok (.iconst 0, 1) ∧ decode cX1_clear 27 = .ok (.putfield 25, 3) ∧ decode cX1_clear 30 = .ok (.return_, 1) := by decide +kernel
theorem dX1_clear_26 : decode cX1_clear 26 = .ok (.iconst 0, 1) := dX1_clear_26_k.1
theorem dX1_clear_27 : decode cX1_clear 27 = .ok (.putfield 25, 3) := dX1_clear_26_k.2.1
theorem dX1_clear_30 : decode cX1_clear 30 = .ok (.return_, 1) := dX1_clear_26_k.2.2
theorem dX1_hear_0_k : decode cX1_hear 0 = .ok (.aload_n 0, 1) ∧ decode cX1_hear 1 = .ok (.getfield 16, 3) ∧ decode cX1_hear 4 = .ok (.iload_n 2, 1) ∧ decode cX1_hear 5 = .ok (.if_icmp .lt 18, 3) ∧ decode cX1_hear 8 = .ok (.aload_n 0, 1) ∧ decode cX1_hear 9 = .ok (.iconst 0, 1) ∧ decode cX1_hear 10 = .ok (.putfield 16, 3) ∧ decode cX1_hear 13 = .ok (.aload_n 0, 1) ∧ decode cX1_hear 14 = .ok (.iconst 0, 1) ∧ decode cX1_hear 15 = .ok (.putfield 22, 3) ∧ decode cX1_hear 18 = .ok (.aload_n 0, 1) ∧ decode cX1_hear 19 = .ok (.iconst 0, 1) ∧ decode cX1_hear 20 = .ok (.putfield 25, 3) ∧ decode cX1_hear 23 = .ok (.aload_n 0, 1) ∧ decode cX1_hear 24 = .ok (.getfield 16, 3) ∧ decode cX1_hear 27 = .ok (.ifCond .ne 11, 3) := by decide +kernel
theorem dX1_hear_0 : decode cX1_hear 0 = .ok (.aload_n 0, 1) := dX1_hear_0_k.1
theorem dX1_hear_1 : decode cX1_hear 1 = .ok (.getfield 16, 3) := dX1_hear_0_k.2.1
theorem dX1_hear_4 : decode cX1_hear 4 = .ok (.iload_n 2, 1) := dX1_hear_0_k.2.2.1
theorem dX1_hear_5 : decode cX1_hear 5 = .ok (.if_icmp .lt 18, 3) := dX1_hear_0_k.2.2.2.1
theorem dX1_hear_8 : decode cX1_hear 8 = .ok (.aload_n 0, 1) := dX1_hear_0_k.2.2.2.2.1
theorem dX1_hear_9 : decode cX1_hear 9 = .ok (.iconst 0, 1) := dX1_hear_0_k.2.2.2.2.2.1
theorem dX1_hear_10 : decode cX1_hear 10 = .ok (.putfield 16, 3) := dX1_hear_0_k.2.2.2.2.2.2.1
theorem dX1_hear_13 : decode cX1_hear 13 = .ok (.aload_n 0, 1) := dX1_hear_0_k.2.2.2.2.2.2.2.1
theorem dX1_hear_14 : decode cX1_hear 14 = .ok (.iconst 0, 1) := dX1_hear_0_k.2.2.2.2.2.2.2.2.1
theorem dX1_hear_15 : decode cX1_hear 15 = .ok (.putfield 22, 3) := dX1_hear_0_k.2.2.2.2.2.2.2.2.2.1
theorem dX1_hear_18 : decode cX1_hear 18 = .ok (.aload_n 0, 1) := dX1_hear_0_k.2.2.2.2.2.2.2.2.2.2.1
theorem dX1_hear_19 : decode cX1_hear 19 = .ok (.iconst 0, 1) := dX1_hear_0_k.2.2.2.2.2.2.2.2.2.2.2.1
theorem dX1_hear_20 : decode cX1_hear 20 = .ok (.putfield 25, 3) := dX1_hear_0_k.2.2.2.2.2.2.2.2.2.2.2.2.1
theorem dX1_hear_23 : decode cX1_hear 23 = .ok (.aload_n 0, 1) := dX1_hear_0_k.2.2.2.2.2.2.2.2.2.2.2.2.2.1
theorem dX1_hear_24 : decode cX1_hear 24 = .ok (.getfield 16, 3) := dX1_hear_0_k.2.2.2.2.2.2.2.2.2.2.2.2.2.2.1
theorem dX1_hear_27 : decode cX1_hear 27 = .ok (.ifCond .ne 11, 3) := dX1_hear_0_k.2.2.2.2.2.2.2.2.2.2.2.2.2.2.2
theorem dX1_hear_30_k : decode cX1_hear 30 = .ok (.aload_n 0, 1) ∧ decode cX1_hear 31 = .ok (.iload_n 1, 1) ∧ decode cX1_hear 32 = .ok (.putfield 19, 3) ∧ decode cX1_hear 35 = .ok (.goto 21, 3) ∧ decode cX1_hear 38 = .ok (.iload_n 1, 1) ∧ decode cX1_hear 39 = .ok (.aload_n 0, 1) ∧ decode cX1_hear 40 = .ok (.getfield 13, 3) ∧ decode cX1_hear 43 = .ok (.if_icmp .eq 13, 3) ∧ decode cX1_hear 46 = .ok (.aload_n 0, 1) ∧ decode cX1_hear 47 = .ok (.dup, 1) ∧ decode cX1_hear 48 = .ok (.getfield 25, 3) ∧ decode cX1_hear 51 = .ok (.iconst 1, 1) ∧ decode cX1_hear 52 = .ok (.iadd, 1) ∧ decode cX1_hear 53 = .ok (.putfield 25, 3) ∧ decode cX1_hear 56 = .ok (.iload_n 1, 1) ∧ decode cX1_hear 57 = .ok (.aload_n 0, 1) := by decide +kernel
theorem dX1_hear_30 : decode cX1_hear 30 = .ok (.aload_n 0, 1) := dX1_hear_30_k.1
theorem dX1_hear_31 : decode cX1_hear 31 = .ok (.iload_n 1, 1) := dX1_hear_30_k.2.1
theorem dX1_hear_32 : decode cX1_hear 32 = .ok (.putfield 19, 3) := dX1_hear_30_k.2.2.1
theorem dX1_hear_35 : decode cX1_hear 35 = .ok (.goto 21, 3) := dX1_hear_30_k.2.2.2.1
theorem dX1_hear_38 : decode cX1_hear 38 = .ok (.iload_n 1, 1) := dX1_hear_30_k.2.2.2.2.1
theorem dX1_hear_39 : decode cX1_hear 39 = .ok (.aload_n 0, 1) := dX1_hear_30_k.2.2.2.2.2.1
theorem dX1_hear_40 : decode cX1_hear 40 = .ok (.getfield 13, 3) := dX1_hear_30_k.2.2.2.2.2.2.1
theorem dX1_hear_43 : decode cX1_hear 43 = .ok (.if_icmp .eq 13, 3) := dX1_hear_30_k.2.2.2.2.2.2.2.1
theorem dX1_hear_46 : decode cX1_hear 46 = .ok (.aload_n 0, 1) := dX1_hear_30_k.2.2.2.2.2.2.2.2.1
theorem dX1_hear_47 : decode cX1_hear 47 = .ok (.dup, 1) := dX1_hear_30_k.2.2.2.2.2.2.2.2.2.1
theorem dX1_hear_48 : decode cX1_hear 48 = .ok (.getfield 25, 3) := dX1_hear_30_k.2.2.2.2.2.2.2.2.2.2.1
theorem dX1_hear_51 : decode cX1_hear 51 = .ok (.iconst 1, 1) := dX1_hear_30_k.2.2.2.2.2.2.2.2.2.2.2.1
theorem dX1_hear_52 : decode cX1_hear 52 = .ok (.iadd, 1) := dX1_hear_30_k.2.2.2.2.2.2.2.2.2.2.2.2.1
theorem dX1_hear_53 : decode cX1_hear 53 = .ok (.putfield 25, 3) := dX1_hear_30_k.2.2.2.2.2.2.2.2.2.2.2.2.2.1
theorem dX1_hear_56 : decode cX1_hear 56 = .ok (.iload_n 1, 1) := dX1_hear_30_k.2.2.2.2.2.2.2.2.2.2.2.2.2.2.1
theorem dX1_hear_57 : decode cX1_hear 57 = .ok (.aload_n 0, 1) := dX1_hear_30_k.2.2.2.2.2.2.2.2.2.2.2.2.2.2.2
theorem dX1_hear_58_k : decode cX1_hear 58 = .ok (.getfield 19, 3) ∧ decode cX1_hear 61 = .ok (.if_icmp .ne 13, 3) ∧ decode cX1_hear 64 = .ok (.aload_n 0, 1) ∧ decode cX1_hear 65 = .ok (.dup, 1) ∧ decode cX1_hear 66 = .ok (.getfield 22, 3) ∧ decode cX1_hear 69 = .ok (.iconst 1, 1) ∧ decode cX1_hear 70 = .ok (.iadd, 1) ∧ decode cX1_hear 71 = .ok (.putfield 22, 3) ∧ decode cX1_hear 74 = .ok (.aload_n 0, 1) ∧ decode cX1_hear 75 = .ok (.aload_n 0, 1) ∧ decode cX1_hear 76 = .ok (.getfield 7, 3) ∧ decode cX1_hear 79 = .ok (.ifCond .le 20, 3) ∧ decode cX1_hear 82 = .ok (.iload_n 1, 1) ∧ decode cX1_hear 83 = .ok (.aload_n 0, 1) ∧ decode cX1_hear 84 = .ok (.getfield 13, 3) ∧ decode cX1_hear 87 = .ok (.if_icmp .ne 12, 3) := by decide +kernel
theorem dX1_hear_58 : decode cX1_hear 58 = .ok (.getfield 19, 3) := dX1_hear_58_k.1
theorem dX1_hear_61 : decode cX1_hear 61 = .ok (.if_icmp .ne 13, 3) := dX1_hear_58_k.2.1
theorem dX1_hear_64 : decode cX1_hear 64 = .ok (.aload_n 0, 1) := dX1_hear_58_k.2.2.1
theorem dX1_hear_65 : decode cX1_hear 65 = .ok (.dup, 1) := dX1_hear_58_k.2.2.2.1
theorem dX1_hear_66 : decode cX1_hear 66 = .ok (.getfield 22, 3) := dX1_hear_58_k.2.2.2.2.1
theorem dX1_hear_69 : decode cX1_hear 69 = .ok (.iconst 1, 1) := dX1_hear_58_k.2.2.2.2.2.1
theorem dX1_hear_70 : decode cX1_hear 70 = .ok (.iadd, 1) := dX1_hear_58_k.2.2.2.2.2.2.1
theorem dX1_hear_71 : decode cX1_hear 71 = .ok (.putfield 22, 3) := dX1_hear_58_k.2.2.2.2.2.2.2.1
theorem dX1_hear_74 : decode cX1_hear 74 = .ok (.aload_n 0, 1) := dX1_hear_58_k.2.2.2.2.2.2.2.2.1
theorem dX1_hear_75 : decode cX1_hear 75 = .ok (.aload_n 0, 1) := dX1_hear_58_k.2.2.2.2.2.2.2.2.2.1
theorem dX1_hear_76 : decode cX1_hear 76 = .ok (.getfield 7, 3) := dX1_hear_58_k.2.2.2.2.2.2.2.2.2.2.1
theorem dX1_hear_79 : decode cX1_hear 79 = .ok (.ifCond .le 20, 3) := dX1_hear_58_k.2.2.2.2.2.2.2.2.2.2.2.1
theorem dX1_hear_82 : decode cX1_hear 82 = .ok (.iload_n 1, 1) := dX1_hear_58_k.2.2.2.2.2.2.2.2.2.2.2.2.1
theorem dX1_hear_83 : decode cX1_hear 83 = .ok (.aload_n 0, 1) := dX1_hear_58_k.2.2.2.2.2.2.2.2.2.2.2.2.2.1
theorem dX1_hear_84 : decode cX1_hear 84 = .ok (.getfield 13, 3) := dX1_hear_58_k.2.2.2.2.2.2.2.2.2.2.2.2.2.2.1
theorem dX1_hear_87 : decode cX1_hear 87 = .ok (.if_icmp .ne 12, 3) := dX1_hear_58_k.2.2.2.2.2.2.2.2.2.2.2.2.2.2.2
theorem dX1_hear_90_k : decode cX1_hear 90 = .ok (.aload_n 0, 1) ∧ decode cX1_hear 91 = .ok (.getfield 7, 3) ∧ decode cX1_hear 94 = .ok (.iconst 1, 1) ∧ decode cX1_hear 95 = .ok (.iadd, 1) ∧ decode cX1_hear 96 = .ok (.goto 4, 3) ∧ decode cX1_hear 99 = .ok (.iconst 1, 1) ∧ decode cX1_hear 100 = .ok (.putfield 7, 3) ∧ decode cX1_hear 103 = .ok (.aload_n 0, 1) ∧ decode cX1_hear 104 = .ok (.iload_n 1, 1) ∧ decode cX1_hear 105 = .ok (.putfield 13, 3) ∧ decode cX1_hear 108 = .ok (.aload_n 0, 1) ∧ decode cX1_hear 109 = .ok (.dup, 1) ∧ decode cX1_hear 110 = .ok (.getfield 16, 3) ∧ decode cX1_hear 113 = .ok (.iconst 1, 1) ∧ decode cX1_hear 114 = .ok (.iadd, 1) ∧ decode cX1_hear 115 = .ok (.putfield 16, 3) := by decide +kernel
theorem dX1_hear_90 : decode cX1_hear 90 = .ok (.aload_n 0, 1) := dX1_hear_90_k.1
theorem dX1_hear_91 : decode cX1_hear 91 = .ok (.getfield 7, 3) := dX1_hear_90_k.2.1
theorem dX1_hear_94 : decode cX1_hear 94 = .ok (.iconst 1, 1) := dX1_hear_90_k.2.2.1
theorem dX1_hear_95 : decode cX1_hear 95 = .ok (.iadd, 1) := dX1_hear_90_k.2.2.2.1
theorem dX1_hear_96 : decode cX1_hear 96 = .ok (.goto 4, 3) := dX1_hear_90_k.2.2.2.2.1
theorem dX1_hear_99 : decode cX1_hear 99 = .ok (.iconst 1, 1) := dX1_hear_90_k.2.2.2.2.2.1
theorem dX1_hear_100 : decode cX1_hear 100 = .ok (.putfield 7, 3) := dX1_hear_90_k.2.2.2.2.2.2.1
theorem dX1_hear_103 : decode cX1_hear 103 = .ok (.aload_n 0, 1) := dX1_hear_90_k.2.2.2.2.2.2.2.1
theorem dX1_hear_104 : decode cX1_hear 104 = .ok (.iload_n 1, 1) := dX1_hear_90_k.2.2.2.2.2.2.2.2.1
theorem dX1_hear_105 : decode cX1_hear 105 = .ok (.putfield 13, 3) := dX1_hear_90_k.2.2.2.2.2.2.2.2.2.1
theorem dX1_hear_108 : decode cX1_hear 108 = .ok (.aload_n 0, 1) := dX1_hear_90_k.2.2.2.2.2.2.2.2.2.2.1
theorem dX1_hear_109 : decode cX1_hear 109 = .ok (.dup, 1) := dX1_hear_90_k.2.2.2.2.2.2.2.2.2.2.2.1
theorem dX1_hear_110 : decode cX1_hear 110 = .ok (.getfield 16, 3) := dX1_hear_90_k.2.2.2.2.2.2.2.2.2.2.2.2.1
theorem dX1_hear_113 : decode cX1_hear 113 = .ok (.iconst 1, 1) := dX1_hear_90_k.2.2.2.2.2.2.2.2.2.2.2.2.2.1
theorem dX1_hear_114 : decode cX1_hear 114 = .ok (.iadd, 1) := dX1_hear_90_k.2.2.2.2.2.2.2.2.2.2.2.2.2.2.1
theorem dX1_hear_115 : decode cX1_hear 115 = .ok (.putfield 16, 3) := dX1_hear_90_k.2.2.2.2.2.2.2.2.2.2.2.2.2.2.2
theorem dX1_hear_118 : decode cX1_hear 118 = .ok (.return_, 1) := by decide +kernel
theorem dX1_raiseTo_0_k : decode cX1_raiseTo 0 = .ok (.aload_n 0, 1) ∧ decode cX1_raiseTo 1 = .ok (.aload_n 0, 1) ∧ decode cX1_raiseTo 2 = .ok (.getfield 7, 3) ∧ decode cX1_raiseTo 5 = .ok (.aload_n 1, 1) ∧ decode cX1_raiseTo 6 = .ok (.getfield 7, 3) ∧ decode cX1_raiseTo 9 = .ok (.invokestatic 28, 3) ∧ decode cX1_raiseTo 12 = .ok (.putfield 7, 3) ∧ decode cX1_raiseTo 15 = .ok (.aload_n 0, 1) ∧ decode cX1_raiseTo 16 = .ok (.aload_n 0, 1) ∧ decode cX1_raiseTo 17 = .ok (.getfield 22, 3) ∧ decode cX1_raiseTo 20 = .ok (.aload_n 1, 1) ∧ decode cX1_raiseTo 21 = .ok (.getfield 22, 3) ∧ decode cX1_raiseTo 24 = .ok (.invokestatic 28, 3) ∧ decode cX1_raiseTo 27 = .ok (.putfield 22, 3) ∧ decode cX1_raiseTo 30 = .ok (.aload_n 0, 1) ∧ decode cX1_raiseTo 31 = .ok (.aload_n 0, 1) := by decide +kernel
theorem dX1_raiseTo_0 : decode cX1_raiseTo 0 = .ok (.aload_n 0, 1) := dX1_raiseTo_0_k.1
theorem dX1_raiseTo_1 : decode cX1_raiseTo 1 = .ok (.aload_n 0, 1) := dX1_raiseTo_0_k.2.1
theorem dX1_raiseTo_2 : decode cX1_raiseTo 2 = .ok (.getfield 7, 3) := dX1_raiseTo_0_k.2.2.1
theorem dX1_raiseTo_5 : decode cX1_raiseTo 5 = .ok (.aload_n 1, 1) := dX1_raiseTo_0_k.2.2.2.1
theorem dX1_raiseTo_6 : decode cX1_raiseTo 6 = .ok (.getfield 7, 3) := dX1_raiseTo_0_k.2.2.2.2.1
theorem dX1_raiseTo_9 : decode cX1_raiseTo 9 = .ok (.invokestatic 28, 3) := dX1_raiseTo_0_k.2.2.2.2.2.1
theorem dX1_raiseTo_12 : decode cX1_raiseTo 12 = .ok (.putfield 7, 3) := dX1_raiseTo_0_k.2.2.2.2.2.2.1
theorem dX1_raiseTo_15 : decode cX1_raiseTo 15 = .ok (.aload_n 0, 1) := dX1_raiseTo_0_k.2.2.2.2.2.2.2.1
theorem dX1_raiseTo_16 : decode cX1_raiseTo 16 = .ok (.aload_n 0, 1) := dX1_raiseTo_0_k.2.2.2.2.2.2.2.2.1
theorem dX1_raiseTo_17 : decode cX1_raiseTo 17 = .ok (.getfield 22, 3) := dX1_raiseTo_0_k.2.2.2.2.2.2.2.2.2.1
theorem dX1_raiseTo_20 : decode cX1_raiseTo 20 = .ok (.aload_n 1, 1) := dX1_raiseTo_0_k.2.2.2.2.2.2.2.2.2.2.1
theorem dX1_raiseTo_21 : decode cX1_raiseTo 21 = .ok (.getfield 22, 3) := dX1_raiseTo_0_k.2.2.2.2.2.2.2.2.2.2.2.1
theorem dX1_raiseTo_24 : decode cX1_raiseTo 24 = .ok (.invokestatic 28, 3) := dX1_raiseTo_0_k.2.2.2.2.2.2.2.2.2.2.2.2.1
theorem dX1_raiseTo_27 : decode cX1_raiseTo 27 = .ok (.putfield 22, 3) := dX1_raiseTo_0_k.2.2.2.2.2.2.2.2.2.2.2.2.2.1
theorem dX1_raiseTo_30 : decode cX1_raiseTo 30 = .ok (.aload_n 0, 1) := dX1_raiseTo_0_k.2.2.2.2.2.2.2.2.2.2.2.2.2.2.1
theorem dX1_raiseTo_31 : decode cX1_raiseTo 31 = .ok (.aload_n 0, 1) := dX1_raiseTo_0_k.2.2.2.2.2.2.2.2.2.2.2.2.2.2.2
theorem dX1_raiseTo_32_k : decode cX1_raiseTo 32 = .ok (.getfield 25, 3) ∧ decode cX1_raiseTo 35 = .ok (.aload_n 1, 1) ∧ decode cX1_raiseTo 36 = .ok (.getfield 25, 3) ∧ decode cX1_raiseTo 39 = .ok (.invokestatic 28, 3) ∧ decode cX1_raiseTo 42 = .ok (.putfield 25, 3) ∧ decode cX1_raiseTo 45 = .ok (.return_, 1) := by decide +kernel
theorem dX1_raiseTo_32 : decode cX1_raiseTo 32 = .ok (.getfield 25, 3) := dX1_raiseTo_32_k.1
theorem dX1_raiseTo_35 : decode cX1_raiseTo 35 = .ok (.aload_n 1, 1) := dX1_raiseTo_32_k.2.1
theorem dX1_raiseTo_36 : decode cX1_raiseTo 36 = .ok (.getfield 25, 3) := dX1_raiseTo_32_k.2.2.1
theorem dX1_raiseTo_39 : decode cX1_raiseTo 39 = .ok (.invokestatic 28, 3) := dX1_raiseTo_32_k.2.2.2.1
theorem dX1_raiseTo_42 : decode cX1_raiseTo 42 = .ok (.putfield 25, 3) := dX1_raiseTo_32_k.2.2.2.2.1
theorem dX1_raiseTo_45 : decode cX1_raiseTo 45 = .ok (.return_, 1) := dX1_raiseTo_32_k.2.2.2.2.2
theorem dX1_copyFrom_0_k : decode cX1_copyFrom 0 = .ok (.aload_n 0, 1) ∧ decode cX1_copyFrom 1 = .ok (.aload_n 1, 1) ∧ decode cX1_copyFrom 2 = .ok (.getfield 7, 3) ∧ decode cX1_copyFrom 5 = .ok (.putfield 7, 3) ∧ decode cX1_copyFrom 8 = .ok (.aload_n 0, 1) ∧ decode cX1_copyFrom 9 = .ok (.aload_n 1, 1) ∧ decode cX1_copyFrom 10 = .ok (.getfield 13, 3) ∧ decode cX1_copyFrom 13 = .ok (.putfield 13, 3) ∧ decode cX1_copyFrom 16 = .ok (.aload_n 0, 1) ∧ decode cX1_copyFrom 17 = .ok (.aload_n 1, 1) ∧ decode cX1_copyFrom 18 = .ok (.getfield 16, 3) ∧ decode cX1_copyFrom 21 = .ok (.putfield 16, 3) ∧ decode cX1_copyFrom 24 = .ok (.aload_n 0, 1) ∧ decode cX1_copyFrom 25 = .ok (.aload_n 1, 1) ∧ decode cX1_copyFrom 26 = .ok (.getfield 19, 3) ∧ decode cX1_copyFrom 29 = .ok (.putfield 19, 3) := by decide +kernel
theorem dX1_copyFrom_0 : decode cX1_copyFrom 0 = .ok (.aload_n 0, 1) := dX1_copyFrom_0_k.1
theorem dX1_copyFrom_1 : decode cX1_copyFrom 1 = .ok (.aload_n 1, 1) := dX1_copyFrom_0_k.2.1
theorem dX1_copyFrom_2 : decode cX1_copyFrom 2 = .ok (.getfield 7, 3) := dX1_copyFrom_0_k.2.2.1
theorem dX1_copyFrom_5 : decode cX1_copyFrom 5 = .ok (.putfield 7, 3) := dX1_copyFrom_0_k.2.2.2.1
theorem dX1_copyFrom_8 : decode cX1_copyFrom 8 = .ok (.aload_n 0, 1) := dX1_copyFrom_0_k.2.2.2.2.1
theorem dX1_copyFrom_9 : decode cX1_copyFrom 9 = .ok (.aload_n 1, 1) := dX1_copyFrom_0_k.2.2.2.2.2.1
theorem dX1_copyFrom_10 : decode cX1_copyFrom 10 = .ok (.getfield 13, 3) := dX1_copyFrom_0_k.2.2.2.2.2.2.1
theorem dX1_copyFrom_13 : decode cX1_copyFrom 13 = .ok (.putfield 13, 3) := dX1_copyFrom_0_k.2.2.2.2.2.2.2.1
theorem dX1_copyFrom_16 : decode cX1_copyFrom 16 = .ok (.aload_n 0, 1) := dX1_copyFrom_0_k.2.2.2.2.2.2.2.2.1
theorem dX1_copyFrom_17 : decode cX1_copyFrom 17 = .ok (.aload_n 1, 1) := dX1_copyFrom_0_k.2.2.2.2.2.2.2.2.2.1
theorem dX1_copyFrom_18 : decode cX1_copyFrom 18 = .ok (.getfield 16, 3) := dX1_copyFrom_0_k.2.2.2.2.2.2.2.2.2.2.1
theorem dX1_copyFrom_21 : decode cX1_copyFrom 21 = .ok (.putfield 16, 3) := dX1_copyFrom_0_k.2.2.2.2.2.2.2.2.2.2.2.1
theorem dX1_copyFrom_24 : decode cX1_copyFrom 24 = .ok (.aload_n 0, 1) := dX1_copyFrom_0_k.2.2.2.2.2.2.2.2.2.2.2.2.1
theorem dX1_copyFrom_25 : decode cX1_copyFrom 25 = .ok (.aload_n 1, 1) := dX1_copyFrom_0_k.2.2.2.2.2.2.2.2.2.2.2.2.2.1
theorem dX1_copyFrom_26 : decode cX1_copyFrom 26 = .ok (.getfield 19, 3) := dX1_copyFrom_0_k.2.2.2.2.2.2.2.2.2.2.2.2.2.2.1
theorem dX1_copyFrom_29 : decode cX1_copyFrom 29 = .ok (.putfield 19, 3) := dX1_copyFrom_0_k.2.2.2.2.2.2.2.2.2.2.2.2.2.2.2
theorem dX1_copyFrom_32_k : decode cX1_copyFrom 32 = .ok (.aload_n 0, 1) ∧ decode cX1_copyFrom 33 = .ok (.aload_n 1, 1) ∧ decode cX1_copyFrom 34 = .ok (.getfield 22, 3) ∧ decode cX1_copyFrom 37 = .ok (.putfield 22, 3) ∧ decode cX1_copyFrom 40 = .ok (.aload_n 0, 1) ∧ decode cX1_copyFrom 41 = .ok (.aload_n 1, 1) ∧ decode cX1_copyFrom 42 = .ok (.getfield 25, 3) ∧ decode cX1_copyFrom 45 = .ok (.putfield 25, 3) ∧ decode cX1_copyFrom 48 = .ok (.return_, 1) := by decide +kernel
theorem dX1_copyFrom_32 : decode cX1_copyFrom 32 = .ok (.aload_n 0, 1) := dX1_copyFrom_32_k.1
theorem dX1_copyFrom_33 : decode cX1_copyFrom 33 = .ok (.aload_n 1, 1) := dX1_copyFrom_32_k.2.1
theorem dX1_copyFrom_34 : decode cX1_copyFrom 34 = .ok (.getfield 22, 3) := dX1_copyFrom_32_k.2.2.1
theorem dX1_copyFrom_37 : decode cX1_copyFrom 37 = .ok (.putfield 22, 3) := dX1_copyFrom_32_k.2.2.2.1
theorem dX1_copyFrom_40 : decode cX1_copyFrom 40 = .ok (.aload_n 0, 1) := dX1_copyFrom_32_k.2.2.2.2.1
theorem dX1_copyFrom_41 : decode cX1_copyFrom 41 = .ok (.aload_n 1, 1) := dX1_copyFrom_32_k.2.2.2.2.2.1
theorem dX1_copyFrom_42 : decode cX1_copyFrom 42 = .ok (.getfield 25, 3) := dX1_copyFrom_32_k.2.2.2.2.2.2.1
theorem dX1_copyFrom_45 : decode cX1_copyFrom 45 = .ok (.putfield 25, 3) := dX1_copyFrom_32_k.2.2.2.2.2.2.2.1
theorem dX1_copyFrom_48 : decode cX1_copyFrom 48 = .ok (.return_, 1) := dX1_copyFrom_32_k.2.2.2.2.2.2.2.2
theorem dX2_init_0_k : decode cX2_init 0 = .ok (.aload_n 0, 1) ∧ decode cX2_init 1 = .ok (.invokespecial 3, 3) ∧ decode cX2_init 4 = .ok (.aload_n 0, 1) ∧ decode cX2_init 5 = .ok (.bipush 17, 2) ∧ decode cX2_init 7 = .ok (.newarray .long, 2) ∧ decode cX2_init 9 = .ok (.putfield 9, 3) ∧ decode cX2_init 12 = .ok (.aload_n 0, 1) ∧ decode cX2_init 13 = .ok (.iconst 0, 1) ∧ decode cX2_init 14 = .ok (.putfield 15, 3) ∧ decode cX2_init 17 = .ok (.aload_n 0, 1) ∧ decode cX2_init 18 = .ok (.iconst 0, 1) ∧ decode cX2_init 19 = .ok (.putfield 19, 3) ∧ decode cX2_init 22 = .ok (.aload_n 0, 1) ∧ decode cX2_init 23 = .ok (.iconst 0, 1) ∧ decode cX2_init 24 = .ok (.putfield 22, 3) ∧ decode cX2_init 27 = .ok (.aload_n 0, 1) := by decide +kernel
theorem dX2_init_0 : decode cX2_init 0 = .ok (.aload_n 0, 1) := dX2_init_0_k.1
theorem dX2_init_1 : decode cX2_init 1 = .ok (.invokespecial 3, 3) := dX2_init_0_k.2.1
theorem dX2_init_4 : decode cX2_init 4 = .ok (.aload_n 0, 1) := dX2_init_0_k.2.2.1
theorem dX2_init_5 : decode cX2_init 5 = .ok (.bipush 17, 2) := dX2_init_0_k.2.2.2.1
theorem dX2_init_7 : decode cX2_init 7 = .ok (.newarray .long, 2) := dX2_init_0_k.2.2.2.2.1
theorem dX2_init_9 : decode cX2_init 9 = .ok (.putfield 9, 3) := dX2_init_0_k.2.2.2.2.2.1
theorem dX2_init_12 : decode cX2_init 12 = .ok (.aload_n 0, 1) := dX2_init_0_k.2.2.2.2.2.2.1
theorem dX2_init_13 : decode cX2_init 13 = .ok (.iconst 0, 1) := dX2_init_0_k.2.2.2.2.2.2.2.1
theorem dX2_init_14 : decode cX2_init 14 = .ok (.putfield 15, 3) := dX2_init_0_k.2.2.2.2.2.2.2.2.1
theorem dX2_init_17 : decode cX2_init 17 = .ok (.aload_n 0, 1) := dX2_init_0_k.2.2.2.2.2.2.2.2.2.1
theorem dX2_init_18 : decode cX2_init 18 = .ok (.iconst 0, 1) := dX2_init_0_k.2.2.2.2.2.2.2.2.2.2.1
theorem dX2_init_19 : decode cX2_init 19 = .ok (.putfield 19, 3) := dX2_init_0_k.2.2.2.2.2.2.2.2.2.2.2.1
theorem dX2_init_22 : decode cX2_init 22 = .ok (.aload_n 0, 1) := dX2_init_0_k.2.2.2.2.2.2.2.2.2.2.2.2.1
theorem dX2_init_23 : decode cX2_init 23 = .ok (.iconst 0, 1) := dX2_init_0_k.2.2.2.2.2.2.2.2.2.2.2.2.2.1
theorem dX2_init_24 : decode cX2_init 24 = .ok (.putfield 22, 3) := dX2_init_0_k.2.2.2.2.2.2.2.2.2.2.2.2.2.2.1
theorem dX2_init_27 : decode cX2_init 27 = .ok (.aload_n 0, 1) := dX2_init_0_k.2.2.2.2.2.2.2.2.2.2.2.2.2.2.2
theorem dX2_init_28_k : decode cX2_init 28 = .ok (.iconst 0, 1) ∧ decode cX2_init 29 = .ok (.putfield 25, 3) ∧ decode cX2_init 32 = .ok (.return_, 1) := by decide +kernel
theorem dX2_init_28 : decode cX2_init 28 = .ok (.iconst 0, 1) := dX2_init_28_k.1
theorem dX2_init_29 : decode cX2_init 29 = .ok (.putfield 25, 3) := dX2_init_28_k.2.1
theorem dX2_init_32 : decode cX2_init 32 = .ok (.return_, 1) := dX2_init_28_k.2.2
theorem dX2_fill_0_k : decode cX2_fill 0 = .ok (.aload_n 0, 1) ∧ decode cX2_fill 1 = .ok (.iconst 0, 1) ∧ decode cX2_fill 2 = .ok (.iload_n 1, 1) ∧ decode cX2_fill 3 = .ok (.bipush 15, 2) ∧ decode cX2_fill 5 = .ok (.invokestatic 28, 3) ∧ decode cX2_fill 8 = .ok (.invokestatic 34, 3) ∧ decode cX2_fill 11 = .ok (.putfield 15, 3) ∧ decode cX2_fill 14 = .ok (.aload_n 0, 1) ∧ decode cX2_fill 15 = .ok (.getfield 9, 3) ∧ decode cX2_fill 18 = .ok (.lconst 0, 1) ∧ decode cX2_fill 19 = .ok (.invokestatic 37, 3) ∧ decode cX2_fill 22 = .ok (.aload_n 0, 1) ∧ decode cX2_fill 23 = .ok (.getfield 9, 3) ∧ decode cX2_fill 26 = .ok (.iconst 0, 1) ∧ decode cX2_fill 27 = .ok (.lconst 1, 1) ∧ decode cX2_fill 28 = .ok (.lastore, 1) := by decide +kernel
theorem dX2_fill_0 : decode cX2_fill 0 = .ok (.aload_n 0, 1) := dX2_fill_0_k.1
theorem dX2_fill_1 : decode cX2_fill 1 = .ok (.iconst 0, 1) := dX2_fill_0_k.2.1
theorem dX2_fill_2 : decode cX2_fill 2 = .ok (.iload_n 1, 1) := dX2_fill_0_k.2.2.1
theorem dX2_fill_3 : decode cX2_fill 3 = .ok (.bipush 15, 2) := dX2_fill_0_k.2.2.2.1
theorem dX2_fill_5 : decode cX2_fill 5 = .ok (.invokestatic 28, 3) := dX2_fill_0_k.2.2.2.2.1
theorem dX2_fill_8 : decode cX2_fill 8 = .ok (.invokestatic 34, 3) := dX2_fill_0_k.2.2.2.2.2.1
theorem dX2_fill_11 : decode cX2_fill 11 = .ok (.putfield 15, 3) := dX2_fill_0_k.2.2.2.2.2.2.1
theorem dX2_fill_14 : decode cX2_fill 14 = .ok (.aload_n 0, 1) := dX2_fill_0_k.2.2.2.2.2.2.2.1
theorem dX2_fill_15 : decode cX2_fill 15 = .ok (.getfield 9, 3) := dX2_fill_0_k.2.2.2.2.2.2.2.2.1
theorem dX2_fill_18 : decode cX2_fill 18 = .ok (.lconst 0, 1) := dX2_fill_0_k.2.2.2.2.2.2.2.2.2.1
theorem dX2_fill_19 : decode cX2_fill 19 = .ok (.invokestatic 37, 3) := dX2_fill_0_k.2.2.2.2.2.2.2.2.2.2.1
theorem dX2_fill_22 : decode cX2_fill 22 = .ok (.aload_n 0, 1) := dX2_fill_0_k.2.2.2.2.2.2.2.2.2.2.2.1
theorem dX2_fill_23 : decode cX2_fill 23 = .ok (.getfield 9, 3) := dX2_fill_0_k.2.2.2.2.2.2.2.2.2.2.2.2.1
theorem dX2_fill_26 : decode cX2_fill 26 = .ok (.iconst 0, 1) := dX2_fill_0_k.2.2.2.2.2.2.2.2.2.2.2.2.2.1
theorem dX2_fill_27 : decode cX2_fill 27 = .ok (.lconst 1, 1) := dX2_fill_0_k.2.2.2.2.2.2.2.2.2.2.2.2.2.2.1
theorem dX2_fill_28 : decode cX2_fill 28 = .ok (.lastore, 1) := dX2_fill_0_k.2.2.2.2.2.2.2.2.2.2.2.2.2.2.2
theorem dX2_fill_29_k : decode cX2_fill 29 = .ok (.iconst 0, 1) ∧ decode cX2_fill 30 = .ok (.istore_n 3, 1) ∧ decode cX2_fill 31 = .ok (.iload_n 3, 1) ∧ decode cX2_fill 32 = .ok (.aload_n 0, 1) ∧ decode cX2_fill 33 = .ok (.getfield 15, 3) ∧ decode cX2_fill 36 = .ok (.if_icmp .ge 66, 3) ∧ decode cX2_fill 39 = .ok (.iload_n 3, 1) ∧ decode cX2_fill 40 = .ok (.bipush 15, 2) ∧ decode cX2_fill 42 = .ok (.if_icmp .ge 60, 3) ∧ decode cX2_fill 45 = .ok (.iload_n 3, 1) ∧ decode cX2_fill 46 = .ok (.istore 4, 2) ∧ decode cX2_fill 48 = .ok (.iload 4, 2) ∧ decode cX2_fill 50 = .ok (.ifCond .lt 46, 3) ∧ decode cX2_fill 53 = .ok (.aload_n 0, 1) ∧ decode cX2_fill 54 = .ok (.getfield 9, 3) ∧ decode cX2_fill 57 = .ok (.iload 4, 2) := by decide +kernel
theorem dX2_fill_29 : decode cX2_fill 29 = .ok (.iconst 0, 1) := dX2_fill_29_k.1
theorem dX2_fill_30 : decode cX2_fill 30 = .ok (.istore_n 3, 1) := dX2_fill_29_k.2.1
theorem dX2_fill_31 : decode cX2_fill 31 = .ok (.iload_n 3, 1) := dX2_fill_29_k.2.2.1
theorem dX2_fill_32 : decode cX2_fill 32 = .ok (.aload_n 0, 1) := dX2_fill_29_k.2.2.2.1
theorem dX2_fill_33 : decode cX2_fill 33 = .ok (.getfield 15, 3) := dX2_fill_29_k.2.2.2.2.1
theorem dX2_fill_36 : decode cX2_fill 36 = .ok (.if_icmp .ge 66, 3) := dX2_fill_29_k.2.2.2.2.2.1
theorem dX2_fill_39 : decode cX2_fill 39 = .ok (.iload_n 3, 1) := dX2_fill_29_k.2.2.2.2.2.2.1
theorem dX2_fill_40 : decode cX2_fill 40 = .ok (.bipush 15, 2) := dX2_fill_29_k.2.2.2.2.2.2.2.1
theorem dX2_fill_42 : decode cX2_fill 42 = .ok (.if_icmp .ge 60, 3) := dX2_fill_29_k.2.2.2.2.2.2.2.2.1
theorem dX2_fill_45 : decode cX2_fill 45 = .ok (.iload_n 3, 1) := dX2_fill_29_k.2.2.2.2.2.2.2.2.2.1
theorem dX2_fill_46 : decode cX2_fill 46 = .ok (.istore 4, 2) := dX2_fill_29_k.2.2.2.2.2.2.2.2.2.2.1
theorem dX2_fill_48 : decode cX2_fill 48 = .ok (.iload 4, 2) := dX2_fill_29_k.2.2.2.2.2.2.2.2.2.2.2.1
theorem dX2_fill_50 : decode cX2_fill 50 = .ok (.ifCond .lt 46, 3) := dX2_fill_29_k.2.2.2.2.2.2.2.2.2.2.2.2.1
theorem dX2_fill_53 : decode cX2_fill 53 = .ok (.aload_n 0, 1) := dX2_fill_29_k.2.2.2.2.2.2.2.2.2.2.2.2.2.1
theorem dX2_fill_54 : decode cX2_fill 54 = .ok (.getfield 9, 3) := dX2_fill_29_k.2.2.2.2.2.2.2.2.2.2.2.2.2.2.1
theorem dX2_fill_57 : decode cX2_fill 57 = .ok (.iload 4, 2) := dX2_fill_29_k.2.2.2.2.2.2.2.2.2.2.2.2.2.2.2
theorem dX2_fill_59_k : decode cX2_fill 59 = .ok (.iconst 1, 1) ∧ decode cX2_fill 60 = .ok (.iadd, 1) ∧ decode cX2_fill 61 = .ok (.dup2, 1) ∧ decode cX2_fill 62 = .ok (.laload, 1) ∧ decode cX2_fill 63 = .ok (.aload_n 0, 1) ∧ decode cX2_fill 64 = .ok (.getfield 9, 3) ∧ decode cX2_fill 67 = .ok (.iload 4, 2) ∧ decode cX2_fill 69 = .ok (.laload, 1) ∧ decode cX2_fill 70 = .ok (.iload_n 2, 1) ∧ decode cX2_fill 71 = .ok (.i2l, 1) ∧ decode cX2_fill 72 = .ok (.lmul, 1) ∧ decode cX2_fill 73 = .ok (.ladd, 1) ∧ decode cX2_fill 74 = .ok (.lastore, 1) ∧ decode cX2_fill 75 = .ok (.aload_n 0, 1) ∧ decode cX2_fill 76 = .ok (.getfield 9, 3) ∧ decode cX2_fill 79 = .ok (.iload 4, 2) := by decide +kernel
theorem dX2_fill_59 : decode cX2_fill 59 = .ok (.iconst 1, 1) := dX2_fill_59_k.1
theorem dX2_fill_60 : decode cX2_fill 60 = .ok (.iadd, 1) := dX2_fill_59_k.2.1
theorem dX2_fill_61 : decode cX2_fill 61 = .ok (.dup2, 1) := dX2_fill_59_k.2.2.1
theorem dX2_fill_62 : decode cX2_fill 62 = .ok (.laload, 1) := dX2_fill_59_k.2.2.2.1
theorem dX2_fill_63 : decode cX2_fill 63 = .ok (.aload_n 0, 1) := dX2_fill_59_k.2.2.2.2.1
theorem dX2_fill_64 : decode cX2_fill 64 = .ok (.getfield 9, 3) := dX2_fill_59_k.2.2.2.2.2.1
theorem dX2_fill_67 : decode cX2_fill 67 = .ok (.iload 4, 2) := dX2_fill_59_k.2.2.2.2.2.2.1
theorem dX2_fill_69 : decode cX2_fill 69 = .ok (.laload, 1) := dX2_fill_59_k.2.2.2.2.2.2.2.1
theorem dX2_fill_70 : decode cX2_fill 70 = .ok (.iload_n 2, 1) := dX2_fill_59_k.2.2.2.2.2.2.2.2.1
theorem dX2_fill_71 : decode cX2_fill 71 = .ok (.i2l, 1) := dX2_fill_59_k.2.2.2.2.2.2.2.2.2.1
theorem dX2_fill_72 : decode cX2_fill 72 = .ok (.lmul, 1) := dX2_fill_59_k.2.2.2.2.2.2.2.2.2.2.1
theorem dX2_fill_73 : decode cX2_fill 73 = .ok (.ladd, 1) := dX2_fill_59_k.2.2.2.2.2.2.2.2.2.2.2.1
theorem dX2_fill_74 : decode cX2_fill 74 = .ok (.lastore, 1) := dX2_fill_59_k.2.2.2.2.2.2.2.2.2.2.2.2.1
theorem dX2_fill_75 : decode cX2_fill 75 = .ok (.aload_n 0, 1) := dX2_fill_59_k.2.2.2.2.2.2.2.2.2.2.2.2.2.1
theorem dX2_fill_76 : decode cX2_fill 76 = .ok (.getfield 9, 3) := dX2_fill_59_k.2.2.2.2.2.2.2.2.2.2.2.2.2.2.1
theorem dX2_fill_79 : decode cX2_fill 79 = .ok (.iload 4, 2) := dX2_fill_59_k.2.2.2.2.2.2.2.2.2.2.2.2.2.2.2
theorem dX2_fill_81_k : decode cX2_fill 81 = .ok (.dup2, 1) ∧ decode cX2_fill 82 = .ok (.laload, 1) ∧ decode cX2_fill 83 = .ok (.bipush 16, 2) ∧ decode cX2_fill 85 = .ok (.iload_n 2, 1) ∧ decode cX2_fill 86 = .ok (.isub, 1) ∧ decode cX2_fill 87 = .ok (.i2l, 1) ∧ decode cX2_fill 88 = .ok (.lmul, 1) ∧ decode cX2_fill 89 = .ok (.lastore, 1) ∧ decode cX2_fill 90 = .ok (.iinc 4 (-1), 3) ∧ decode cX2_fill 93 = .ok (.goto (-45), 3) ∧ decode cX2_fill 96 = .ok (.iinc 3 1, 3) ∧ decode cX2_fill 99 = .ok (.goto (-68), 3) ∧ decode cX2_fill 102 = .ok (.aload_n 0, 1) ∧ decode cX2_fill 103 = .ok (.getfield 15, 3) ∧ decode cX2_fill 106 = .ok (.bipush 15, 2) ∧ decode cX2_fill 108 = .ok (.invokestatic 28, 3) := by decide +kernel
theorem dX2_fill_81 : decode cX2_fill 81 = .ok (.dup2, 1) := dX2_fill_81_k.1
theorem dX2_fill_82 : decode cX2_fill 82 = .ok (.laload, 1) := dX2_fill_81_k.2.1
theorem dX2_fill_83 : decode cX2_fill 83 = .ok (.bipush 16, 2) := dX2_fill_81_k.2.2.1
theorem dX2_fill_85 : decode cX2_fill 85 = .ok (.iload_n 2, 1) := dX2_fill_81_k.2.2.2.1
theorem dX2_fill_86 : decode cX2_fill 86 = .ok (.isub, 1) := dX2_fill_81_k.2.2.2.2.1
theorem dX2_fill_87 : decode cX2_fill 87 = .ok (.i2l, 1) := dX2_fill_81_k.2.2.2.2.2.1
theorem dX2_fill_88 : decode cX2_fill 88 = .ok (.lmul, 1) := dX2_fill_81_k.2.2.2.2.2.2.1
theorem dX2_fill_89 : decode cX2_fill 89 = .ok (.lastore, 1) := dX2_fill_81_k.2.2.2.2.2.2.2.1
theorem dX2_fill_90 : decode cX2_fill 90 = .ok (.iinc 4 (-1), 3) := dX2_fill_81_k.2.2.2.2.2.2.2.2.1
theorem dX2_fill_93 : decode cX2_fill 93 = .ok (.goto (-45), 3) := dX2_fill_81_k.2.2.2.2.2.2.2.2.2.1
theorem dX2_fill_96 : decode cX2_fill 96 = .ok (.iinc 3 1, 3) := dX2_fill_81_k.2.2.2.2.2.2.2.2.2.2.1
theorem dX2_fill_99 : decode cX2_fill 99 = .ok (.goto (-68), 3) := dX2_fill_81_k.2.2.2.2.2.2.2.2.2.2.2.1
theorem dX2_fill_102 : decode cX2_fill 102 = .ok (.aload_n 0, 1) := dX2_fill_81_k.2.2.2.2.2.2.2.2.2.2.2.2.1
theorem dX2_fill_103 : decode cX2_fill 103 = .ok (.getfield 15, 3) := dX2_fill_81_k.2.2.2.2.2.2.2.2.2.2.2.2.2.1
theorem dX2_fill_106 : decode cX2_fill 106 = .ok (.bipush 15, 2) := dX2_fill_81_k.2.2.2.2.2.2.2.2.2.2.2.2.2.2.1
theorem dX2_fill_108 : decode cX2_fill 108 = .ok (.invokestatic 28, 3) := dX2_fill_81_k.2.2.2.2.2.2.2.2.2.2.2.2.2.2.2
theorem dX2_fill_111_k : decode cX2_fill 111 = .ok (.iconst 1, 1) ∧ decode cX2_fill 112 = .ok (.isub, 1) ∧ decode cX2_fill 113 = .ok (.istore_n 3, 1) ∧ decode cX2_fill 114 = .ok (.iload_n 3, 1) ∧ decode cX2_fill 115 = .ok (.ifCond .lt 26, 3) ∧ decode cX2_fill 118 = .ok (.aload_n 0, 1) ∧ decode cX2_fill 119 = .ok (.getfield 9, 3) ∧ decode cX2_fill 122 = .ok (.iload_n 3, 1) ∧ decode cX2_fill 123 = .ok (.dup2, 1) ∧ decode cX2_fill 124 = .ok (.laload, 1) ∧ decode cX2_fill 125 = .ok (.aload_n 0, 1) ∧ decode cX2_fill 126 = .ok (.getfield 9, 3) ∧ decode cX2_fill 129 = .ok (.iload_n 3, 1) ∧ decode cX2_fill 130 = .ok (.iconst 1, 1) ∧ decode cX2_fill 131 = .ok (.iadd, 1) ∧ decode cX2_fill 132 = .ok (.laload, 1) := by decide +kernel
theorem dX2_fill_111 : decode cX2_fill 111 = .ok (.iconst 1, 1) := dX2_fill_111_k.1
theorem dX2_fill_112 : decode cX2_fill 112 = .ok (.isub, 1) := dX2_fill_111_k.2.1
theorem dX2_fill_113 : decode cX2_fill 113 = .ok (.istore_n 3, 1) := dX2_fill_111_k.2.2.1
theorem dX2_fill_114 : decode cX2_fill 114 = .ok (.iload_n 3, 1) := dX2_fill_111_k.2.2.2.1
theorem dX2_fill_115 : decode cX2_fill 115 = .ok (.ifCond .lt 26, 3) := dX2_fill_111_k.2.2.2.2.1
theorem dX2_fill_118 : decode cX2_fill 118 = .ok (.aload_n 0, 1) := dX2_fill_111_k.2.2.2.2.2.1
theorem dX2_fill_119 : decode cX2_fill 119 = .ok (.getfield 9, 3) := dX2_fill_111_k.2.2.2.2.2.2.1
theorem dX2_fill_122 : decode cX2_fill 122 = .ok (.iload_n 3, 1) := dX2_fill_111_k.2.2.2.2.2.2.2.1
theorem dX2_fill_123 : decode cX2_fill 123 = .ok (.dup2, 1) := dX2_fill_111_k.2.2.2.2.2.2.2.2.1
theorem dX2_fill_124 : decode cX2_fill 124 = .ok (.laload, 1) := dX2_fill_111_k.2.2.2.2.2.2.2.2.2.1
theorem dX2_fill_125 : decode cX2_fill 125 = .ok (.aload_n 0, 1) := dX2_fill_111_k.2.2.2.2.2.2.2.2.2.2.1
theorem dX2_fill_126 : decode cX2_fill 126 = .ok (.getfield 9, 3) := dX2_fill_111_k.2.2.2.2.2.2.2.2.2.2.2.1
theorem dX2_fill_129 : decode cX2_fill 129 = .ok (.iload_n 3, 1) := dX2_fill_111_k.2.2.2.2.2.2.2.2.2.2.2.2.1
theorem dX2_fill_130 : decode cX2_fill 130 = .ok (.iconst 1, 1) := dX2_fill_111_k.2.2.2.2.2.2.2.2.2.2.2.2.2.1
theorem dX2_fill_131 : decode cX2_fill 131 = .ok (.iadd, 1) := dX2_fill_111_k.2.2.2.2.2.2.2.2.2.2.2.2.2.2.1
theorem dX2_fill_132 : decode cX2_fill 132 = .ok (.laload, 1) := dX2_fill_111_k.2.2.2.2.2.2.2.2.2.2.2.2.2.2.2
theorem dX2_fill_133_k : decode cX2_fill 133 = .ok (.ladd, 1) ∧ decode cX2_fill 134 = .ok (.lastore, 1) ∧ decode cX2_fill 135 = .ok (.iinc 3 (-1), 3) ∧ decode cX2_fill 138 = .ok (.goto (-24), 3) ∧ decode cX2_fill 141 = .ok (.return_, 1) := by decide +kernel
theorem dX2_fill_133 : decode cX2_fill 133 = .ok (.ladd, 1) := dX2_fill_133_k.1
theorem dX2_fill_134 : decode cX2_fill 134 = .ok (.lastore, 1) := dX2_fill_133_k.2.1
theorem dX2_fill_135 : decode cX2_fill 135 = .ok (.iinc 3 (-1), 3) := dX2_fill_133_k.2.2.1
theorem dX2_fill_138 : decode cX2_fill 138 = .ok (.goto (-24), 3) := dX2_fill_133_k.2.2.2.1
theorem dX2_fill_141 : decode cX2_fill 141 = .ok (.return_, 1) := dX2_fill_133_k.2.2.2.2
theorem dX2_leastBy_0_k : decode cX2_leastBy 0 = .ok (.iconst 4, 1) ∧ decode cX2_leastBy 1 = .ok (.aload_n 0, 1) ∧ decode cX2_leastBy 2 = .ok (.getfield 15, 3) ∧ decode cX2_leastBy 5 = .ok (.imul, 1) ∧ decode cX2_leastBy 6 = .ok (.iload_n 1, 1) ∧ decode cX2_leastBy 7 = .ok (.isub, 1) ∧ decode cX2_leastBy 8 = .ok (.istore_n 2, 1) ∧ decode cX2_leastBy 9 = .ok (.aload_n 0, 1) ∧ decode cX2_leastBy 10 = .ok (.getfield 15, 3) ∧ decode cX2_leastBy 13 = .ok (.iconst 1, 1) ∧ decode cX2_leastBy 14 = .ok (.iadd, 1) ∧ decode cX2_leastBy 15 = .ok (.istore_n 3, 1) ∧ decode cX2_leastBy 16 = .ok (.iload_n 2, 1) ∧ decode cX2_leastBy 17 = .ok (.ifCond .ge 5, 3) ∧ decode cX2_leastBy 20 = .ok (.iload_n 3, 1) ∧ decode cX2_leastBy 21 = .ok (.ireturn, 1) := by decide +kernel
theorem dX2_leastBy_0 : decode cX2_leastBy 0 = .ok (.iconst 4, 1) := dX2_leastBy_0_k.1
theorem dX2_leastBy_1 : decode cX2_leastBy 1 = .ok (.aload_n 0, 1) := dX2_leastBy_0_k.2.1
theorem dX2_leastBy_2 : decode cX2_leastBy 2 = .ok (.getfield 15, 3) := dX2_leastBy_0_k.2.2.1
theorem dX2_leastBy_5 : decode cX2_leastBy 5 = .ok (.imul, 1) := dX2_leastBy_0_k.2.2.2.1
theorem dX2_leastBy_6 : decode cX2_leastBy 6 = .ok (.iload_n 1, 1) := dX2_leastBy_0_k.2.2.2.2.1
theorem dX2_leastBy_7 : decode cX2_leastBy 7 = .ok (.isub, 1) := dX2_leastBy_0_k.2.2.2.2.2.1
theorem dX2_leastBy_8 : decode cX2_leastBy 8 = .ok (.istore_n 2, 1) := dX2_leastBy_0_k.2.2.2.2.2.2.1
theorem dX2_leastBy_9 : decode cX2_leastBy 9 = .ok (.aload_n 0, 1) := dX2_leastBy_0_k.2.2.2.2.2.2.2.1
theorem dX2_leastBy_10 : decode cX2_leastBy 10 = .ok (.getfield 15, 3) := dX2_leastBy_0_k.2.2.2.2.2.2.2.2.1
theorem dX2_leastBy_13 : decode cX2_leastBy 13 = .ok (.iconst 1, 1) := dX2_leastBy_0_k.2.2.2.2.2.2.2.2.2.1
theorem dX2_leastBy_14 : decode cX2_leastBy 14 = .ok (.iadd, 1) := dX2_leastBy_0_k.2.2.2.2.2.2.2.2.2.2.1
theorem dX2_leastBy_15 : decode cX2_leastBy 15 = .ok (.istore_n 3, 1) := dX2_leastBy_0_k.2.2.2.2.2.2.2.2.2.2.2.1
theorem dX2_leastBy_16 : decode cX2_leastBy 16 = .ok (.iload_n 2, 1) := dX2_leastBy_0_k.2.2.2.2.2.2.2.2.2.2.2.2.1
theorem dX2_leastBy_17 : decode cX2_leastBy 17 = .ok (.ifCond .ge 5, 3) := dX2_leastBy_0_k.2.2.2.2.2.2.2.2.2.2.2.2.2.1
theorem dX2_leastBy_20 : decode cX2_leastBy 20 = .ok (.iload_n 3, 1) := dX2_leastBy_0_k.2.2.2.2.2.2.2.2.2.2.2.2.2.2.1
theorem dX2_leastBy_21 : decode cX2_leastBy 21 = .ok (.ireturn, 1) := dX2_leastBy_0_k.2.2.2.2.2.2.2.2.2.2.2.2.2.2.2
theorem dX2_leastBy_22_k : decode cX2_leastBy 22 = .ok (.lconst 1, 1) ∧ decode cX2_leastBy 23 = .ok (.iload_n 2, 1) ∧ decode cX2_leastBy 24 = .ok (.lshl, 1) ∧ decode cX2_leastBy 25 = .ok (.lstore 4, 2) ∧ decode cX2_leastBy 27 = .ok (.aload_n 0, 1) ∧ decode cX2_leastBy 28 = .ok (.getfield 15, 3) ∧ decode cX2_leastBy 31 = .ok (.bipush 15, 2) ∧ decode cX2_leastBy 33 = .ok (.invokestatic 28, 3) ∧ decode cX2_leastBy 36 = .ok (.istore 6, 2) ∧ decode cX2_leastBy 38 = .ok (.iload 6, 2) ∧ decode cX2_leastBy 40 = .ok (.iconst 1, 1) ∧ decode cX2_leastBy 41 = .ok (.if_icmp .lt 25, 3) ∧ decode cX2_leastBy 44 = .ok (.aload_n 0, 1) ∧ decode cX2_leastBy 45 = .ok (.getfield 9, 3) ∧ decode cX2_leastBy 48 = .ok (.iload 6, 2) ∧ decode cX2_leastBy 50 = .ok (.laload, 1) := by decide +kernel
theorem dX2_leastBy_22 : decode cX2_leastBy 22 = .ok (.lconst 1, 1) := dX2_leastBy_22_k.1
theorem dX2_leastBy_23 : decode cX2_leastBy 23 = .ok (.iload_n 2, 1) := dX2_leastBy_22_k.2.1
theorem dX2_leastBy_24 : decode cX2_leastBy 24 = .ok (.lshl, 1) := dX2_leastBy_22_k.2.2.1
theorem dX2_leastBy_25 : decode cX2_leastBy 25 = .ok (.lstore 4, 2) := dX2_leastBy_22_k.2.2.2.1
theorem dX2_leastBy_27 : decode cX2_leastBy 27 = .ok (.aload_n 0, 1) := dX2_leastBy_22_k.2.2.2.2.1
theorem dX2_leastBy_28 : decode cX2_leastBy 28 = .ok (.getfield 15, 3) := dX2_leastBy_22_k.2.2.2.2.2.1
theorem dX2_leastBy_31 : decode cX2_leastBy 31 = .ok (.bipush 15, 2) := dX2_leastBy_22_k.2.2.2.2.2.2.1
theorem dX2_leastBy_33 : decode cX2_leastBy 33 = .ok (.invokestatic 28, 3) := dX2_leastBy_22_k.2.2.2.2.2.2.2.1
theorem dX2_leastBy_36 : decode cX2_leastBy 36 = .ok (.istore 6, 2) := dX2_leastBy_22_k.2.2.2.2.2.2.2.2.1
theorem dX2_leastBy_38 : decode cX2_leastBy 38 = .ok (.iload 6, 2) := dX2_leastBy_22_k.2.2.2.2.2.2.2.2.2.1
theorem dX2_leastBy_40 : decode cX2_leastBy 40 = .ok (.iconst 1, 1) := dX2_leastBy_22_k.2.2.2.2.2.2.2.2.2.2.1
theorem dX2_leastBy_41 : decode cX2_leastBy 41 = .ok (.if_icmp .lt 25, 3) := dX2_leastBy_22_k.2.2.2.2.2.2.2.2.2.2.2.1
theorem dX2_leastBy_44 : decode cX2_leastBy 44 = .ok (.aload_n 0, 1) := dX2_leastBy_22_k.2.2.2.2.2.2.2.2.2.2.2.2.1
theorem dX2_leastBy_45 : decode cX2_leastBy 45 = .ok (.getfield 9, 3) := dX2_leastBy_22_k.2.2.2.2.2.2.2.2.2.2.2.2.2.1
theorem dX2_leastBy_48 : decode cX2_leastBy 48 = .ok (.iload 6, 2) := dX2_leastBy_22_k.2.2.2.2.2.2.2.2.2.2.2.2.2.2.1
theorem dX2_leastBy_50 : decode cX2_leastBy 50 = .ok (.laload, 1) := dX2_leastBy_22_k.2.2.2.2.2.2.2.2.2.2.2.2.2.2.2
theorem dX2_leastBy_51_k : decode cX2_leastBy 51 = .ok (.lload 4, 2) ∧ decode cX2_leastBy 53 = .ok (.lcmp, 1) ∧ decode cX2_leastBy 54 = .ok (.ifCond .gt 12, 3) ∧ decode cX2_leastBy 57 = .ok (.iload 6, 2) ∧ decode cX2_leastBy 59 = .ok (.istore_n 3, 1) ∧ decode cX2_leastBy 60 = .ok (.iinc 6 (-1), 3) ∧ decode cX2_leastBy 63 = .ok (.goto (-25), 3) ∧ decode cX2_leastBy 66 = .ok (.iload_n 3, 1) ∧ decode cX2_leastBy 67 = .ok (.ireturn, 1) := by decide +kernel
theorem dX2_leastBy_51 : decode cX2_leastBy 51 = .ok (.lload 4, 2) := dX2_leastBy_51_k.1
theorem dX2_leastBy_53 : decode cX2_leastBy 53 = .ok (.lcmp, 1) := dX2_leastBy_51_k.2.1
theorem dX2_leastBy_54 : decode cX2_leastBy 54 = .ok (.ifCond .gt 12, 3) := dX2_leastBy_51_k.2.2.1
theorem dX2_leastBy_57 : decode cX2_leastBy 57 = .ok (.iload 6, 2) := dX2_leastBy_51_k.2.2.2.1
theorem dX2_leastBy_59 : decode cX2_leastBy 59 = .ok (.istore_n 3, 1) := dX2_leastBy_51_k.2.2.2.2.1
theorem dX2_leastBy_60 : decode cX2_leastBy 60 = .ok (.iinc 6 (-1), 3) := dX2_leastBy_51_k.2.2.2.2.2.1
theorem dX2_leastBy_63 : decode cX2_leastBy 63 = .ok (.goto (-25), 3) := dX2_leastBy_51_k.2.2.2.2.2.2.1
theorem dX2_leastBy_66 : decode cX2_leastBy 66 = .ok (.iload_n 3, 1) := dX2_leastBy_51_k.2.2.2.2.2.2.2.1
theorem dX2_leastBy_67 : decode cX2_leastBy 67 = .ok (.ireturn, 1) := dX2_leastBy_51_k.2.2.2.2.2.2.2.2
theorem dX2_leastTerms_0_k : decode cX2_leastTerms 0 = .ok (.iload_n 1, 1) ∧ decode cX2_leastTerms 1 = .ok (.ifCond .lt 20, 3) ∧ decode cX2_leastTerms 4 = .ok (.iload_n 1, 1) ∧ decode cX2_leastTerms 5 = .ok (.aload_n 0, 1) ∧ decode cX2_leastTerms 6 = .ok (.getfield 15, 3) ∧ decode cX2_leastTerms 9 = .ok (.if_icmp .gt 12, 3) ∧ decode cX2_leastTerms 12 = .ok (.iload_n 1, 1) ∧ decode cX2_leastTerms 13 = .ok (.aload_n 0, 1) ∧ decode cX2_leastTerms 14 = .ok (.getfield 9, 3) ∧ decode cX2_leastTerms 17 = .ok (.arraylength, 1) ∧ decode cX2_leastTerms 18 = .ok (.if_icmp .lt 7, 3) ∧ decode cX2_leastTerms 21 = .ok (.lconst 0, 1) ∧ decode cX2_leastTerms 22 = .ok (.goto 9, 3) ∧ decode cX2_leastTerms 25 = .ok (.aload_n 0, 1) ∧ decode cX2_leastTerms 26 = .ok (.getfield 9, 3) ∧ decode cX2_leastTerms 29 = .ok (.iload_n 1, 1) := by decide +kernel
theorem dX2_leastTerms_0 : decode cX2_leastTerms 0 = .ok (.iload_n 1, 1) := dX2_leastTerms_0_k.1
theorem dX2_leastTerms_1 : decode cX2_leastTerms 1 = .ok (.ifCond .lt 20, 3) := dX2_leastTerms_0_k.2.1
theorem dX2_leastTerms_4 : decode cX2_leastTerms 4 = .ok (.iload_n 1, 1) := dX2_leastTerms_0_k.2.2.1
theorem dX2_leastTerms_5 : decode cX2_leastTerms 5 = .ok (.aload_n 0, 1) := dX2_leastTerms_0_k.2.2.2.1
theorem dX2_leastTerms_6 : decode cX2_leastTerms 6 = .ok (.getfield 15, 3) := dX2_leastTerms_0_k.2.2.2.2.1
theorem dX2_leastTerms_9 : decode cX2_leastTerms 9 = .ok (.if_icmp .gt 12, 3) := dX2_leastTerms_0_k.2.2.2.2.2.1
theorem dX2_leastTerms_12 : decode cX2_leastTerms 12 = .ok (.iload_n 1, 1) := dX2_leastTerms_0_k.2.2.2.2.2.2.1
theorem dX2_leastTerms_13 : decode cX2_leastTerms 13 = .ok (.aload_n 0, 1) := dX2_leastTerms_0_k.2.2.2.2.2.2.2.1
theorem dX2_leastTerms_14 : decode cX2_leastTerms 14 = .ok (.getfield 9, 3) := dX2_leastTerms_0_k.2.2.2.2.2.2.2.2.1
theorem dX2_leastTerms_17 : decode cX2_leastTerms 17 = .ok (.arraylength, 1) := dX2_leastTerms_0_k.2.2.2.2.2.2.2.2.2.1
theorem dX2_leastTerms_18 : decode cX2_leastTerms 18 = .ok (.if_icmp .lt 7, 3) := dX2_leastTerms_0_k.2.2.2.2.2.2.2.2.2.2.1
theorem dX2_leastTerms_21 : decode cX2_leastTerms 21 = .ok (.lconst 0, 1) := dX2_leastTerms_0_k.2.2.2.2.2.2.2.2.2.2.2.1
theorem dX2_leastTerms_22 : decode cX2_leastTerms 22 = .ok (.goto 9, 3) := dX2_leastTerms_0_k.2.2.2.2.2.2.2.2.2.2.2.2.1
theorem dX2_leastTerms_25 : decode cX2_leastTerms 25 = .ok (.aload_n 0, 1) := dX2_leastTerms_0_k.2.2.2.2.2.2.2.2.2.2.2.2.2.1
theorem dX2_leastTerms_26 : decode cX2_leastTerms 26 = .ok (.getfield 9, 3) := dX2_leastTerms_0_k.2.2.2.2.2.2.2.2.2.2.2.2.2.2.1
theorem dX2_leastTerms_29 : decode cX2_leastTerms 29 = .ok (.iload_n 1, 1) := dX2_leastTerms_0_k.2.2.2.2.2.2.2.2.2.2.2.2.2.2.2
theorem dX2_leastTerms_30_k : decode cX2_leastTerms 30 = .ok (.laload, 1) ∧ decode cX2_leastTerms 31 = .ok (.lstore_n 3, 1) ∧ decode cX2_leastTerms 32 = .ok (.lload_n 3, 1) ∧ decode cX2_leastTerms 33 = .ok (.lconst 0, 1) ∧ decode cX2_leastTerms 34 = .ok (.lcmp, 1) ∧ decode cX2_leastTerms 35 = .ok (.ifCond .ne 13, 3) ∧ decode cX2_leastTerms 38 = .ok (.iload_n 2, 1) ∧ decode cX2_leastTerms 39 = .ok (.ifCond .eq 7, 3) ∧ decode cX2_leastTerms 42 = .ok (.lconst 1, 1) ∧ decode cX2_leastTerms 43 = .ok (.goto 4, 3) ∧ decode cX2_leastTerms 46 = .ok (.lconst 0, 1) ∧ decode cX2_leastTerms 47 = .ok (.lreturn, 1) ∧ decode cX2_leastTerms 48 = .ok (.lconst 1, 1) ∧ decode cX2_leastTerms 49 = .ok (.iconst 4, 1) ∧ decode cX2_leastTerms 50 = .ok (.aload_n 0, 1) ∧ decode cX2_leastTerms 51 = .ok (.getfield 15, 3) := by decide +kernel
theorem dX2_leastTerms_30 : decode cX2_leastTerms 30 = .ok (.laload, 1) := dX2_leastTerms_30_k.1
theorem dX2_leastTerms_31 : decode cX2_leastTerms 31 = .ok (.lstore_n 3, 1) := dX2_leastTerms_30_k.2.1
theorem dX2_leastTerms_32 : decode cX2_leastTerms 32 = .ok (.lload_n 3, 1) := dX2_leastTerms_30_k.2.2.1
theorem dX2_leastTerms_33 : decode cX2_leastTerms 33 = .ok (.lconst 0, 1) := dX2_leastTerms_30_k.2.2.2.1
theorem dX2_leastTerms_34 : decode cX2_leastTerms 34 = .ok (.lcmp, 1) := dX2_leastTerms_30_k.2.2.2.2.1
theorem dX2_leastTerms_35 : decode cX2_leastTerms 35 = .ok (.ifCond .ne 13, 3) := dX2_leastTerms_30_k.2.2.2.2.2.1
theorem dX2_leastTerms_38 : decode cX2_leastTerms 38 = .ok (.iload_n 2, 1) := dX2_leastTerms_30_k.2.2.2.2.2.2.1
theorem dX2_leastTerms_39 : decode cX2_leastTerms 39 = .ok (.ifCond .eq 7, 3) := dX2_leastTerms_30_k.2.2.2.2.2.2.2.1
theorem dX2_leastTerms_42 : decode cX2_leastTerms 42 = .ok (.lconst 1, 1) := dX2_leastTerms_30_k.2.2.2.2.2.2.2.2.1
theorem dX2_leastTerms_43 : decode cX2_leastTerms 43 = .ok (.goto 4, 3) := dX2_leastTerms_30_k.2.2.2.2.2.2.2.2.2.1
theorem dX2_leastTerms_46 : decode cX2_leastTerms 46 = .ok (.lconst 0, 1) := dX2_leastTerms_30_k.2.2.2.2.2.2.2.2.2.2.1
theorem dX2_leastTerms_47 : decode cX2_leastTerms 47 = .ok (.lreturn, 1) := dX2_leastTerms_30_k.2.2.2.2.2.2.2.2.2.2.2.1
theorem dX2_leastTerms_48 : decode cX2_leastTerms 48 = .ok (.lconst 1, 1) := dX2_leastTerms_30_k.2.2.2.2.2.2.2.2.2.2.2.2.1
theorem dX2_leastTerms_49 : decode cX2_leastTerms 49 = .ok (.iconst 4, 1) := dX2_leastTerms_30_k.2.2.2.2.2.2.2.2.2.2.2.2.2.1
theorem dX2_leastTerms_50 : decode cX2_leastTerms 50 = .ok (.aload_n 0, 1) := dX2_leastTerms_30_k.2.2.2.2.2.2.2.2.2.2.2.2.2.2.1
theorem dX2_leastTerms_51 : decode cX2_leastTerms 51 = .ok (.getfield 15, 3) := dX2_leastTerms_30_k.2.2.2.2.2.2.2.2.2.2.2.2.2.2.2
theorem dX2_leastTerms_54_k : decode cX2_leastTerms 54 = .ok (.imul, 1) ∧ decode cX2_leastTerms 55 = .ok (.lshl, 1) ∧ decode cX2_leastTerms 56 = .ok (.lstore 5, 2) ∧ decode cX2_leastTerms 58 = .ok (.iconst 0, 1) ∧ decode cX2_leastTerms 59 = .ok (.istore 7, 2) ∧ decode cX2_leastTerms 61 = .ok (.iload 7, 2) ∧ decode cX2_leastTerms 63 = .ok (.bipush 60, 2) ∧ decode cX2_leastTerms 65 = .ok (.if_icmp .ge 36, 3) ∧ decode cX2_leastTerms 68 = .ok (.lload_n 3, 1) ∧ decode cX2_leastTerms 69 = .ok (.lconst 1, 1) ∧ decode cX2_leastTerms 70 = .ok (.land, 1) ∧ decode cX2_leastTerms 71 = .ok (.lconst 0, 1) ∧ decode cX2_leastTerms 72 = .ok (.lcmp, 1) ∧ decode cX2_leastTerms 73 = .ok (.ifCond .ne 28, 3) ∧ decode cX2_leastTerms 76 = .ok (.lload 5, 2) ∧ decode cX2_leastTerms 78 = .ok (.lconst 1, 1) := by decide +kernel
theorem dX2_leastTerms_54 : decode cX2_leastTerms 54 = .ok (.imul, 1) := dX2_leastTerms_54_k.1
theorem dX2_leastTerms_55 : decode cX2_leastTerms 55 = .ok (.lshl, 1) := dX2_leastTerms_54_k.2.1
theorem dX2_leastTerms_56 : decode cX2_leastTerms 56 = .ok (.lstore 5, 2) := dX2_leastTerms_54_k.2.2.1
theorem dX2_leastTerms_58 : decode cX2_leastTerms 58 = .ok (.iconst 0, 1) := dX2_leastTerms_54_k.2.2.2.1
theorem dX2_leastTerms_59 : decode cX2_leastTerms 59 = .ok (.istore 7, 2) := dX2_leastTerms_54_k.2.2.2.2.1
theorem dX2_leastTerms_61 : decode cX2_leastTerms 61 = .ok (.iload 7, 2) := dX2_leastTerms_54_k.2.2.2.2.2.1
theorem dX2_leastTerms_63 : decode cX2_leastTerms 63 = .ok (.bipush 60, 2) := dX2_leastTerms_54_k.2.2.2.2.2.2.1
theorem dX2_leastTerms_65 : decode cX2_leastTerms 65 = .ok (.if_icmp .ge 36, 3) := dX2_leastTerms_54_k.2.2.2.2.2.2.2.1
theorem dX2_leastTerms_68 : decode cX2_leastTerms 68 = .ok (.lload_n 3, 1) := dX2_leastTerms_54_k.2.2.2.2.2.2.2.2.1
theorem dX2_leastTerms_69 : decode cX2_leastTerms 69 = .ok (.lconst 1, 1) := dX2_leastTerms_54_k.2.2.2.2.2.2.2.2.2.1
theorem dX2_leastTerms_70 : decode cX2_leastTerms 70 = .ok (.land, 1) := dX2_leastTerms_54_k.2.2.2.2.2.2.2.2.2.2.1
theorem dX2_leastTerms_71 : decode cX2_leastTerms 71 = .ok (.lconst 0, 1) := dX2_leastTerms_54_k.2.2.2.2.2.2.2.2.2.2.2.1
theorem dX2_leastTerms_72 : decode cX2_leastTerms 72 = .ok (.lcmp, 1) := dX2_leastTerms_54_k.2.2.2.2.2.2.2.2.2.2.2.2.1
theorem dX2_leastTerms_73 : decode cX2_leastTerms 73 = .ok (.ifCond .ne 28, 3) := dX2_leastTerms_54_k.2.2.2.2.2.2.2.2.2.2.2.2.2.1
theorem dX2_leastTerms_76 : decode cX2_leastTerms 76 = .ok (.lload 5, 2) := dX2_leastTerms_54_k.2.2.2.2.2.2.2.2.2.2.2.2.2.2.1
theorem dX2_leastTerms_78 : decode cX2_leastTerms 78 = .ok (.lconst 1, 1) := dX2_leastTerms_54_k.2.2.2.2.2.2.2.2.2.2.2.2.2.2.2
theorem dX2_leastTerms_79_k : decode cX2_leastTerms 79 = .ok (.land, 1) ∧ decode cX2_leastTerms 80 = .ok (.lconst 0, 1) ∧ decode cX2_leastTerms 81 = .ok (.lcmp, 1) ∧ decode cX2_leastTerms 82 = .ok (.ifCond .ne 19, 3) ∧ decode cX2_leastTerms 85 = .ok (.lload_n 3, 1) ∧ decode cX2_leastTerms 86 = .ok (.iconst 1, 1) ∧ decode cX2_leastTerms 87 = .ok (.lshr, 1) ∧ decode cX2_leastTerms 88 = .ok (.lstore_n 3, 1) ∧ decode cX2_leastTerms 89 = .ok (.lload 5, 2) ∧ decode cX2_leastTerms 91 = .ok (.iconst 1, 1) ∧ decode cX2_leastTerms 92 = .ok (.lshr, 1) ∧ decode cX2_leastTerms 93 = .ok (.lstore 5, 2) ∧ decode cX2_leastTerms 95 = .ok (.iinc 7 1, 3) ∧ decode cX2_leastTerms 98 = .ok (.goto (-37), 3) ∧ decode cX2_leastTerms 101 = .ok (.iload_n 2, 1) ∧ decode cX2_leastTerms 102 = .ok (.ifCond .eq 8, 3) := by decide +kernel
theorem dX2_leastTerms_79 : decode cX2_leastTerms 79 = .ok (.land, 1) := dX2_leastTerms_79_k.1
theorem dX2_leastTerms_80 : decode cX2_leastTerms 80 = .ok (.lconst 0, 1) := dX2_leastTerms_79_k.2.1
theorem dX2_leastTerms_81 : decode cX2_leastTerms 81 = .ok (.lcmp, 1) := dX2_leastTerms_79_k.2.2.1
theorem dX2_leastTerms_82 : decode cX2_leastTerms 82 = .ok (.ifCond .ne 19, 3) := dX2_leastTerms_79_k.2.2.2.1
theorem dX2_leastTerms_85 : decode cX2_leastTerms 85 = .ok (.lload_n 3, 1) := dX2_leastTerms_79_k.2.2.2.2.1
theorem dX2_leastTerms_86 : decode cX2_leastTerms 86 = .ok (.iconst 1, 1) := dX2_leastTerms_79_k.2.2.2.2.2.1
theorem dX2_leastTerms_87 : decode cX2_leastTerms 87 = .ok (.lshr, 1) := dX2_leastTerms_79_k.2.2.2.2.2.2.1
theorem dX2_leastTerms_88 : decode cX2_leastTerms 88 = .ok (.lstore_n 3, 1) := dX2_leastTerms_79_k.2.2.2.2.2.2.2.1
theorem dX2_leastTerms_89 : decode cX2_leastTerms 89 = .ok (.lload 5, 2) := dX2_leastTerms_79_k.2.2.2.2.2.2.2.2.1
theorem dX2_leastTerms_91 : decode cX2_leastTerms 91 = .ok (.iconst 1, 1) := dX2_leastTerms_79_k.2.2.2.2.2.2.2.2.2.1
theorem dX2_leastTerms_92 : decode cX2_leastTerms 92 = .ok (.lshr, 1) := dX2_leastTerms_79_k.2.2.2.2.2.2.2.2.2.2.1
theorem dX2_leastTerms_93 : decode cX2_leastTerms 93 = .ok (.lstore 5, 2) := dX2_leastTerms_79_k.2.2.2.2.2.2.2.2.2.2.2.1
theorem dX2_leastTerms_95 : decode cX2_leastTerms 95 = .ok (.iinc 7 1, 3) := dX2_leastTerms_79_k.2.2.2.2.2.2.2.2.2.2.2.2.1
theorem dX2_leastTerms_98 : decode cX2_leastTerms 98 = .ok (.goto (-37), 3) := dX2_leastTerms_79_k.2.2.2.2.2.2.2.2.2.2.2.2.2.1
theorem dX2_leastTerms_101 : decode cX2_leastTerms 101 = .ok (.iload_n 2, 1) := dX2_leastTerms_79_k.2.2.2.2.2.2.2.2.2.2.2.2.2.2.1
theorem dX2_leastTerms_102 : decode cX2_leastTerms 102 = .ok (.ifCond .eq 8, 3) := dX2_leastTerms_79_k.2.2.2.2.2.2.2.2.2.2.2.2.2.2.2
theorem dX2_leastTerms_105_k : decode cX2_leastTerms 105 = .ok (.lload 5, 2) ∧ decode cX2_leastTerms 107 = .ok (.goto 4, 3) ∧ decode cX2_leastTerms 110 = .ok (.lload_n 3, 1) ∧ decode cX2_leastTerms 111 = .ok (.lreturn, 1) := by decide +kernel
theorem dX2_leastTerms_105 : decode cX2_leastTerms 105 = .ok (.lload 5, 2) := dX2_leastTerms_105_k.1
theorem dX2_leastTerms_107 : decode cX2_leastTerms 107 = .ok (.goto 4, 3) := dX2_leastTerms_105_k.2.1
theorem dX2_leastTerms_110 : decode cX2_leastTerms 110 = .ok (.lload_n 3, 1) := dX2_leastTerms_105_k.2.2.1
theorem dX2_leastTerms_111 : decode cX2_leastTerms 111 = .ok (.lreturn, 1) := dX2_leastTerms_105_k.2.2.2
theorem dX2_setLimits_0_k : decode cX2_setLimits 0 = .ok (.aload_n 0, 1) ∧ decode cX2_setLimits 1 = .ok (.iload_n 1, 1) ∧ decode cX2_setLimits 2 = .ok (.iload_n 2, 1) ∧ decode cX2_setLimits 3 = .ok (.invokestatic 43, 3) ∧ decode cX2_setLimits 6 = .ok (.putfield 19, 3) ∧ decode cX2_setLimits 9 = .ok (.aload_n 0, 1) ∧ decode cX2_setLimits 10 = .ok (.iload_n 3, 1) ∧ decode cX2_setLimits 11 = .ok (.iconst 1, 1) ∧ decode cX2_setLimits 12 = .ok (.isub, 1) ∧ decode cX2_setLimits 13 = .ok (.iload_n 1, 1) ∧ decode cX2_setLimits 14 = .ok (.invokevirtual 46, 3) ∧ decode cX2_setLimits 17 = .ok (.aload_n 0, 1) ∧ decode cX2_setLimits 18 = .ok (.aload_n 0, 1) ∧ decode cX2_setLimits 19 = .ok (.iload_n 2, 1) ∧ decode cX2_setLimits 20 = .ok (.invokevirtual 49, 3) ∧ decode cX2_setLimits 23 = .ok (.iconst 1, 1) := by decide +kernel
theorem dX2_setLimits_0 : decode cX2_setLimits 0 = .ok (.aload_n 0, 1) := dX2_setLimits_0_k.1
theorem dX2_setLimits_1 : decode cX2_setLimits 1 = .ok (.iload_n 1, 1) := dX2_setLimits_0_k.2.1
theorem dX2_setLimits_2 : decode cX2_setLimits 2 = .ok (.iload_n 2, 1) := dX2_setLimits_0_k.2.2.1
theorem dX2_setLimits_3 : decode cX2_setLimits 3 = .ok (.invokestatic 43, 3) := dX2_setLimits_0_k.2.2.2.1
theorem dX2_setLimits_6 : decode cX2_setLimits 6 = .ok (.putfield 19, 3) := dX2_setLimits_0_k.2.2.2.2.1
theorem dX2_setLimits_9 : decode cX2_setLimits 9 = .ok (.aload_n 0, 1) := dX2_setLimits_0_k.2.2.2.2.2.1
theorem dX2_setLimits_10 : decode cX2_setLimits 10 = .ok (.iload_n 3, 1) := dX2_setLimits_0_k.2.2.2.2.2.2.1
theorem dX2_setLimits_11 : decode cX2_setLimits 11 = .ok (.iconst 1, 1) := dX2_setLimits_0_k.2.2.2.2.2.2.2.1
theorem dX2_setLimits_12 : decode cX2_setLimits 12 = .ok (.isub, 1) := dX2_setLimits_0_k.2.2.2.2.2.2.2.2.1
theorem dX2_setLimits_13 : decode cX2_setLimits 13 = .ok (.iload_n 1, 1) := dX2_setLimits_0_k.2.2.2.2.2.2.2.2.2.1
theorem dX2_setLimits_14 : decode cX2_setLimits 14 = .ok (.invokevirtual 46, 3) := dX2_setLimits_0_k.2.2.2.2.2.2.2.2.2.2.1
theorem dX2_setLimits_17 : decode cX2_setLimits 17 = .ok (.aload_n 0, 1) := dX2_setLimits_0_k.2.2.2.2.2.2.2.2.2.2.2.1
theorem dX2_setLimits_18 : decode cX2_setLimits 18 = .ok (.aload_n 0, 1) := dX2_setLimits_0_k.2.2.2.2.2.2.2.2.2.2.2.2.1
theorem dX2_setLimits_19 : decode cX2_setLimits 19 = .ok (.iload_n 2, 1) := dX2_setLimits_0_k.2.2.2.2.2.2.2.2.2.2.2.2.2.1
theorem dX2_setLimits_20 : decode cX2_setLimits 20 = .ok (.invokevirtual 49, 3) := dX2_setLimits_0_k.2.2.2.2.2.2.2.2.2.2.2.2.2.2.1
theorem dX2_setLimits_23 : decode cX2_setLimits 23 = .ok (.iconst 1, 1) := dX2_setLimits_0_k.2.2.2.2.2.2.2.2.2.2.2.2.2.2.2
theorem dX2_setLimits_24_k : decode cX2_setLimits 24 = .ok (.iadd, 1) ∧ decode cX2_setLimits 25 = .ok (.putfield 22, 3) ∧ decode cX2_setLimits 28 = .ok (.aload_n 0, 1) ∧ decode cX2_setLimits 29 = .ok (.iload_n 3, 1) ∧ decode cX2_setLimits 30 = .ok (.iconst 1, 1) ∧ decode cX2_setLimits 31 = .ok (.isub, 1) ∧ decode cX2_setLimits 32 = .ok (.bipush 8, 2) ∧ decode cX2_setLimits 34 = .ok (.invokevirtual 46, 3) ∧ decode cX2_setLimits 37 = .ok (.aload_n 0, 1) ∧ decode cX2_setLimits 38 = .ok (.aload_n 0, 1) ∧ decode cX2_setLimits 39 = .ok (.iload_n 2, 1) ∧ decode cX2_setLimits 40 = .ok (.invokevirtual 49, 3) ∧ decode cX2_setLimits 43 = .ok (.putfield 25, 3) ∧ decode cX2_setLimits 46 = .ok (.return_, 1) := by decide +kernel
theorem dX2_setLimits_24 : decode cX2_setLimits 24 = .ok (.iadd, 1) := dX2_setLimits_24_k.1
theorem dX2_setLimits_25 : decode cX2_setLimits 25 = .ok (.putfield 22, 3) := dX2_setLimits_24_k.2.1
theorem dX2_setLimits_28 : decode cX2_setLimits 28 = .ok (.aload_n 0, 1) := dX2_setLimits_24_k.2.2.1
theorem dX2_setLimits_29 : decode cX2_setLimits 29 = .ok (.iload_n 3, 1) := dX2_setLimits_24_k.2.2.2.1
theorem dX2_setLimits_30 : decode cX2_setLimits 30 = .ok (.iconst 1, 1) := dX2_setLimits_24_k.2.2.2.2.1
theorem dX2_setLimits_31 : decode cX2_setLimits 31 = .ok (.isub, 1) := dX2_setLimits_24_k.2.2.2.2.2.1
theorem dX2_setLimits_32 : decode cX2_setLimits 32 = .ok (.bipush 8, 2) := dX2_setLimits_24_k.2.2.2.2.2.2.1
theorem dX2_setLimits_34 : decode cX2_setLimits 34 = .ok (.invokevirtual 46, 3) := dX2_setLimits_24_k.2.2.2.2.2.2.2.1
theorem dX2_setLimits_37 : decode cX2_setLimits 37 = .ok (.aload_n 0, 1) := dX2_setLimits_24_k.2.2.2.2.2.2.2.2.1
theorem dX2_setLimits_38 : decode cX2_setLimits 38 = .ok (.aload_n 0, 1) := dX2_setLimits_24_k.2.2.2.2.2.2.2.2.2.1
theorem dX2_setLimits_39 : decode cX2_setLimits 39 = .ok (.iload_n 2, 1) := dX2_setLimits_24_k.2.2.2.2.2.2.2.2.2.2.1
theorem dX2_setLimits_40 : decode cX2_setLimits 40 = .ok (.invokevirtual 49, 3) := dX2_setLimits_24_k.2.2.2.2.2.2.2.2.2.2.2.1
theorem dX2_setLimits_43 : decode cX2_setLimits 43 = .ok (.putfield 25, 3) := dX2_setLimits_24_k.2.2.2.2.2.2.2.2.2.2.2.2.1
theorem dX2_setLimits_46 : decode cX2_setLimits 46 = .ok (.return_, 1) := dX2_setLimits_24_k.2.2.2.2.2.2.2.2.2.2.2.2.2
theorem dX2_leastRepeats_0_k : decode cX2_leastRepeats 0 = .ok (.lconst 1, 1) ∧ decode cX2_leastRepeats 1 = .ok (.lstore_n 2, 1) ∧ decode cX2_leastRepeats 2 = .ok (.iconst 2, 1) ∧ decode cX2_leastRepeats 3 = .ok (.istore 4, 2) ∧ decode cX2_leastRepeats 5 = .ok (.iload 4, 2) ∧ decode cX2_leastRepeats 7 = .ok (.bipush 16, 2) ∧ decode cX2_leastRepeats 9 = .ok (.if_icmp .ge 41, 3) ∧ decode cX2_leastRepeats 12 = .ok (.lload_n 2, 1) ∧ decode cX2_leastRepeats 13 = .ok (.iload_n 0, 1) ∧ decode cX2_leastRepeats 14 = .ok (.i2l, 1) ∧ decode cX2_leastRepeats 15 = .ok (.lmul, 1) ∧ decode cX2_leastRepeats 16 = .ok (.lstore_n 2, 1) ∧ decode cX2_leastRepeats 17 = .ok (.iconst 4, 1) ∧ decode cX2_leastRepeats 18 = .ok (.iload 4, 2) ∧ decode cX2_leastRepeats 20 = .ok (.iconst 1, 1) ∧ decode cX2_leastRepeats 21 = .ok (.isub, 1) := by decide +kernel
theorem dX2_leastRepeats_0 : decode cX2_leastRepeats 0 = .ok (.lconst 1, 1) := dX2_leastRepeats_0_k.1
theorem dX2_leastRepeats_1 : decode cX2_leastRepeats 1 = .ok (.lstore_n 2, 1) := dX2_leastRepeats_0_k.2.1
theorem dX2_leastRepeats_2 : decode cX2_leastRepeats 2 = .ok (.iconst 2, 1) := dX2_leastRepeats_0_k.2.2.1
theorem dX2_leastRepeats_3 : decode cX2_leastRepeats 3 = .ok (.istore 4, 2) := dX2_leastRepeats_0_k.2.2.2.1
theorem dX2_leastRepeats_5 : decode cX2_leastRepeats 5 = .ok (.iload 4, 2) := dX2_leastRepeats_0_k.2.2.2.2.1
theorem dX2_leastRepeats_7 : decode cX2_leastRepeats 7 = .ok (.bipush 16, 2) := dX2_leastRepeats_0_k.2.2.2.2.2.1
theorem dX2_leastRepeats_9 : decode cX2_leastRepeats 9 = .ok (.if_icmp .ge 41, 3) := dX2_leastRepeats_0_k.2.2.2.2.2.2.1
theorem dX2_leastRepeats_12 : decode cX2_leastRepeats 12 = .ok (.lload_n 2, 1) := dX2_leastRepeats_0_k.2.2.2.2.2.2.2.1
theorem dX2_leastRepeats_13 : decode cX2_leastRepeats 13 = .ok (.iload_n 0, 1) := dX2_leastRepeats_0_k.2.2.2.2.2.2.2.2.1
theorem dX2_leastRepeats_14 : decode cX2_leastRepeats 14 = .ok (.i2l, 1) := dX2_leastRepeats_0_k.2.2.2.2.2.2.2.2.2.1
theorem dX2_leastRepeats_15 : decode cX2_leastRepeats 15 = .ok (.lmul, 1) := dX2_leastRepeats_0_k.2.2.2.2.2.2.2.2.2.2.1
theorem dX2_leastRepeats_16 : decode cX2_leastRepeats 16 = .ok (.lstore_n 2, 1) := dX2_leastRepeats_0_k.2.2.2.2.2.2.2.2.2.2.2.1
theorem dX2_leastRepeats_17 : decode cX2_leastRepeats 17 = .ok (.iconst 4, 1) := dX2_leastRepeats_0_k.2.2.2.2.2.2.2.2.2.2.2.2.1
theorem dX2_leastRepeats_18 : decode cX2_leastRepeats 18 = .ok (.iload 4, 2) := dX2_leastRepeats_0_k.2.2.2.2.2.2.2.2.2.2.2.2.2.1
theorem dX2_leastRepeats_20 : decode cX2_leastRepeats 20 = .ok (.iconst 1, 1) := dX2_leastRepeats_0_k.2.2.2.2.2.2.2.2.2.2.2.2.2.2.1
theorem dX2_leastRepeats_21 : decode cX2_leastRepeats 21 = .ok (.isub, 1) := dX2_leastRepeats_0_k.2.2.2.2.2.2.2.2.2.2.2.2.2.2.2
theorem dX2_leastRepeats_22_k : decode cX2_leastRepeats 22 = .ok (.imul, 1) ∧ decode cX2_leastRepeats 23 = .ok (.iload_n 1, 1) ∧ decode cX2_leastRepeats 24 = .ok (.isub, 1) ∧ decode cX2_leastRepeats 25 = .ok (.istore 5, 2) ∧ decode cX2_leastRepeats 27 = .ok (.iload 5, 2) ∧ decode cX2_leastRepeats 29 = .ok (.ifCond .lt 15, 3) ∧ decode cX2_leastRepeats 32 = .ok (.lload_n 2, 1) ∧ decode cX2_leastRepeats 33 = .ok (.lconst 1, 1) ∧ decode cX2_leastRepeats 34 = .ok (.iload 5, 2) ∧ decode cX2_leastRepeats 36 = .ok (.lshl, 1) ∧ decode cX2_leastRepeats 37 = .ok (.lcmp, 1) ∧ decode cX2_leastRepeats 38 = .ok (.ifCond .gt 6, 3) ∧ decode cX2_leastRepeats 41 = .ok (.iload 4, 2) ∧ decode cX2_leastRepeats 43 = .ok (.ireturn, 1) ∧ decode cX2_leastRepeats 44 = .ok (.iinc 4 1, 3) ∧ decode cX2_leastRepeats 47 = .ok (.goto (-42), 3) := by decide +kernel
theorem dX2_leastRepeats_22 : decode cX2_leastRepeats 22 = .ok (.imul, 1) := dX2_leastRepeats_22_k.1
theorem dX2_leastRepeats_23 : decode cX2_leastRepeats 23 = .ok (.iload_n 1, 1) := dX2_leastRepeats_22_k.2.1
theorem dX2_leastRepeats_24 : decode cX2_leastRepeats 24 = .ok (.isub, 1) := dX2_leastRepeats_22_k.2.2.1
theorem dX2_leastRepeats_25 : decode cX2_leastRepeats 25 = .ok (.istore 5, 2) := dX2_leastRepeats_22_k.2.2.2.1
theorem dX2_leastRepeats_27 : decode cX2_leastRepeats 27 = .ok (.iload 5, 2) := dX2_leastRepeats_22_k.2.2.2.2.1
theorem dX2_leastRepeats_29 : decode cX2_leastRepeats 29 = .ok (.ifCond .lt 15, 3) := dX2_leastRepeats_22_k.2.2.2.2.2.1
theorem dX2_leastRepeats_32 : decode cX2_leastRepeats 32 = .ok (.lload_n 2, 1) := dX2_leastRepeats_22_k.2.2.2.2.2.2.1
theorem dX2_leastRepeats_33 : decode cX2_leastRepeats 33 = .ok (.lconst 1, 1) := dX2_leastRepeats_22_k.2.2.2.2.2.2.2.1
theorem dX2_leastRepeats_34 : decode cX2_leastRepeats 34 = .ok (.iload 5, 2) := dX2_leastRepeats_22_k.2.2.2.2.2.2.2.2.1
theorem dX2_leastRepeats_36 : decode cX2_leastRepeats 36 = .ok (.lshl, 1) := dX2_leastRepeats_22_k.2.2.2.2.2.2.2.2.2.1
theorem dX2_leastRepeats_37 : decode cX2_leastRepeats 37 = .ok (.lcmp, 1) := dX2_leastRepeats_22_k.2.2.2.2.2.2.2.2.2.2.1
theorem dX2_leastRepeats_38 : decode cX2_leastRepeats 38 = .ok (.ifCond .gt 6, 3) := dX2_leastRepeats_22_k.2.2.2.2.2.2.2.2.2.2.2.1
theorem dX2_leastRepeats_41 : decode cX2_leastRepeats 41 = .ok (.iload 4, 2) := dX2_leastRepeats_22_k.2.2.2.2.2.2.2.2.2.2.2.2.1
theorem dX2_leastRepeats_43 : decode cX2_leastRepeats 43 = .ok (.ireturn, 1) := dX2_leastRepeats_22_k.2.2.2.2.2.2.2.2.2.2.2.2.2.1
theorem dX2_leastRepeats_44 : decode cX2_leastRepeats 44 = .ok (.iinc 4 1, 3) := dX2_leastRepeats_22_k.2.2.2.2.2.2.2.2.2.2.2.2.2.2.1
theorem dX2_leastRepeats_47 : decode cX2_leastRepeats 47 = .ok (.goto (-42), 3) := dX2_leastRepeats_22_k.2.2.2.2.2.2.2.2.2.2.2.2.2.2.2
theorem dX2_leastRepeats_50_k : decode cX2_leastRepeats 50 = .ok (.bipush 16, 2) ∧ decode cX2_leastRepeats 52 = .ok (.ireturn, 1) := by decide +kernel
theorem dX2_leastRepeats_50 : decode cX2_leastRepeats 50 = .ok (.bipush 16, 2) := dX2_leastRepeats_50_k.1
theorem dX2_leastRepeats_52 : decode cX2_leastRepeats 52 = .ok (.ireturn, 1) := dX2_leastRepeats_50_k.2
theorem dX2_failures_0_k : decode cX2_failures 0 = .ok (.aload_n 1, 1) ∧ decode cX2_failures 1 = .ok (.getfield 53, 3) ∧ decode cX2_failures 4 = .ok (.aload_n 0, 1) ∧ decode cX2_failures 5 = .ok (.getfield 19, 3) ∧ decode cX2_failures 8 = .ok (.if_icmp .lt 7, 3) ∧ decode cX2_failures 11 = .ok (.iconst 1, 1) ∧ decode cX2_failures 12 = .ok (.goto 4, 3) ∧ decode cX2_failures 15 = .ok (.iconst 0, 1) ∧ decode cX2_failures 16 = .ok (.istore_n 2, 1) ∧ decode cX2_failures 17 = .ok (.aload_n 1, 1) ∧ decode cX2_failures 18 = .ok (.getfield 58, 3) ∧ decode cX2_failures 21 = .ok (.aload_n 0, 1) ∧ decode cX2_failures 22 = .ok (.getfield 22, 3) ∧ decode cX2_failures 25 = .ok (.if_icmp .lt 7, 3) ∧ decode cX2_failures 28 = .ok (.iload_n 2, 1) ∧ decode cX2_failures 29 = .ok (.iconst 2, 1) := by decide +kernel
theorem dX2_failures_0 : decode cX2_failures 0 = .ok (.aload_n 1, 1) := dX2_failures_0_k.1
theorem dX2_failures_1 : decode cX2_failures 1 = .ok (.getfield 53, 3) := dX2_failures_0_k.2.1
theorem dX2_failures_4 : decode cX2_failures 4 = .ok (.aload_n 0, 1) := dX2_failures_0_k.2.2.1
theorem dX2_failures_5 : decode cX2_failures 5 = .ok (.getfield 19, 3) := dX2_failures_0_k.2.2.2.1
theorem dX2_failures_8 : decode cX2_failures 8 = .ok (.if_icmp .lt 7, 3) := dX2_failures_0_k.2.2.2.2.1
theorem dX2_failures_11 : decode cX2_failures 11 = .ok (.iconst 1, 1) := dX2_failures_0_k.2.2.2.2.2.1
theorem dX2_failures_12 : decode cX2_failures 12 = .ok (.goto 4, 3) := dX2_failures_0_k.2.2.2.2.2.2.1
theorem dX2_failures_15 : decode cX2_failures 15 = .ok (.iconst 0, 1) := dX2_failures_0_k.2.2.2.2.2.2.2.1
theorem dX2_failures_16 : decode cX2_failures 16 = .ok (.istore_n 2, 1) := dX2_failures_0_k.2.2.2.2.2.2.2.2.1
theorem dX2_failures_17 : decode cX2_failures 17 = .ok (.aload_n 1, 1) := dX2_failures_0_k.2.2.2.2.2.2.2.2.2.1
theorem dX2_failures_18 : decode cX2_failures 18 = .ok (.getfield 58, 3) := dX2_failures_0_k.2.2.2.2.2.2.2.2.2.2.1
theorem dX2_failures_21 : decode cX2_failures 21 = .ok (.aload_n 0, 1) := dX2_failures_0_k.2.2.2.2.2.2.2.2.2.2.2.1
theorem dX2_failures_22 : decode cX2_failures 22 = .ok (.getfield 22, 3) := dX2_failures_0_k.2.2.2.2.2.2.2.2.2.2.2.2.1
theorem dX2_failures_25 : decode cX2_failures 25 = .ok (.if_icmp .lt 7, 3) := dX2_failures_0_k.2.2.2.2.2.2.2.2.2.2.2.2.2.1
theorem dX2_failures_28 : decode cX2_failures 28 = .ok (.iload_n 2, 1) := dX2_failures_0_k.2.2.2.2.2.2.2.2.2.2.2.2.2.2.1
theorem dX2_failures_29 : decode cX2_failures 29 = .ok (.iconst 2, 1) := dX2_failures_0_k.2.2.2.2.2.2.2.2.2.2.2.2.2.2.2
theorem dX2_failures_30_k : decode cX2_failures 30 = .ok (.ior, 1) ∧ decode cX2_failures 31 = .ok (.istore_n 2, 1) ∧ decode cX2_failures 32 = .ok (.aload_n 1, 1) ∧ decode cX2_failures 33 = .ok (.getfield 61, 3) ∧ decode cX2_failures 36 = .ok (.aload_n 0, 1) ∧ decode cX2_failures 37 = .ok (.getfield 25, 3) ∧ decode cX2_failures 40 = .ok (.if_icmp .lt 7, 3) ∧ decode cX2_failures 43 = .ok (.iload_n 2, 1) ∧ decode cX2_failures 44 = .ok (.iconst 4, 1) ∧ decode cX2_failures 45 = .ok (.ior, 1) ∧ decode cX2_failures 46 = .ok (.istore_n 2, 1) ∧ decode cX2_failures 47 = .ok (.iload_n 2, 1) ∧ decode cX2_failures 48 = .ok (.ireturn, 1) := by decide +kernel
theorem dX2_failures_30 : decode cX2_failures 30 = .ok (.ior, 1) := dX2_failures_30_k.1
theorem dX2_failures_31 : decode cX2_failures 31 = .ok (.istore_n 2, 1) := dX2_failures_30_k.2.1
theorem dX2_failures_32 : decode cX2_failures 32 = .ok (.aload_n 1, 1) := dX2_failures_30_k.2.2.1
theorem dX2_failures_33 : decode cX2_failures 33 = .ok (.getfield 61, 3) := dX2_failures_30_k.2.2.2.1
theorem dX2_failures_36 : decode cX2_failures 36 = .ok (.aload_n 0, 1) := dX2_failures_30_k.2.2.2.2.1
theorem dX2_failures_37 : decode cX2_failures 37 = .ok (.getfield 25, 3) := dX2_failures_30_k.2.2.2.2.2.1
theorem dX2_failures_40 : decode cX2_failures 40 = .ok (.if_icmp .lt 7, 3) := dX2_failures_30_k.2.2.2.2.2.2.1
theorem dX2_failures_43 : decode cX2_failures 43 = .ok (.iload_n 2, 1) := dX2_failures_30_k.2.2.2.2.2.2.2.1
theorem dX2_failures_44 : decode cX2_failures 44 = .ok (.iconst 4, 1) := dX2_failures_30_k.2.2.2.2.2.2.2.2.1
theorem dX2_failures_45 : decode cX2_failures 45 = .ok (.ior, 1) := dX2_failures_30_k.2.2.2.2.2.2.2.2.2.1
theorem dX2_failures_46 : decode cX2_failures 46 = .ok (.istore_n 2, 1) := dX2_failures_30_k.2.2.2.2.2.2.2.2.2.2.1
theorem dX2_failures_47 : decode cX2_failures 47 = .ok (.iload_n 2, 1) := dX2_failures_30_k.2.2.2.2.2.2.2.2.2.2.2.1
theorem dX2_failures_48 : decode cX2_failures 48 = .ok (.ireturn, 1) := dX2_failures_30_k.2.2.2.2.2.2.2.2.2.2.2.2
theorem dX3_init_0_k : decode cX3_init 0 = .ok (.aload_n 0, 1) ∧ decode cX3_init 1 = .ok (.invokespecial 3, 3) ∧ decode cX3_init 4 = .ok (.aload_n 0, 1) ∧ decode cX3_init 5 = .ok (.new 9, 3) ∧ decode cX3_init 8 = .ok (.dup, 1) ∧ decode cX3_init 9 = .ok (.invokespecial 11, 3) ∧ decode cX3_init 12 = .ok (.putfield 12, 3) ∧ decode cX3_init 15 = .ok (.aload_n 0, 1) ∧ decode cX3_init 16 = .ok (.iconst 0, 1) ∧ decode cX3_init 17 = .ok (.putfield 18, 3) ∧ decode cX3_init 20 = .ok (.aload_n 0, 1) ∧ decode cX3_init 21 = .ok (.iconst 0, 1) ∧ decode cX3_init 22 = .ok (.putfield 22, 3) ∧ decode cX3_init 25 = .ok (.aload_n 0, 1) ∧ decode cX3_init 26 = .ok (.iconst 0, 1) ∧ decode cX3_init 27 = .ok (.putfield 25, 3) := by decide +kernel
theorem dX3_init_0 : decode cX3_init 0 = .ok (.aload_n 0, 1) := dX3_init_0_k.1
theorem dX3_init_1 : decode cX3_init 1 = .ok (.invokespecial 3, 3) := dX3_init_0_k.2.1
theorem dX3_init_4 : decode cX3_init 4 = .ok (.aload_n 0, 1) := dX3_init_0_k.2.2.1
theorem dX3_init_5 : decode cX3_init 5 = .ok (.new 9, 3) := dX3_init_0_k.2.2.2.1
theorem dX3_init_8 : decode cX3_init 8 = .ok (.dup, 1) := dX3_init_0_k.2.2.2.2.1
theorem dX3_init_9 : decode cX3_init 9 = .ok (.invokespecial 11, 3) := dX3_init_0_k.2.2.2.2.2.1
theorem dX3_init_12 : decode cX3_init 12 = .ok (.putfield 12, 3) := dX3_init_0_k.2.2.2.2.2.2.1
theorem dX3_init_15 : decode cX3_init 15 = .ok (.aload_n 0, 1) := dX3_init_0_k.2.2.2.2.2.2.2.1
theorem dX3_init_16 : decode cX3_init 16 = .ok (.iconst 0, 1) := dX3_init_0_k.2.2.2.2.2.2.2.2.1
theorem dX3_init_17 : decode cX3_init 17 = .ok (.putfield 18, 3) := dX3_init_0_k.2.2.2.2.2.2.2.2.2.1
theorem dX3_init_20 : decode cX3_init 20 = .ok (.aload_n 0, 1) := dX3_init_0_k.2.2.2.2.2.2.2.2.2.2.1
theorem dX3_init_21 : decode cX3_init 21 = .ok (.iconst 0, 1) := dX3_init_0_k.2.2.2.2.2.2.2.2.2.2.2.1
theorem dX3_init_22 : decode cX3_init 22 = .ok (.putfield 22, 3) := dX3_init_0_k.2.2.2.2.2.2.2.2.2.2.2.2.1
theorem dX3_init_25 : decode cX3_init 25 = .ok (.aload_n 0, 1) := dX3_init_0_k.2.2.2.2.2.2.2.2.2.2.2.2.2.1
theorem dX3_init_26 : decode cX3_init 26 = .ok (.iconst 0, 1) := dX3_init_0_k.2.2.2.2.2.2.2.2.2.2.2.2.2.2.1
theorem dX3_init_27 : decode cX3_init 27 = .ok (.putfield 25, 3) := dX3_init_0_k.2.2.2.2.2.2.2.2.2.2.2.2.2.2.2
theorem dX3_init_30_k : decode cX3_init 30 = .ok (.aload_n 0, 1) ∧ decode cX3_init 31 = .ok (.iconst 0, 1) ∧ decode cX3_init 32 = .ok (.putfield 28, 3) ∧ decode cX3_init 35 = .ok (.aload_n 0, 1) ∧ decode cX3_init 36 = .ok (.iconst 0, 1) ∧ decode cX3_init 37 = .ok (.putfield 31, 3) ∧ decode cX3_init 40 = .ok (.aload_n 0, 1) ∧ decode cX3_init 41 = .ok (.iconst 0, 1) ∧ decode cX3_init 42 = .ok (.putfield 34, 3) ∧ decode cX3_init 45 = .ok (.return_, 1) := by decide +kernel
theorem dX3_init_30 : decode cX3_init 30 = .ok (.aload_n 0, 1) := dX3_init_30_k.1
theorem dX3_init_31 : decode cX3_init 31 = .ok (.iconst 0, 1) := dX3_init_30_k.2.1
theorem dX3_init_32 : decode cX3_init 32 = .ok (.putfield 28, 3) := dX3_init_30_k.2.2.1
theorem dX3_init_35 : decode cX3_init 35 = .ok (.aload_n 0, 1) := dX3_init_30_k.2.2.2.1
theorem dX3_init_36 : decode cX3_init 36 = .ok (.iconst 0, 1) := dX3_init_30_k.2.2.2.2.1
theorem dX3_init_37 : decode cX3_init 37 = .ok (.putfield 31, 3) := dX3_init_30_k.2.2.2.2.2.1
theorem dX3_init_40 : decode cX3_init 40 = .ok (.aload_n 0, 1) := dX3_init_30_k.2.2.2.2.2.2.1
theorem dX3_init_41 : decode cX3_init 41 = .ok (.iconst 0, 1) := dX3_init_30_k.2.2.2.2.2.2.2.1
theorem dX3_init_42 : decode cX3_init 42 = .ok (.putfield 34, 3) := dX3_init_30_k.2.2.2.2.2.2.2.2.1
theorem dX3_init_45 : decode cX3_init 45 = .ok (.return_, 1) := dX3_init_30_k.2.2.2.2.2.2.2.2.2
theorem dX3_begin_0_k : decode cX3_begin 0 = .ok (.aload_n 0, 1) ∧ decode cX3_begin 1 = .ok (.getfield 12, 3) ∧ decode cX3_begin 4 = .ok (.invokevirtual 37, 3) ∧ decode cX3_begin 7 = .ok (.aload_n 0, 1) ∧ decode cX3_begin 8 = .ok (.iconst 0, 1) ∧ decode cX3_begin 9 = .ok (.putfield 18, 3) ∧ decode cX3_begin 12 = .ok (.aload_n 0, 1) ∧ decode cX3_begin 13 = .ok (.iconst 0, 1) ∧ decode cX3_begin 14 = .ok (.putfield 22, 3) ∧ decode cX3_begin 17 = .ok (.aload_n 0, 1) ∧ decode cX3_begin 18 = .ok (.iconst 0, 1) ∧ decode cX3_begin 19 = .ok (.putfield 25, 3) ∧ decode cX3_begin 22 = .ok (.aload_n 0, 1) ∧ decode cX3_begin 23 = .ok (.iconst 0, 1) ∧ decode cX3_begin 24 = .ok (.putfield 28, 3) ∧ decode cX3_begin 27 = .ok (.aload_n 0, 1) := by decide +kernel
theorem dX3_begin_0 : decode cX3_begin 0 = .ok (.aload_n 0, 1) := dX3_begin_0_k.1
theorem dX3_begin_1 : decode cX3_begin 1 = .ok (.getfield 12, 3) := dX3_begin_0_k.2.1
theorem dX3_begin_4 : decode cX3_begin 4 = .ok (.invokevirtual 37, 3) := dX3_begin_0_k.2.2.1
theorem dX3_begin_7 : decode cX3_begin 7 = .ok (.aload_n 0, 1) := dX3_begin_0_k.2.2.2.1
theorem dX3_begin_8 : decode cX3_begin 8 = .ok (.iconst 0, 1) := dX3_begin_0_k.2.2.2.2.1
theorem dX3_begin_9 : decode cX3_begin 9 = .ok (.putfield 18, 3) := dX3_begin_0_k.2.2.2.2.2.1
theorem dX3_begin_12 : decode cX3_begin 12 = .ok (.aload_n 0, 1) := dX3_begin_0_k.2.2.2.2.2.2.1
theorem dX3_begin_13 : decode cX3_begin 13 = .ok (.iconst 0, 1) := dX3_begin_0_k.2.2.2.2.2.2.2.1
theorem dX3_begin_14 : decode cX3_begin 14 = .ok (.putfield 22, 3) := dX3_begin_0_k.2.2.2.2.2.2.2.2.1
theorem dX3_begin_17 : decode cX3_begin 17 = .ok (.aload_n 0, 1) := dX3_begin_0_k.2.2.2.2.2.2.2.2.2.1
theorem dX3_begin_18 : decode cX3_begin 18 = .ok (.iconst 0, 1) := dX3_begin_0_k.2.2.2.2.2.2.2.2.2.2.1
theorem dX3_begin_19 : decode cX3_begin 19 = .ok (.putfield 25, 3) := dX3_begin_0_k.2.2.2.2.2.2.2.2.2.2.2.1
theorem dX3_begin_22 : decode cX3_begin 22 = .ok (.aload_n 0, 1) := dX3_begin_0_k.2.2.2.2.2.2.2.2.2.2.2.2.1
theorem dX3_begin_23 : decode cX3_begin 23 = .ok (.iconst 0, 1) := dX3_begin_0_k.2.2.2.2.2.2.2.2.2.2.2.2.2.1
theorem dX3_begin_24 : decode cX3_begin 24 = .ok (.putfield 28, 3) := dX3_begin_0_k.2.2.2.2.2.2.2.2.2.2.2.2.2.2.1
theorem dX3_begin_27 : decode cX3_begin 27 = .ok (.aload_n 0, 1) := dX3_begin_0_k.2.2.2.2.2.2.2.2.2.2.2.2.2.2.2
theorem dX3_begin_28_k : decode cX3_begin 28 = .ok (.iconst 0, 1) ∧ decode cX3_begin 29 = .ok (.putfield 31, 3) ∧ decode cX3_begin 32 = .ok (.aload_n 0, 1) ∧ decode cX3_begin 33 = .ok (.iconst 0, 1) ∧ decode cX3_begin 34 = .ok (.putfield 34, 3) ∧ decode cX3_begin 37 = .ok (.return_, 1) := by decide +kernel
theorem dX3_begin_28 : decode cX3_begin 28 = .ok (.iconst 0, 1) := dX3_begin_28_k.1
theorem dX3_begin_29 : decode cX3_begin 29 = .ok (.putfield 31, 3) := dX3_begin_28_k.2.1
theorem dX3_begin_32 : decode cX3_begin 32 = .ok (.aload_n 0, 1) := dX3_begin_28_k.2.2.1
theorem dX3_begin_33 : decode cX3_begin 33 = .ok (.iconst 0, 1) := dX3_begin_28_k.2.2.2.1
theorem dX3_begin_34 : decode cX3_begin 34 = .ok (.putfield 34, 3) := dX3_begin_28_k.2.2.2.2.1
theorem dX3_begin_37 : decode cX3_begin 37 = .ok (.return_, 1) := dX3_begin_28_k.2.2.2.2.2
theorem dX3_feed_0_k : decode cX3_feed 0 = .ok (.aload_n 0, 1) ∧ decode cX3_feed 1 = .ok (.getfield 18, 3) ∧ decode cX3_feed 4 = .ok (.bipush 15, 2) ∧ decode cX3_feed 6 = .ok (.iushr, 1) ∧ decode cX3_feed 7 = .ok (.iconst 1, 1) ∧ decode cX3_feed 8 = .ok (.iand, 1) ∧ decode cX3_feed 9 = .ok (.istore_n 3, 1) ∧ decode cX3_feed 10 = .ok (.aload_n 0, 1) ∧ decode cX3_feed 11 = .ok (.aload_n 0, 1) ∧ decode cX3_feed 12 = .ok (.getfield 18, 3) ∧ decode cX3_feed 15 = .ok (.iconst 1, 1) ∧ decode cX3_feed 16 = .ok (.ishl, 1) ∧ decode cX3_feed 17 = .ok (.ldc 40, 2) ∧ decode cX3_feed 19 = .ok (.iand, 1) ∧ decode cX3_feed 20 = .ok (.putfield 18, 3) ∧ decode cX3_feed 23 = .ok (.iload_n 3, 1) := by decide +kernel
theorem dX3_feed_0 : decode cX3_feed 0 = .ok (.aload_n 0, 1) := dX3_feed_0_k.1
theorem dX3_feed_1 : decode cX3_feed 1 = .ok (.getfield 18, 3) := dX3_feed_0_k.2.1
theorem dX3_feed_4 : decode cX3_feed 4 = .ok (.bipush 15, 2) := dX3_feed_0_k.2.2.1
theorem dX3_feed_6 : decode cX3_feed 6 = .ok (.iushr, 1) := dX3_feed_0_k.2.2.2.1
theorem dX3_feed_7 : decode cX3_feed 7 = .ok (.iconst 1, 1) := dX3_feed_0_k.2.2.2.2.1
theorem dX3_feed_8 : decode cX3_feed 8 = .ok (.iand, 1) := dX3_feed_0_k.2.2.2.2.2.1
theorem dX3_feed_9 : decode cX3_feed 9 = .ok (.istore_n 3, 1) := dX3_feed_0_k.2.2.2.2.2.2.1
theorem dX3_feed_10 : decode cX3_feed 10 = .ok (.aload_n 0, 1) := dX3_feed_0_k.2.2.2.2.2.2.2.1
theorem dX3_feed_11 : decode cX3_feed 11 = .ok (.aload_n 0, 1) := dX3_feed_0_k.2.2.2.2.2.2.2.2.1
theorem dX3_feed_12 : decode cX3_feed 12 = .ok (.getfield 18, 3) := dX3_feed_0_k.2.2.2.2.2.2.2.2.2.1
theorem dX3_feed_15 : decode cX3_feed 15 = .ok (.iconst 1, 1) := dX3_feed_0_k.2.2.2.2.2.2.2.2.2.2.1
theorem dX3_feed_16 : decode cX3_feed 16 = .ok (.ishl, 1) := dX3_feed_0_k.2.2.2.2.2.2.2.2.2.2.2.1
theorem dX3_feed_17 : decode cX3_feed 17 = .ok (.ldc 40, 2) := dX3_feed_0_k.2.2.2.2.2.2.2.2.2.2.2.2.1
theorem dX3_feed_19 : decode cX3_feed 19 = .ok (.iand, 1) := dX3_feed_0_k.2.2.2.2.2.2.2.2.2.2.2.2.2.1
theorem dX3_feed_20 : decode cX3_feed 20 = .ok (.putfield 18, 3) := dX3_feed_0_k.2.2.2.2.2.2.2.2.2.2.2.2.2.2.1
theorem dX3_feed_23 : decode cX3_feed 23 = .ok (.iload_n 3, 1) := dX3_feed_0_k.2.2.2.2.2.2.2.2.2.2.2.2.2.2.2
theorem dX3_feed_24_k : decode cX3_feed 24 = .ok (.iload_n 1, 1) ∧ decode cX3_feed 25 = .ok (.if_icmp .eq 15, 3) ∧ decode cX3_feed 28 = .ok (.aload_n 0, 1) ∧ decode cX3_feed 29 = .ok (.dup, 1) ∧ decode cX3_feed 30 = .ok (.getfield 18, 3) ∧ decode cX3_feed 33 = .ok (.sipush 4129, 3) ∧ decode cX3_feed 36 = .ok (.ixor, 1) ∧ decode cX3_feed 37 = .ok (.putfield 18, 3) ∧ decode cX3_feed 40 = .ok (.aload_n 0, 1) ∧ decode cX3_feed 41 = .ok (.dup, 1) ∧ decode cX3_feed 42 = .ok (.getfield 22, 3) ∧ decode cX3_feed 45 = .ok (.iconst 1, 1) ∧ decode cX3_feed 46 = .ok (.iadd, 1) ∧ decode cX3_feed 47 = .ok (.putfield 22, 3) ∧ decode cX3_feed 50 = .ok (.aload_n 0, 1) ∧ decode cX3_feed 51 = .ok (.getfield 22, 3) := by decide +kernel
theorem dX3_feed_24 : decode cX3_feed 24 = .ok (.iload_n 1, 1) := dX3_feed_24_k.1
theorem dX3_feed_25 : decode cX3_feed 25 = .ok (.if_icmp .eq 15, 3) := dX3_feed_24_k.2.1
theorem dX3_feed_28 : decode cX3_feed 28 = .ok (.aload_n 0, 1) := dX3_feed_24_k.2.2.1
theorem dX3_feed_29 : decode cX3_feed 29 = .ok (.dup, 1) := dX3_feed_24_k.2.2.2.1
theorem dX3_feed_30 : decode cX3_feed 30 = .ok (.getfield 18, 3) := dX3_feed_24_k.2.2.2.2.1
theorem dX3_feed_33 : decode cX3_feed 33 = .ok (.sipush 4129, 3) := dX3_feed_24_k.2.2.2.2.2.1
theorem dX3_feed_36 : decode cX3_feed 36 = .ok (.ixor, 1) := dX3_feed_24_k.2.2.2.2.2.2.1
theorem dX3_feed_37 : decode cX3_feed 37 = .ok (.putfield 18, 3) := dX3_feed_24_k.2.2.2.2.2.2.2.1
theorem dX3_feed_40 : decode cX3_feed 40 = .ok (.aload_n 0, 1) := dX3_feed_24_k.2.2.2.2.2.2.2.2.1
theorem dX3_feed_41 : decode cX3_feed 41 = .ok (.dup, 1) := dX3_feed_24_k.2.2.2.2.2.2.2.2.2.1
theorem dX3_feed_42 : decode cX3_feed 42 = .ok (.getfield 22, 3) := dX3_feed_24_k.2.2.2.2.2.2.2.2.2.2.1
theorem dX3_feed_45 : decode cX3_feed 45 = .ok (.iconst 1, 1) := dX3_feed_24_k.2.2.2.2.2.2.2.2.2.2.2.1
theorem dX3_feed_46 : decode cX3_feed 46 = .ok (.iadd, 1) := dX3_feed_24_k.2.2.2.2.2.2.2.2.2.2.2.2.1
theorem dX3_feed_47 : decode cX3_feed 47 = .ok (.putfield 22, 3) := dX3_feed_24_k.2.2.2.2.2.2.2.2.2.2.2.2.2.1
theorem dX3_feed_50 : decode cX3_feed 50 = .ok (.aload_n 0, 1) := dX3_feed_24_k.2.2.2.2.2.2.2.2.2.2.2.2.2.2.1
theorem dX3_feed_51 : decode cX3_feed 51 = .ok (.getfield 22, 3) := dX3_feed_24_k.2.2.2.2.2.2.2.2.2.2.2.2.2.2.2
theorem dX3_feed_54_k : decode cX3_feed 54 = .ok (.aload_n 2, 1) ∧ decode cX3_feed 55 = .ok (.iconst 4, 1) ∧ decode cX3_feed 56 = .ok (.invokevirtual 41, 3) ∧ decode cX3_feed 59 = .ok (.if_icmp .lt 21, 3) ∧ decode cX3_feed 62 = .ok (.aload_n 0, 1) ∧ decode cX3_feed 63 = .ok (.aload_n 2, 1) ∧ decode cX3_feed 64 = .ok (.invokevirtual 47, 3) ∧ decode cX3_feed 67 = .ok (.invokevirtual 51, 3) ∧ decode cX3_feed 70 = .ok (.aload_n 0, 1) ∧ decode cX3_feed 71 = .ok (.iconst 0, 1) ∧ decode cX3_feed 72 = .ok (.putfield 18, 3) ∧ decode cX3_feed 75 = .ok (.aload_n 0, 1) ∧ decode cX3_feed 76 = .ok (.iconst 0, 1) ∧ decode cX3_feed 77 = .ok (.putfield 22, 3) ∧ decode cX3_feed 80 = .ok (.return_, 1) := by decide +kernel
theorem dX3_feed_54 : decode cX3_feed 54 = .ok (.aload_n 2, 1) := dX3_feed_54_k.1
theorem dX3_feed_55 : decode cX3_feed 55 = .ok (.iconst 4, 1) := dX3_feed_54_k.2.1
theorem dX3_feed_56 : decode cX3_feed 56 = .ok (.invokevirtual 41, 3) := dX3_feed_54_k.2.2.1
theorem dX3_feed_59 : decode cX3_feed 59 = .ok (.if_icmp .lt 21, 3) := dX3_feed_54_k.2.2.2.1
theorem dX3_feed_62 : decode cX3_feed 62 = .ok (.aload_n 0, 1) := dX3_feed_54_k.2.2.2.2.1
theorem dX3_feed_63 : decode cX3_feed 63 = .ok (.aload_n 2, 1) := dX3_feed_54_k.2.2.2.2.2.1
theorem dX3_feed_64 : decode cX3_feed 64 = .ok (.invokevirtual 47, 3) := dX3_feed_54_k.2.2.2.2.2.2.1
theorem dX3_feed_67 : decode cX3_feed 67 = .ok (.invokevirtual 51, 3) := dX3_feed_54_k.2.2.2.2.2.2.2.1
theorem dX3_feed_70 : decode cX3_feed 70 = .ok (.aload_n 0, 1) := dX3_feed_54_k.2.2.2.2.2.2.2.2.1
theorem dX3_feed_71 : decode cX3_feed 71 = .ok (.iconst 0, 1) := dX3_feed_54_k.2.2.2.2.2.2.2.2.2.1
theorem dX3_feed_72 : decode cX3_feed 72 = .ok (.putfield 18, 3) := dX3_feed_54_k.2.2.2.2.2.2.2.2.2.2.1
theorem dX3_feed_75 : decode cX3_feed 75 = .ok (.aload_n 0, 1) := dX3_feed_54_k.2.2.2.2.2.2.2.2.2.2.2.1
theorem dX3_feed_76 : decode cX3_feed 76 = .ok (.iconst 0, 1) := dX3_feed_54_k.2.2.2.2.2.2.2.2.2.2.2.2.1
theorem dX3_feed_77 : decode cX3_feed 77 = .ok (.putfield 22, 3) := dX3_feed_54_k.2.2.2.2.2.2.2.2.2.2.2.2.2.1
theorem dX3_feed_80 : decode cX3_feed 80 = .ok (.return_, 1) := dX3_feed_54_k.2.2.2.2.2.2.2.2.2.2.2.2.2.2
theorem dX3_fillFrom_0_k : decode cX3_fillFrom 0 = .ok (.iload_n 1, 1) ∧ decode cX3_fillFrom 1 = .ok (.iconst 1, 1) ∧ decode cX3_fillFrom 2 = .ok (.isub, 1) ∧ decode cX3_fillFrom 3 = .ok (.istore_n 2, 1) ∧ decode cX3_fillFrom 4 = .ok (.iload_n 2, 1) ∧ decode cX3_fillFrom 5 = .ok (.ifCond .lt 60, 3) ∧ decode cX3_fillFrom 8 = .ok (.aload_n 0, 1) ∧ decode cX3_fillFrom 9 = .ok (.getfield 12, 3) ∧ decode cX3_fillFrom 12 = .ok (.getfield 55, 3) ∧ decode cX3_fillFrom 15 = .ok (.sipush 256, 3) ∧ decode cX3_fillFrom 18 = .ok (.if_icmp .ge 31, 3) ∧ decode cX3_fillFrom 21 = .ok (.aload_n 0, 1) ∧ decode cX3_fillFrom 22 = .ok (.getfield 12, 3) ∧ decode cX3_fillFrom 25 = .ok (.aload_n 0, 1) ∧ decode cX3_fillFrom 26 = .ok (.getfield 18, 3) ∧ decode cX3_fillFrom 29 = .ok (.iload_n 2, 1) := by decide +kernel
theorem dX3_fillFrom_0 : decode cX3_fillFrom 0 = .ok (.iload_n 1, 1) := dX3_fillFrom_0_k.1
theorem dX3_fillFrom_1 : decode cX3_fillFrom 1 = .ok (.iconst 1, 1) := dX3_fillFrom_0_k.2.1
theorem dX3_fillFrom_2 : decode cX3_fillFrom 2 = .ok (.isub, 1) := dX3_fillFrom_0_k.2.2.1
theorem dX3_fillFrom_3 : decode cX3_fillFrom 3 = .ok (.istore_n 2, 1) := dX3_fillFrom_0_k.2.2.2.1
theorem dX3_fillFrom_4 : decode cX3_fillFrom 4 = .ok (.iload_n 2, 1) := dX3_fillFrom_0_k.2.2.2.2.1
theorem dX3_fillFrom_5 : decode cX3_fillFrom 5 = .ok (.ifCond .lt 60, 3) := dX3_fillFrom_0_k.2.2.2.2.2.1
theorem dX3_fillFrom_8 : decode cX3_fillFrom 8 = .ok (.aload_n 0, 1) := dX3_fillFrom_0_k.2.2.2.2.2.2.1
theorem dX3_fillFrom_9 : decode cX3_fillFrom 9 = .ok (.getfield 12, 3) := dX3_fillFrom_0_k.2.2.2.2.2.2.2.1
theorem dX3_fillFrom_12 : decode cX3_fillFrom 12 = .ok (.getfield 55, 3) := dX3_fillFrom_0_k.2.2.2.2.2.2.2.2.1
theorem dX3_fillFrom_15 : decode cX3_fillFrom 15 = .ok (.sipush 256, 3) := dX3_fillFrom_0_k.2.2.2.2.2.2.2.2.2.1
theorem dX3_fillFrom_18 : decode cX3_fillFrom 18 = .ok (.if_icmp .ge 31, 3) := dX3_fillFrom_0_k.2.2.2.2.2.2.2.2.2.2.1
theorem dX3_fillFrom_21 : decode cX3_fillFrom 21 = .ok (.aload_n 0, 1) := dX3_fillFrom_0_k.2.2.2.2.2.2.2.2.2.2.2.1
theorem dX3_fillFrom_22 : decode cX3_fillFrom 22 = .ok (.getfield 12, 3) := dX3_fillFrom_0_k.2.2.2.2.2.2.2.2.2.2.2.2.1
theorem dX3_fillFrom_25 : decode cX3_fillFrom 25 = .ok (.aload_n 0, 1) := dX3_fillFrom_0_k.2.2.2.2.2.2.2.2.2.2.2.2.2.1
theorem dX3_fillFrom_26 : decode cX3_fillFrom 26 = .ok (.getfield 18, 3) := dX3_fillFrom_0_k.2.2.2.2.2.2.2.2.2.2.2.2.2.2.1
theorem dX3_fillFrom_29 : decode cX3_fillFrom 29 = .ok (.iload_n 2, 1) := dX3_fillFrom_0_k.2.2.2.2.2.2.2.2.2.2.2.2.2.2.2
theorem dX3_fillFrom_30_k : decode cX3_fillFrom 30 = .ok (.iushr, 1) ∧ decode cX3_fillFrom 31 = .ok (.iconst 1, 1) ∧ decode cX3_fillFrom 32 = .ok (.iand, 1) ∧ decode cX3_fillFrom 33 = .ok (.invokevirtual 58, 3) ∧ decode cX3_fillFrom 36 = .ok (.aload_n 0, 1) ∧ decode cX3_fillFrom 37 = .ok (.dup, 1) ∧ decode cX3_fillFrom 38 = .ok (.getfield 25, 3) ∧ decode cX3_fillFrom 41 = .ok (.iconst 1, 1) ∧ decode cX3_fillFrom 42 = .ok (.iadd, 1) ∧ decode cX3_fillFrom 43 = .ok (.putfield 25, 3) ∧ decode cX3_fillFrom 46 = .ok (.goto 13, 3) ∧ decode cX3_fillFrom 49 = .ok (.aload_n 0, 1) ∧ decode cX3_fillFrom 50 = .ok (.dup, 1) ∧ decode cX3_fillFrom 51 = .ok (.getfield 28, 3) ∧ decode cX3_fillFrom 54 = .ok (.iconst 1, 1) ∧ decode cX3_fillFrom 55 = .ok (.iadd, 1) := by decide +kernel
theorem dX3_fillFrom_30 : decode cX3_fillFrom 30 = .ok (.iushr, 1) := dX3_fillFrom_30_k.1
theorem dX3_fillFrom_31 : decode cX3_fillFrom 31 = .ok (.iconst 1, 1) := dX3_fillFrom_30_k.2.1
theorem dX3_fillFrom_32 : decode cX3_fillFrom 32 = .ok (.iand, 1) := dX3_fillFrom_30_k.2.2.1
theorem dX3_fillFrom_33 : decode cX3_fillFrom 33 = .ok (.invokevirtual 58, 3) := dX3_fillFrom_30_k.2.2.2.1
theorem dX3_fillFrom_36 : decode cX3_fillFrom 36 = .ok (.aload_n 0, 1) := dX3_fillFrom_30_k.2.2.2.2.1
theorem dX3_fillFrom_37 : decode cX3_fillFrom 37 = .ok (.dup, 1) := dX3_fillFrom_30_k.2.2.2.2.2.1
theorem dX3_fillFrom_38 : decode cX3_fillFrom 38 = .ok (.getfield 25, 3) := dX3_fillFrom_30_k.2.2.2.2.2.2.1
theorem dX3_fillFrom_41 : decode cX3_fillFrom 41 = .ok (.iconst 1, 1) := dX3_fillFrom_30_k.2.2.2.2.2.2.2.1
theorem dX3_fillFrom_42 : decode cX3_fillFrom 42 = .ok (.iadd, 1) := dX3_fillFrom_30_k.2.2.2.2.2.2.2.2.1
theorem dX3_fillFrom_43 : decode cX3_fillFrom 43 = .ok (.putfield 25, 3) := dX3_fillFrom_30_k.2.2.2.2.2.2.2.2.2.1
theorem dX3_fillFrom_46 : decode cX3_fillFrom 46 = .ok (.goto 13, 3) := dX3_fillFrom_30_k.2.2.2.2.2.2.2.2.2.2.1
theorem dX3_fillFrom_49 : decode cX3_fillFrom 49 = .ok (.aload_n 0, 1) := dX3_fillFrom_30_k.2.2.2.2.2.2.2.2.2.2.2.1
theorem dX3_fillFrom_50 : decode cX3_fillFrom 50 = .ok (.dup, 1) := dX3_fillFrom_30_k.2.2.2.2.2.2.2.2.2.2.2.2.1
theorem dX3_fillFrom_51 : decode cX3_fillFrom 51 = .ok (.getfield 28, 3) := dX3_fillFrom_30_k.2.2.2.2.2.2.2.2.2.2.2.2.2.1
theorem dX3_fillFrom_54 : decode cX3_fillFrom 54 = .ok (.iconst 1, 1) := dX3_fillFrom_30_k.2.2.2.2.2.2.2.2.2.2.2.2.2.2.1
theorem dX3_fillFrom_55 : decode cX3_fillFrom 55 = .ok (.iadd, 1) := dX3_fillFrom_30_k.2.2.2.2.2.2.2.2.2.2.2.2.2.2.2
theorem dX3_fillFrom_56_k : decode cX3_fillFrom 56 = .ok (.putfield 28, 3) ∧ decode cX3_fillFrom 59 = .ok (.iinc 2 (-1), 3) ∧ decode cX3_fillFrom 62 = .ok (.goto (-58), 3) ∧ decode cX3_fillFrom 65 = .ok (.return_, 1) := by decide +kernel
theorem dX3_fillFrom_56 : decode cX3_fillFrom 56 = .ok (.putfield 28, 3) := dX3_fillFrom_56_k.1
theorem dX3_fillFrom_59 : decode cX3_fillFrom 59 = .ok (.iinc 2 (-1), 3) := dX3_fillFrom_56_k.2.1
theorem dX3_fillFrom_62 : decode cX3_fillFrom 62 = .ok (.goto (-58), 3) := dX3_fillFrom_56_k.2.2.1
theorem dX3_fillFrom_65 : decode cX3_fillFrom 65 = .ok (.return_, 1) := dX3_fillFrom_56_k.2.2.2
theorem dX3_takeBits_0_k : decode cX3_takeBits 0 = .ok (.iload_n 1, 1) ∧ decode cX3_takeBits 1 = .ok (.aload_n 0, 1) ∧ decode cX3_takeBits 2 = .ok (.getfield 12, 3) ∧ decode cX3_takeBits 5 = .ok (.getfield 55, 3) ∧ decode cX3_takeBits 8 = .ok (.if_icmp .le 5, 3) ∧ decode cX3_takeBits 11 = .ok (.iconst (-1), 1) ∧ decode cX3_takeBits 12 = .ok (.ireturn, 1) ∧ decode cX3_takeBits 13 = .ok (.iconst 0, 1) ∧ decode cX3_takeBits 14 = .ok (.istore_n 2, 1) ∧ decode cX3_takeBits 15 = .ok (.iconst 0, 1) ∧ decode cX3_takeBits 16 = .ok (.istore_n 3, 1) ∧ decode cX3_takeBits 17 = .ok (.iload_n 3, 1) ∧ decode cX3_takeBits 18 = .ok (.iload_n 1, 1) ∧ decode cX3_takeBits 19 = .ok (.if_icmp .ge 21, 3) ∧ decode cX3_takeBits 22 = .ok (.iload_n 2, 1) ∧ decode cX3_takeBits 23 = .ok (.iconst 1, 1) := by decide +kernel
theorem dX3_takeBits_0 : decode cX3_takeBits 0 = .ok (.iload_n 1, 1) := dX3_takeBits_0_k.1
theorem dX3_takeBits_1 : decode cX3_takeBits 1 = .ok (.aload_n 0, 1) := dX3_takeBits_0_k.2.1
theorem dX3_takeBits_2 : decode cX3_takeBits 2 = .ok (.getfield 12, 3) := dX3_takeBits_0_k.2.2.1
theorem dX3_takeBits_5 : decode cX3_takeBits 5 = .ok (.getfield 55, 3) := dX3_takeBits_0_k.2.2.2.1
theorem dX3_takeBits_8 : decode cX3_takeBits 8 = .ok (.if_icmp .le 5, 3) := dX3_takeBits_0_k.2.2.2.2.1
theorem dX3_takeBits_11 : decode cX3_takeBits 11 = .ok (.iconst (-1), 1) := dX3_takeBits_0_k.2.2.2.2.2.1
theorem dX3_takeBits_12 : decode cX3_takeBits 12 = .ok (.ireturn, 1) := dX3_takeBits_0_k.2.2.2.2.2.2.1
theorem dX3_takeBits_13 : decode cX3_takeBits 13 = .ok (.iconst 0, 1) := dX3_takeBits_0_k.2.2.2.2.2.2.2.1
theorem dX3_takeBits_14 : decode cX3_takeBits 14 = .ok (.istore_n 2, 1) := dX3_takeBits_0_k.2.2.2.2.2.2.2.2.1
theorem dX3_takeBits_15 : decode cX3_takeBits 15 = .ok (.iconst 0, 1) := dX3_takeBits_0_k.2.2.2.2.2.2.2.2.2.1
theorem dX3_takeBits_16 : decode cX3_takeBits 16 = .ok (.istore_n 3, 1) := dX3_takeBits_0_k.2.2.2.2.2.2.2.2.2.2.1
theorem dX3_takeBits_17 : decode cX3_takeBits 17 = .ok (.iload_n 3, 1) := dX3_takeBits_0_k.2.2.2.2.2.2.2.2.2.2.2.1
theorem dX3_takeBits_18 : decode cX3_takeBits 18 = .ok (.iload_n 1, 1) := dX3_takeBits_0_k.2.2.2.2.2.2.2.2.2.2.2.2.1
theorem dX3_takeBits_19 : decode cX3_takeBits 19 = .ok (.if_icmp .ge 21, 3) := dX3_takeBits_0_k.2.2.2.2.2.2.2.2.2.2.2.2.2.1
theorem dX3_takeBits_22 : decode cX3_takeBits 22 = .ok (.iload_n 2, 1) := dX3_takeBits_0_k.2.2.2.2.2.2.2.2.2.2.2.2.2.2.1
theorem dX3_takeBits_23 : decode cX3_takeBits 23 = .ok (.iconst 1, 1) := dX3_takeBits_0_k.2.2.2.2.2.2.2.2.2.2.2.2.2.2.2
theorem dX3_takeBits_24_k : decode cX3_takeBits 24 = .ok (.ishl, 1) ∧ decode cX3_takeBits 25 = .ok (.aload_n 0, 1) ∧ decode cX3_takeBits 26 = .ok (.getfield 12, 3) ∧ decode cX3_takeBits 29 = .ok (.invokevirtual 61, 3) ∧ decode cX3_takeBits 32 = .ok (.ior, 1) ∧ decode cX3_takeBits 33 = .ok (.istore_n 2, 1) ∧ decode cX3_takeBits 34 = .ok (.iinc 3 1, 3) ∧ decode cX3_takeBits 37 = .ok (.goto (-20), 3) ∧ decode cX3_takeBits 40 = .ok (.aload_n 0, 1) ∧ decode cX3_takeBits 41 = .ok (.dup, 1) ∧ decode cX3_takeBits 42 = .ok (.getfield 31, 3) ∧ decode cX3_takeBits 45 = .ok (.iload_n 1, 1) ∧ decode cX3_takeBits 46 = .ok (.iadd, 1) ∧ decode cX3_takeBits 47 = .ok (.putfield 31, 3) ∧ decode cX3_takeBits 50 = .ok (.iload_n 2, 1) ∧ decode cX3_takeBits 51 = .ok (.ireturn, 1) := by decide +kernel
theorem dX3_takeBits_24 : decode cX3_takeBits 24 = .ok (.ishl, 1) := dX3_takeBits_24_k.1
theorem dX3_takeBits_25 : decode cX3_takeBits 25 = .ok (.aload_n 0, 1) := dX3_takeBits_24_k.2.1
theorem dX3_takeBits_26 : decode cX3_takeBits 26 = .ok (.getfield 12, 3) := dX3_takeBits_24_k.2.2.1
theorem dX3_takeBits_29 : decode cX3_takeBits 29 = .ok (.invokevirtual 61, 3) := dX3_takeBits_24_k.2.2.2.1
theorem dX3_takeBits_32 : decode cX3_takeBits 32 = .ok (.ior, 1) := dX3_takeBits_24_k.2.2.2.2.1
theorem dX3_takeBits_33 : decode cX3_takeBits 33 = .ok (.istore_n 2, 1) := dX3_takeBits_24_k.2.2.2.2.2.1
theorem dX3_takeBits_34 : decode cX3_takeBits 34 = .ok (.iinc 3 1, 3) := dX3_takeBits_24_k.2.2.2.2.2.2.1
theorem dX3_takeBits_37 : decode cX3_takeBits 37 = .ok (.goto (-20), 3) := dX3_takeBits_24_k.2.2.2.2.2.2.2.1
theorem dX3_takeBits_40 : decode cX3_takeBits 40 = .ok (.aload_n 0, 1) := dX3_takeBits_24_k.2.2.2.2.2.2.2.2.1
theorem dX3_takeBits_41 : decode cX3_takeBits 41 = .ok (.dup, 1) := dX3_takeBits_24_k.2.2.2.2.2.2.2.2.2.1
theorem dX3_takeBits_42 : decode cX3_takeBits 42 = .ok (.getfield 31, 3) := dX3_takeBits_24_k.2.2.2.2.2.2.2.2.2.2.1
theorem dX3_takeBits_45 : decode cX3_takeBits 45 = .ok (.iload_n 1, 1) := dX3_takeBits_24_k.2.2.2.2.2.2.2.2.2.2.2.1
theorem dX3_takeBits_46 : decode cX3_takeBits 46 = .ok (.iadd, 1) := dX3_takeBits_24_k.2.2.2.2.2.2.2.2.2.2.2.2.1
theorem dX3_takeBits_47 : decode cX3_takeBits 47 = .ok (.putfield 31, 3) := dX3_takeBits_24_k.2.2.2.2.2.2.2.2.2.2.2.2.2.1
theorem dX3_takeBits_50 : decode cX3_takeBits 50 = .ok (.iload_n 2, 1) := dX3_takeBits_24_k.2.2.2.2.2.2.2.2.2.2.2.2.2.2.1
theorem dX3_takeBits_51 : decode cX3_takeBits 51 = .ok (.ireturn, 1) := dX3_takeBits_24_k.2.2.2.2.2.2.2.2.2.2.2.2.2.2.2
theorem dX3_lose_0_k : decode cX3_lose 0 = .ok (.aload_n 0, 1) ∧ decode cX3_lose 1 = .ok (.dup, 1) ∧ decode cX3_lose 2 = .ok (.getfield 34, 3) ∧ decode cX3_lose 5 = .ok (.aload_n 0, 1) ∧ decode cX3_lose 6 = .ok (.getfield 12, 3) ∧ decode cX3_lose 9 = .ok (.getfield 55, 3) ∧ decode cX3_lose 12 = .ok (.iadd, 1) ∧ decode cX3_lose 13 = .ok (.putfield 34, 3) ∧ decode cX3_lose 16 = .ok (.aload_n 0, 1) ∧ decode cX3_lose 17 = .ok (.getfield 12, 3) ∧ decode cX3_lose 20 = .ok (.invokevirtual 37, 3) ∧ decode cX3_lose 23 = .ok (.aload_n 0, 1) ∧ decode cX3_lose 24 = .ok (.iconst 0, 1) ∧ decode cX3_lose 25 = .ok (.putfield 18, 3) ∧ decode cX3_lose 28 = .ok (.aload_n 0, 1) ∧ decode cX3_lose 29 = .ok (.iconst 0, 1) := by decide +kernel
theorem dX3_lose_0 : decode cX3_lose 0 = .ok (.aload_n 0, 1) := dX3_lose_0_k.1
theorem dX3_lose_1 : decode cX3_lose 1 = .ok (.dup, 1) := dX3_lose_0_k.2.1
theorem dX3_lose_2 : decode cX3_lose 2 = .ok (.getfield 34, 3) := dX3_lose_0_k.2.2.1
theorem dX3_lose_5 : decode cX3_lose 5 = .ok (.aload_n 0, 1) := dX3_lose_0_k.2.2.2.1
theorem dX3_lose_6 : decode cX3_lose 6 = .ok (.getfield 12, 3) := dX3_lose_0_k.2.2.2.2.1
theorem dX3_lose_9 : decode cX3_lose 9 = .ok (.getfield 55, 3) := dX3_lose_0_k.2.2.2.2.2.1
theorem dX3_lose_12 : decode cX3_lose 12 = .ok (.iadd, 1) := dX3_lose_0_k.2.2.2.2.2.2.1
theorem dX3_lose_13 : decode cX3_lose 13 = .ok (.putfield 34, 3) := dX3_lose_0_k.2.2.2.2.2.2.2.1
theorem dX3_lose_16 : decode cX3_lose 16 = .ok (.aload_n 0, 1) := dX3_lose_0_k.2.2.2.2.2.2.2.2.1
theorem dX3_lose_17 : decode cX3_lose 17 = .ok (.getfield 12, 3) := dX3_lose_0_k.2.2.2.2.2.2.2.2.2.1
theorem dX3_lose_20 : decode cX3_lose 20 = .ok (.invokevirtual 37, 3) := dX3_lose_0_k.2.2.2.2.2.2.2.2.2.2.1
theorem dX3_lose_23 : decode cX3_lose 23 = .ok (.aload_n 0, 1) := dX3_lose_0_k.2.2.2.2.2.2.2.2.2.2.2.1
theorem dX3_lose_24 : decode cX3_lose 24 = .ok (.iconst 0, 1) := dX3_lose_0_k.2.2.2.2.2.2.2.2.2.2.2.2.1
theorem dX3_lose_25 : decode cX3_lose 25 = .ok (.putfield 18, 3) := dX3_lose_0_k.2.2.2.2.2.2.2.2.2.2.2.2.2.1
theorem dX3_lose_28 : decode cX3_lose 28 = .ok (.aload_n 0, 1) := dX3_lose_0_k.2.2.2.2.2.2.2.2.2.2.2.2.2.2.1
theorem dX3_lose_29 : decode cX3_lose 29 = .ok (.iconst 0, 1) := dX3_lose_0_k.2.2.2.2.2.2.2.2.2.2.2.2.2.2.2
theorem dX3_lose_30_k : decode cX3_lose 30 = .ok (.putfield 22, 3) ∧ decode cX3_lose 33 = .ok (.return_, 1) := by decide +kernel
theorem dX3_lose_30 : decode cX3_lose 30 = .ok (.putfield 22, 3) := dX3_lose_30_k.1
theorem dX3_lose_33 : decode cX3_lose 33 = .ok (.return_, 1) := dX3_lose_30_k.2
theorem dX3_copyFrom_0_k : decode cX3_copyFrom 0 = .ok (.aload_n 0, 1) ∧ decode cX3_copyFrom 1 = .ok (.getfield 12, 3) ∧ decode cX3_copyFrom 4 = .ok (.aload_n 1, 1) ∧ decode cX3_copyFrom 5 = .ok (.getfield 12, 3) ∧ decode cX3_copyFrom 8 = .ok (.invokevirtual 64, 3) ∧ decode cX3_copyFrom 11 = .ok (.aload_n 0, 1) ∧ decode cX3_copyFrom 12 = .ok (.aload_n 1, 1) ∧ decode cX3_copyFrom 13 = .ok (.getfield 18, 3) ∧ decode cX3_copyFrom 16 = .ok (.putfield 18, 3) ∧ decode cX3_copyFrom 19 = .ok (.aload_n 0, 1) ∧ decode cX3_copyFrom 20 = .ok (.aload_n 1, 1) ∧ decode cX3_copyFrom 21 = .ok (.getfield 22, 3) ∧ decode cX3_copyFrom 24 = .ok (.putfield 22, 3) ∧ decode cX3_copyFrom 27 = .ok (.aload_n 0, 1) ∧ decode cX3_copyFrom 28 = .ok (.aload_n 1, 1) ∧ decode cX3_copyFrom 29 = .ok (.getfield 25, 3) := by decide +kernel
theorem dX3_copyFrom_0 : decode cX3_copyFrom 0 = .ok (.aload_n 0, 1) := dX3_copyFrom_0_k.1
theorem dX3_copyFrom_1 : decode cX3_copyFrom 1 = .ok (.getfield 12, 3) := dX3_copyFrom_0_k.2.1
theorem dX3_copyFrom_4 : decode cX3_copyFrom 4 = .ok (.aload_n 1, 1) := dX3_copyFrom_0_k.2.2.1
theorem dX3_copyFrom_5 : decode cX3_copyFrom 5 = .ok (.getfield 12, 3) := dX3_copyFrom_0_k.2.2.2.1
theorem dX3_copyFrom_8 : decode cX3_copyFrom 8 = .ok (.invokevirtual 64, 3) := dX3_copyFrom_0_k.2.2.2.2.1
theorem dX3_copyFrom_11 : decode cX3_copyFrom 11 = .ok (.aload_n 0, 1) := dX3_copyFrom_0_k.2.2.2.2.2.1
theorem dX3_copyFrom_12 : decode cX3_copyFrom 12 = .ok (.aload_n 1, 1) := dX3_copyFrom_0_k.2.2.2.2.2.2.1
theorem dX3_copyFrom_13 : decode cX3_copyFrom 13 = .ok (.getfield 18, 3) := dX3_copyFrom_0_k.2.2.2.2.2.2.2.1
theorem dX3_copyFrom_16 : decode cX3_copyFrom 16 = .ok (.putfield 18, 3) := dX3_copyFrom_0_k.2.2.2.2.2.2.2.2.1
theorem dX3_copyFrom_19 : decode cX3_copyFrom 19 = .ok (.aload_n 0, 1) := dX3_copyFrom_0_k.2.2.2.2.2.2.2.2.2.1
theorem dX3_copyFrom_20 : decode cX3_copyFrom 20 = .ok (.aload_n 1, 1) := dX3_copyFrom_0_k.2.2.2.2.2.2.2.2.2.2.1
theorem dX3_copyFrom_21 : decode cX3_copyFrom 21 = .ok (.getfield 22, 3) := dX3_copyFrom_0_k.2.2.2.2.2.2.2.2.2.2.2.1
theorem dX3_copyFrom_24 : decode cX3_copyFrom 24 = .ok (.putfield 22, 3) := dX3_copyFrom_0_k.2.2.2.2.2.2.2.2.2.2.2.2.1
theorem dX3_copyFrom_27 : decode cX3_copyFrom 27 = .ok (.aload_n 0, 1) := dX3_copyFrom_0_k.2.2.2.2.2.2.2.2.2.2.2.2.2.1
theorem dX3_copyFrom_28 : decode cX3_copyFrom 28 = .ok (.aload_n 1, 1) := dX3_copyFrom_0_k.2.2.2.2.2.2.2.2.2.2.2.2.2.2.1
theorem dX3_copyFrom_29 : decode cX3_copyFrom 29 = .ok (.getfield 25, 3) := dX3_copyFrom_0_k.2.2.2.2.2.2.2.2.2.2.2.2.2.2.2
theorem dX3_copyFrom_32_k : decode cX3_copyFrom 32 = .ok (.putfield 25, 3) ∧ decode cX3_copyFrom 35 = .ok (.aload_n 0, 1) ∧ decode cX3_copyFrom 36 = .ok (.aload_n 1, 1) ∧ decode cX3_copyFrom 37 = .ok (.getfield 28, 3) ∧ decode cX3_copyFrom 40 = .ok (.putfield 28, 3) ∧ decode cX3_copyFrom 43 = .ok (.aload_n 0, 1) ∧ decode cX3_copyFrom 44 = .ok (.aload_n 1, 1) ∧ decode cX3_copyFrom 45 = .ok (.getfield 31, 3) ∧ decode cX3_copyFrom 48 = .ok (.putfield 31, 3) ∧ decode cX3_copyFrom 51 = .ok (.aload_n 0, 1) ∧ decode cX3_copyFrom 52 = .ok (.aload_n 1, 1) ∧ decode cX3_copyFrom 53 = .ok (.getfield 34, 3) ∧ decode cX3_copyFrom 56 = .ok (.putfield 34, 3) ∧ decode cX3_copyFrom 59 = .ok (.return_, 1) := by decide +kernel
theorem dX3_copyFrom_32 : decode cX3_copyFrom 32 = .ok (.putfield 25, 3) := dX3_copyFrom_32_k.1
theorem dX3_copyFrom_35 : decode cX3_copyFrom 35 = .ok (.aload_n 0, 1) := dX3_copyFrom_32_k.2.1
theorem dX3_copyFrom_36 : decode cX3_copyFrom 36 = .ok (.aload_n 1, 1) := dX3_copyFrom_32_k.2.2.1
theorem dX3_copyFrom_37 : decode cX3_copyFrom 37 = .ok (.getfield 28, 3) := dX3_copyFrom_32_k.2.2.2.1
theorem dX3_copyFrom_40 : decode cX3_copyFrom 40 = .ok (.putfield 28, 3) := dX3_copyFrom_32_k.2.2.2.2.1
theorem dX3_copyFrom_43 : decode cX3_copyFrom 43 = .ok (.aload_n 0, 1) := dX3_copyFrom_32_k.2.2.2.2.2.1
theorem dX3_copyFrom_44 : decode cX3_copyFrom 44 = .ok (.aload_n 1, 1) := dX3_copyFrom_32_k.2.2.2.2.2.2.1
theorem dX3_copyFrom_45 : decode cX3_copyFrom 45 = .ok (.getfield 31, 3) := dX3_copyFrom_32_k.2.2.2.2.2.2.2.1
theorem dX3_copyFrom_48 : decode cX3_copyFrom 48 = .ok (.putfield 31, 3) := dX3_copyFrom_32_k.2.2.2.2.2.2.2.2.1
theorem dX3_copyFrom_51 : decode cX3_copyFrom 51 = .ok (.aload_n 0, 1) := dX3_copyFrom_32_k.2.2.2.2.2.2.2.2.2.1
theorem dX3_copyFrom_52 : decode cX3_copyFrom 52 = .ok (.aload_n 1, 1) := dX3_copyFrom_32_k.2.2.2.2.2.2.2.2.2.2.1
theorem dX3_copyFrom_53 : decode cX3_copyFrom 53 = .ok (.getfield 34, 3) := dX3_copyFrom_32_k.2.2.2.2.2.2.2.2.2.2.2.1
theorem dX3_copyFrom_56 : decode cX3_copyFrom 56 = .ok (.putfield 34, 3) := dX3_copyFrom_32_k.2.2.2.2.2.2.2.2.2.2.2.2.1
theorem dX3_copyFrom_59 : decode cX3_copyFrom 59 = .ok (.return_, 1) := dX3_copyFrom_32_k.2.2.2.2.2.2.2.2.2.2.2.2.2
theorem dX4_init_0_k : decode cX4_init 0 = .ok (.aload_n 0, 1) ∧ decode cX4_init 1 = .ok (.invokespecial 3, 3) ∧ decode cX4_init 4 = .ok (.aload_n 0, 1) ∧ decode cX4_init 5 = .ok (.sipush 512, 3) ∧ decode cX4_init 8 = .ok (.newarray .int, 2) ∧ decode cX4_init 10 = .ok (.putfield 11, 3) ∧ decode cX4_init 13 = .ok (.aload_n 0, 1) ∧ decode cX4_init 14 = .ok (.iconst 0, 1) ∧ decode cX4_init 15 = .ok (.putfield 15, 3) ∧ decode cX4_init 18 = .ok (.aload_n 0, 1) ∧ decode cX4_init 19 = .ok (.iconst 0, 1) ∧ decode cX4_init 20 = .ok (.putfield 19, 3) ∧ decode cX4_init 23 = .ok (.return_, 1) := by decide +kernel
theorem dX4_init_0 : decode cX4_init 0 = .ok (.aload_n 0, 1) := dX4_init_0_k.1
theorem dX4_init_1 : decode cX4_init 1 = .ok (.invokespecial 3, 3) := dX4_init_0_k.2.1
theorem dX4_init_4 : decode cX4_init 4 = .ok (.aload_n 0, 1) := dX4_init_0_k.2.2.1
theorem dX4_init_5 : decode cX4_init 5 = .ok (.sipush 512, 3) := dX4_init_0_k.2.2.2.1
theorem dX4_init_8 : decode cX4_init 8 = .ok (.newarray .int, 2) := dX4_init_0_k.2.2.2.2.1
theorem dX4_init_10 : decode cX4_init 10 = .ok (.putfield 11, 3) := dX4_init_0_k.2.2.2.2.2.1
theorem dX4_init_13 : decode cX4_init 13 = .ok (.aload_n 0, 1) := dX4_init_0_k.2.2.2.2.2.2.1
theorem dX4_init_14 : decode cX4_init 14 = .ok (.iconst 0, 1) := dX4_init_0_k.2.2.2.2.2.2.2.1
theorem dX4_init_15 : decode cX4_init 15 = .ok (.putfield 15, 3) := dX4_init_0_k.2.2.2.2.2.2.2.2.1
theorem dX4_init_18 : decode cX4_init 18 = .ok (.aload_n 0, 1) := dX4_init_0_k.2.2.2.2.2.2.2.2.2.1
theorem dX4_init_19 : decode cX4_init 19 = .ok (.iconst 0, 1) := dX4_init_0_k.2.2.2.2.2.2.2.2.2.2.1
theorem dX4_init_20 : decode cX4_init 20 = .ok (.putfield 19, 3) := dX4_init_0_k.2.2.2.2.2.2.2.2.2.2.2.1
theorem dX4_init_23 : decode cX4_init 23 = .ok (.return_, 1) := dX4_init_0_k.2.2.2.2.2.2.2.2.2.2.2.2
theorem dX4_clear_0_k : decode cX4_clear 0 = .ok (.aload_n 0, 1) ∧ decode cX4_clear 1 = .ok (.iconst 0, 1) ∧ decode cX4_clear 2 = .ok (.putfield 15, 3) ∧ decode cX4_clear 5 = .ok (.aload_n 0, 1) ∧ decode cX4_clear 6 = .ok (.iconst 0, 1) ∧ decode cX4_clear 7 = .ok (.putfield 19, 3) ∧ decode cX4_clear 10 = .ok (.return_, 1) := by decide +kernel
theorem dX4_clear_0 : decode cX4_clear 0 = .ok (.aload_n 0, 1) := dX4_clear_0_k.1
theorem dX4_clear_1 : decode cX4_clear 1 = .ok (.iconst 0, 1) := dX4_clear_0_k.2.1
theorem dX4_clear_2 : decode cX4_clear 2 = .ok (.putfield 15, 3) := dX4_clear_0_k.2.2.1
theorem dX4_clear_5 : decode cX4_clear 5 = .ok (.aload_n 0, 1) := dX4_clear_0_k.2.2.2.1
theorem dX4_clear_6 : decode cX4_clear 6 = .ok (.iconst 0, 1) := dX4_clear_0_k.2.2.2.2.1
theorem dX4_clear_7 : decode cX4_clear 7 = .ok (.putfield 19, 3) := dX4_clear_0_k.2.2.2.2.2.1
theorem dX4_clear_10 : decode cX4_clear 10 = .ok (.return_, 1) := dX4_clear_0_k.2.2.2.2.2.2
theorem dX4_bitAt_0_k : decode cX4_bitAt 0 = .ok (.iload_n 1, 1) ∧ decode cX4_bitAt 1 = .ok (.ifCond .lt 11, 3) ∧ decode cX4_bitAt 4 = .ok (.iload_n 1, 1) ∧ decode cX4_bitAt 5 = .ok (.aload_n 0, 1) ∧ decode cX4_bitAt 6 = .ok (.getfield 19, 3) ∧ decode cX4_bitAt 9 = .ok (.if_icmp .lt 7, 3) ∧ decode cX4_bitAt 12 = .ok (.iconst (-1), 1) ∧ decode cX4_bitAt 13 = .ok (.goto 18, 3) ∧ decode cX4_bitAt 16 = .ok (.aload_n 0, 1) ∧ decode cX4_bitAt 17 = .ok (.getfield 11, 3) ∧ decode cX4_bitAt 20 = .ok (.aload_n 0, 1) ∧ decode cX4_bitAt 21 = .ok (.getfield 15, 3) ∧ decode cX4_bitAt 24 = .ok (.iload_n 1, 1) ∧ decode cX4_bitAt 25 = .ok (.iadd, 1) ∧ decode cX4_bitAt 26 = .ok (.sipush 511, 3) ∧ decode cX4_bitAt 29 = .ok (.iand, 1) := by decide +kernel
theorem dX4_bitAt_0 : decode cX4_bitAt 0 = .ok (.iload_n 1, 1) := dX4_bitAt_0_k.1
theorem dX4_bitAt_1 : decode cX4_bitAt 1 = .ok (.ifCond .lt 11, 3) := dX4_bitAt_0_k.2.1
theorem dX4_bitAt_4 : decode cX4_bitAt 4 = .ok (.iload_n 1, 1) := dX4_bitAt_0_k.2.2.1
theorem dX4_bitAt_5 : decode cX4_bitAt 5 = .ok (.aload_n 0, 1) := dX4_bitAt_0_k.2.2.2.1
theorem dX4_bitAt_6 : decode cX4_bitAt 6 = .ok (.getfield 19, 3) := dX4_bitAt_0_k.2.2.2.2.1
theorem dX4_bitAt_9 : decode cX4_bitAt 9 = .ok (.if_icmp .lt 7, 3) := dX4_bitAt_0_k.2.2.2.2.2.1
theorem dX4_bitAt_12 : decode cX4_bitAt 12 = .ok (.iconst (-1), 1) := dX4_bitAt_0_k.2.2.2.2.2.2.1
theorem dX4_bitAt_13 : decode cX4_bitAt 13 = .ok (.goto 18, 3) := dX4_bitAt_0_k.2.2.2.2.2.2.2.1
theorem dX4_bitAt_16 : decode cX4_bitAt 16 = .ok (.aload_n 0, 1) := dX4_bitAt_0_k.2.2.2.2.2.2.2.2.1
theorem dX4_bitAt_17 : decode cX4_bitAt 17 = .ok (.getfield 11, 3) := dX4_bitAt_0_k.2.2.2.2.2.2.2.2.2.1
theorem dX4_bitAt_20 : decode cX4_bitAt 20 = .ok (.aload_n 0, 1) := dX4_bitAt_0_k.2.2.2.2.2.2.2.2.2.2.1
theorem dX4_bitAt_21 : decode cX4_bitAt 21 = .ok (.getfield 15, 3) := dX4_bitAt_0_k.2.2.2.2.2.2.2.2.2.2.2.1
theorem dX4_bitAt_24 : decode cX4_bitAt 24 = .ok (.iload_n 1, 1) := dX4_bitAt_0_k.2.2.2.2.2.2.2.2.2.2.2.2.1
theorem dX4_bitAt_25 : decode cX4_bitAt 25 = .ok (.iadd, 1) := dX4_bitAt_0_k.2.2.2.2.2.2.2.2.2.2.2.2.2.1
theorem dX4_bitAt_26 : decode cX4_bitAt 26 = .ok (.sipush 511, 3) := dX4_bitAt_0_k.2.2.2.2.2.2.2.2.2.2.2.2.2.2.1
theorem dX4_bitAt_29 : decode cX4_bitAt 29 = .ok (.iand, 1) := dX4_bitAt_0_k.2.2.2.2.2.2.2.2.2.2.2.2.2.2.2
theorem dX4_bitAt_30_k : decode cX4_bitAt 30 = .ok (.iaload, 1) ∧ decode cX4_bitAt 31 = .ok (.ireturn, 1) := by decide +kernel
theorem dX4_bitAt_30 : decode cX4_bitAt 30 = .ok (.iaload, 1) := dX4_bitAt_30_k.1
theorem dX4_bitAt_31 : decode cX4_bitAt 31 = .ok (.ireturn, 1) := dX4_bitAt_30_k.2
theorem dX4_append_0_k : decode cX4_append 0 = .ok (.aload_n 0, 1) ∧ decode cX4_append 1 = .ok (.getfield 19, 3) ∧ decode cX4_append 4 = .ok (.sipush 511, 3) ∧ decode cX4_append 7 = .ok (.if_icmp .gt 32, 3) ∧ decode cX4_append 10 = .ok (.aload_n 0, 1) ∧ decode cX4_append 11 = .ok (.getfield 11, 3) ∧ decode cX4_append 14 = .ok (.aload_n 0, 1) ∧ decode cX4_append 15 = .ok (.getfield 15, 3) ∧ decode cX4_append 18 = .ok (.aload_n 0, 1) ∧ decode cX4_append 19 = .ok (.getfield 19, 3) ∧ decode cX4_append 22 = .ok (.iadd, 1) ∧ decode cX4_append 23 = .ok (.sipush 511, 3) ∧ decode cX4_append 26 = .ok (.iand, 1) ∧ decode cX4_append 27 = .ok (.iload_n 1, 1) ∧ decode cX4_append 28 = .ok (.iastore, 1) ∧ decode cX4_append 29 = .ok (.aload_n 0, 1) := by decide +kernel
theorem dX4_append_0 : decode cX4_append 0 = .ok (.aload_n 0, 1) := dX4_append_0_k.1
theorem dX4_append_1 : decode cX4_append 1 = .ok (.getfield 19, 3) := dX4_append_0_k.2.1
theorem dX4_append_4 : decode cX4_append 4 = .ok (.sipush 511, 3) := dX4_append_0_k.2.2.1
theorem dX4_append_7 : decode cX4_append 7 = .ok (.if_icmp .gt 32, 3) := dX4_append_0_k.2.2.2.1
theorem dX4_append_10 : decode cX4_append 10 = .ok (.aload_n 0, 1) := dX4_append_0_k.2.2.2.2.1
theorem dX4_append_11 : decode cX4_append 11 = .ok (.getfield 11, 3) := dX4_append_0_k.2.2.2.2.2.1
theorem dX4_append_14 : decode cX4_append 14 = .ok (.aload_n 0, 1) := dX4_append_0_k.2.2.2.2.2.2.1
theorem dX4_append_15 : decode cX4_append 15 = .ok (.getfield 15, 3) := dX4_append_0_k.2.2.2.2.2.2.2.1
theorem dX4_append_18 : decode cX4_append 18 = .ok (.aload_n 0, 1) := dX4_append_0_k.2.2.2.2.2.2.2.2.1
theorem dX4_append_19 : decode cX4_append 19 = .ok (.getfield 19, 3) := dX4_append_0_k.2.2.2.2.2.2.2.2.2.1
theorem dX4_append_22 : decode cX4_append 22 = .ok (.iadd, 1) := dX4_append_0_k.2.2.2.2.2.2.2.2.2.2.1
theorem dX4_append_23 : decode cX4_append 23 = .ok (.sipush 511, 3) := dX4_append_0_k.2.2.2.2.2.2.2.2.2.2.2.1
theorem dX4_append_26 : decode cX4_append 26 = .ok (.iand, 1) := dX4_append_0_k.2.2.2.2.2.2.2.2.2.2.2.2.1
theorem dX4_append_27 : decode cX4_append 27 = .ok (.iload_n 1, 1) := dX4_append_0_k.2.2.2.2.2.2.2.2.2.2.2.2.2.1
theorem dX4_append_28 : decode cX4_append 28 = .ok (.iastore, 1) := dX4_append_0_k.2.2.2.2.2.2.2.2.2.2.2.2.2.2.1
theorem dX4_append_29 : decode cX4_append 29 = .ok (.aload_n 0, 1) := dX4_append_0_k.2.2.2.2.2.2.2.2.2.2.2.2.2.2.2
theorem dX4_append_30_k : decode cX4_append 30 = .ok (.dup, 1) ∧ decode cX4_append 31 = .ok (.getfield 19, 3) ∧ decode cX4_append 34 = .ok (.iconst 1, 1) ∧ decode cX4_append 35 = .ok (.iadd, 1) ∧ decode cX4_append 36 = .ok (.putfield 19, 3) ∧ decode cX4_append 39 = .ok (.return_, 1) := by decide +kernel
theorem dX4_append_30 : decode cX4_append 30 = .ok (.dup, 1) := dX4_append_30_k.1
theorem dX4_append_31 : decode cX4_append 31 = .ok (.getfield 19, 3) := dX4_append_30_k.2.1
theorem dX4_append_34 : decode cX4_append 34 = .ok (.iconst 1, 1) := dX4_append_30_k.2.2.1
theorem dX4_append_35 : decode cX4_append 35 = .ok (.iadd, 1) := dX4_append_30_k.2.2.2.1
theorem dX4_append_36 : decode cX4_append 36 = .ok (.putfield 19, 3) := dX4_append_30_k.2.2.2.2.1
theorem dX4_append_39 : decode cX4_append 39 = .ok (.return_, 1) := dX4_append_30_k.2.2.2.2.2
theorem dX4_dropFirst_0_k : decode cX4_dropFirst 0 = .ok (.aload_n 0, 1) ∧ decode cX4_dropFirst 1 = .ok (.getfield 19, 3) ∧ decode cX4_dropFirst 4 = .ok (.ifCond .gt 5, 3) ∧ decode cX4_dropFirst 7 = .ok (.iconst 0, 1) ∧ decode cX4_dropFirst 8 = .ok (.ireturn, 1) ∧ decode cX4_dropFirst 9 = .ok (.aload_n 0, 1) ∧ decode cX4_dropFirst 10 = .ok (.getfield 11, 3) ∧ decode cX4_dropFirst 13 = .ok (.aload_n 0, 1) ∧ decode cX4_dropFirst 14 = .ok (.getfield 15, 3) ∧ decode cX4_dropFirst 17 = .ok (.sipush 511, 3) ∧ decode cX4_dropFirst 20 = .ok (.iand, 1) ∧ decode cX4_dropFirst 21 = .ok (.iaload, 1) ∧ decode cX4_dropFirst 22 = .ok (.istore_n 1, 1) ∧ decode cX4_dropFirst 23 = .ok (.aload_n 0, 1) ∧ decode cX4_dropFirst 24 = .ok (.aload_n 0, 1) ∧ decode cX4_dropFirst 25 = .ok (.getfield 15, 3) := by decide +kernel
theorem dX4_dropFirst_0 : decode cX4_dropFirst 0 = .ok (.aload_n 0, 1) := dX4_dropFirst_0_k.1
theorem dX4_dropFirst_1 : decode cX4_dropFirst 1 = .ok (.getfield 19, 3) := dX4_dropFirst_0_k.2.1
theorem dX4_dropFirst_4 : decode cX4_dropFirst 4 = .ok (.ifCond .gt 5, 3) := dX4_dropFirst_0_k.2.2.1
theorem dX4_dropFirst_7 : decode cX4_dropFirst 7 = .ok (.iconst 0, 1) := dX4_dropFirst_0_k.2.2.2.1
theorem dX4_dropFirst_8 : decode cX4_dropFirst 8 = .ok (.ireturn, 1) := dX4_dropFirst_0_k.2.2.2.2.1
theorem dX4_dropFirst_9 : decode cX4_dropFirst 9 = .ok (.aload_n 0, 1) := dX4_dropFirst_0_k.2.2.2.2.2.1
theorem dX4_dropFirst_10 : decode cX4_dropFirst 10 = .ok (.getfield 11, 3) := dX4_dropFirst_0_k.2.2.2.2.2.2.1
theorem dX4_dropFirst_13 : decode cX4_dropFirst 13 = .ok (.aload_n 0, 1) := dX4_dropFirst_0_k.2.2.2.2.2.2.2.1
theorem dX4_dropFirst_14 : decode cX4_dropFirst 14 = .ok (.getfield 15, 3) := dX4_dropFirst_0_k.2.2.2.2.2.2.2.2.1
theorem dX4_dropFirst_17 : decode cX4_dropFirst 17 = .ok (.sipush 511, 3) := dX4_dropFirst_0_k.2.2.2.2.2.2.2.2.2.1
theorem dX4_dropFirst_20 : decode cX4_dropFirst 20 = .ok (.iand, 1) := dX4_dropFirst_0_k.2.2.2.2.2.2.2.2.2.2.1
theorem dX4_dropFirst_21 : decode cX4_dropFirst 21 = .ok (.iaload, 1) := dX4_dropFirst_0_k.2.2.2.2.2.2.2.2.2.2.2.1
theorem dX4_dropFirst_22 : decode cX4_dropFirst 22 = .ok (.istore_n 1, 1) := dX4_dropFirst_0_k.2.2.2.2.2.2.2.2.2.2.2.2.1
theorem dX4_dropFirst_23 : decode cX4_dropFirst 23 = .ok (.aload_n 0, 1) := dX4_dropFirst_0_k.2.2.2.2.2.2.2.2.2.2.2.2.2.1
theorem dX4_dropFirst_24 : decode cX4_dropFirst 24 = .ok (.aload_n 0, 1) := dX4_dropFirst_0_k.2.2.2.2.2.2.2.2.2.2.2.2.2.2.1
theorem dX4_dropFirst_25 : decode cX4_dropFirst 25 = .ok (.getfield 15, 3) := dX4_dropFirst_0_k.2.2.2.2.2.2.2.2.2.2.2.2.2.2.2
theorem dX4_dropFirst_28_k : decode cX4_dropFirst 28 = .ok (.iconst 1, 1) ∧ decode cX4_dropFirst 29 = .ok (.iadd, 1) ∧ decode cX4_dropFirst 30 = .ok (.sipush 511, 3) ∧ decode cX4_dropFirst 33 = .ok (.iand, 1) ∧ decode cX4_dropFirst 34 = .ok (.putfield 15, 3) ∧ decode cX4_dropFirst 37 = .ok (.aload_n 0, 1) ∧ decode cX4_dropFirst 38 = .ok (.dup, 1) ∧ decode cX4_dropFirst 39 = .ok (.getfield 19, 3) ∧ decode cX4_dropFirst 42 = .ok (.iconst 1, 1) ∧ decode cX4_dropFirst 43 = .ok (.isub, 1) ∧ decode cX4_dropFirst 44 = .ok (.putfield 19, 3) ∧ decode cX4_dropFirst 47 = .ok (.iload_n 1, 1) ∧ decode cX4_dropFirst 48 = .ok (.ireturn, 1) := by decide +kernel
theorem dX4_dropFirst_28 : decode cX4_dropFirst 28 = .ok (.iconst 1, 1) := dX4_dropFirst_28_k.1
theorem dX4_dropFirst_29 : decode cX4_dropFirst 29 = .ok (.iadd, 1) := dX4_dropFirst_28_k.2.1
theorem dX4_dropFirst_30 : decode cX4_dropFirst 30 = .ok (.sipush 511, 3) := dX4_dropFirst_28_k.2.2.1
theorem dX4_dropFirst_33 : decode cX4_dropFirst 33 = .ok (.iand, 1) := dX4_dropFirst_28_k.2.2.2.1
theorem dX4_dropFirst_34 : decode cX4_dropFirst 34 = .ok (.putfield 15, 3) := dX4_dropFirst_28_k.2.2.2.2.1
theorem dX4_dropFirst_37 : decode cX4_dropFirst 37 = .ok (.aload_n 0, 1) := dX4_dropFirst_28_k.2.2.2.2.2.1
theorem dX4_dropFirst_38 : decode cX4_dropFirst 38 = .ok (.dup, 1) := dX4_dropFirst_28_k.2.2.2.2.2.2.1
theorem dX4_dropFirst_39 : decode cX4_dropFirst 39 = .ok (.getfield 19, 3) := dX4_dropFirst_28_k.2.2.2.2.2.2.2.1
theorem dX4_dropFirst_42 : decode cX4_dropFirst 42 = .ok (.iconst 1, 1) := dX4_dropFirst_28_k.2.2.2.2.2.2.2.2.1
theorem dX4_dropFirst_43 : decode cX4_dropFirst 43 = .ok (.isub, 1) := dX4_dropFirst_28_k.2.2.2.2.2.2.2.2.2.1
theorem dX4_dropFirst_44 : decode cX4_dropFirst 44 = .ok (.putfield 19, 3) := dX4_dropFirst_28_k.2.2.2.2.2.2.2.2.2.2.1
theorem dX4_dropFirst_47 : decode cX4_dropFirst 47 = .ok (.iload_n 1, 1) := dX4_dropFirst_28_k.2.2.2.2.2.2.2.2.2.2.2.1
theorem dX4_dropFirst_48 : decode cX4_dropFirst 48 = .ok (.ireturn, 1) := dX4_dropFirst_28_k.2.2.2.2.2.2.2.2.2.2.2.2
theorem dX4_copyFrom_0_k : decode cX4_copyFrom 0 = .ok (.aload_n 1, 1) ∧ decode cX4_copyFrom 1 = .ok (.getfield 11, 3) ∧ decode cX4_copyFrom 4 = .ok (.iconst 0, 1) ∧ decode cX4_copyFrom 5 = .ok (.aload_n 0, 1) ∧ decode cX4_copyFrom 6 = .ok (.getfield 11, 3) ∧ decode cX4_copyFrom 9 = .ok (.iconst 0, 1) ∧ decode cX4_copyFrom 10 = .ok (.sipush 512, 3) ∧ decode cX4_copyFrom 13 = .ok (.invokestatic 22, 3) ∧ decode cX4_copyFrom 16 = .ok (.aload_n 0, 1) ∧ decode cX4_copyFrom 17 = .ok (.aload_n 1, 1) ∧ decode cX4_copyFrom 18 = .ok (.getfield 15, 3) ∧ decode cX4_copyFrom 21 = .ok (.putfield 15, 3) ∧ decode cX4_copyFrom 24 = .ok (.aload_n 0, 1) ∧ decode cX4_copyFrom 25 = .ok (.aload_n 1, 1) ∧ decode cX4_copyFrom 26 = .ok (.getfield 19, 3) ∧ decode cX4_copyFrom 29 = .ok (.putfield 19, 3) := by decide +kernel
theorem dX4_copyFrom_0 : decode cX4_copyFrom 0 = .ok (.aload_n 1, 1) := dX4_copyFrom_0_k.1
theorem dX4_copyFrom_1 : decode cX4_copyFrom 1 = .ok (.getfield 11, 3) := dX4_copyFrom_0_k.2.1
theorem dX4_copyFrom_4 : decode cX4_copyFrom 4 = .ok (.iconst 0, 1) := dX4_copyFrom_0_k.2.2.1
theorem dX4_copyFrom_5 : decode cX4_copyFrom 5 = .ok (.aload_n 0, 1) := dX4_copyFrom_0_k.2.2.2.1
theorem dX4_copyFrom_6 : decode cX4_copyFrom 6 = .ok (.getfield 11, 3) := dX4_copyFrom_0_k.2.2.2.2.1
theorem dX4_copyFrom_9 : decode cX4_copyFrom 9 = .ok (.iconst 0, 1) := dX4_copyFrom_0_k.2.2.2.2.2.1
theorem dX4_copyFrom_10 : decode cX4_copyFrom 10 = .ok (.sipush 512, 3) := dX4_copyFrom_0_k.2.2.2.2.2.2.1
theorem dX4_copyFrom_13 : decode cX4_copyFrom 13 = .ok (.invokestatic 22, 3) := dX4_copyFrom_0_k.2.2.2.2.2.2.2.1
theorem dX4_copyFrom_16 : decode cX4_copyFrom 16 = .ok (.aload_n 0, 1) := dX4_copyFrom_0_k.2.2.2.2.2.2.2.2.1
theorem dX4_copyFrom_17 : decode cX4_copyFrom 17 = .ok (.aload_n 1, 1) := dX4_copyFrom_0_k.2.2.2.2.2.2.2.2.2.1
theorem dX4_copyFrom_18 : decode cX4_copyFrom 18 = .ok (.getfield 15, 3) := dX4_copyFrom_0_k.2.2.2.2.2.2.2.2.2.2.1
theorem dX4_copyFrom_21 : decode cX4_copyFrom 21 = .ok (.putfield 15, 3) := dX4_copyFrom_0_k.2.2.2.2.2.2.2.2.2.2.2.1
theorem dX4_copyFrom_24 : decode cX4_copyFrom 24 = .ok (.aload_n 0, 1) := dX4_copyFrom_0_k.2.2.2.2.2.2.2.2.2.2.2.2.1
theorem dX4_copyFrom_25 : decode cX4_copyFrom 25 = .ok (.aload_n 1, 1) := dX4_copyFrom_0_k.2.2.2.2.2.2.2.2.2.2.2.2.2.1
theorem dX4_copyFrom_26 : decode cX4_copyFrom 26 = .ok (.getfield 19, 3) := dX4_copyFrom_0_k.2.2.2.2.2.2.2.2.2.2.2.2.2.2.1
theorem dX4_copyFrom_29 : decode cX4_copyFrom 29 = .ok (.putfield 19, 3) := dX4_copyFrom_0_k.2.2.2.2.2.2.2.2.2.2.2.2.2.2.2
theorem dX4_copyFrom_32 : decode cX4_copyFrom 32 = .ok (.return_, 1) := by decide +kernel
theorem dX5_init_0_k : decode cX5_init 0 = .ok (.aload_n 0, 1) ∧ decode cX5_init 1 = .ok (.invokespecial 3, 3) ∧ decode cX5_init 4 = .ok (.aload_n 0, 1) ∧ decode cX5_init 5 = .ok (.new 9, 3) ∧ decode cX5_init 8 = .ok (.dup, 1) ∧ decode cX5_init 9 = .ok (.invokespecial 11, 3) ∧ decode cX5_init 12 = .ok (.putfield 12, 3) ∧ decode cX5_init 15 = .ok (.aload_n 0, 1) ∧ decode cX5_init 16 = .ok (.iconst 3, 1) ∧ decode cX5_init 17 = .ok (.newarray .int, 2) ∧ decode cX5_init 19 = .ok (.putfield 18, 3) ∧ decode cX5_init 22 = .ok (.aload_n 0, 1) ∧ decode cX5_init 23 = .ok (.iconst 0, 1) ∧ decode cX5_init 24 = .ok (.putfield 22, 3) ∧ decode cX5_init 27 = .ok (.aload_n 0, 1) ∧ decode cX5_init 28 = .ok (.iconst 0, 1) := by decide +kernel
theorem dX5_init_0 : decode cX5_init 0 = .ok (.aload_n 0, 1) := dX5_init_0_k.1
theorem dX5_init_1 : decode cX5_init 1 = .ok (.invokespecial 3, 3) := dX5_init_0_k.2.1
theorem dX5_init_4 : decode cX5_init 4 = .ok (.aload_n 0, 1) := dX5_init_0_k.2.2.1
theorem dX5_init_5 : decode cX5_init 5 = .ok (.new 9, 3) := dX5_init_0_k.2.2.2.1
theorem dX5_init_8 : decode cX5_init 8 = .ok (.dup, 1) := dX5_init_0_k.2.2.2.2.1
theorem dX5_init_9 : decode cX5_init 9 = .ok (.invokespecial 11, 3) := dX5_init_0_k.2.2.2.2.2.1
theorem dX5_init_12 : decode cX5_init 12 = .ok (.putfield 12, 3) := dX5_init_0_k.2.2.2.2.2.2.1
theorem dX5_init_15 : decode cX5_init 15 = .ok (.aload_n 0, 1) := dX5_init_0_k.2.2.2.2.2.2.2.1
theorem dX5_init_16 : decode cX5_init 16 = .ok (.iconst 3, 1) := dX5_init_0_k.2.2.2.2.2.2.2.2.1
theorem dX5_init_17 : decode cX5_init 17 = .ok (.newarray .int, 2) := dX5_init_0_k.2.2.2.2.2.2.2.2.2.1
theorem dX5_init_19 : decode cX5_init 19 = .ok (.putfield 18, 3) := dX5_init_0_k.2.2.2.2.2.2.2.2.2.2.1
theorem dX5_init_22 : decode cX5_init 22 = .ok (.aload_n 0, 1) := dX5_init_0_k.2.2.2.2.2.2.2.2.2.2.2.1
theorem dX5_init_23 : decode cX5_init 23 = .ok (.iconst 0, 1) := dX5_init_0_k.2.2.2.2.2.2.2.2.2.2.2.2.1
theorem dX5_init_24 : decode cX5_init 24 = .ok (.putfield 22, 3) := dX5_init_0_k.2.2.2.2.2.2.2.2.2.2.2.2.2.1
theorem dX5_init_27 : decode cX5_init 27 = .ok (.aload_n 0, 1) := dX5_init_0_k.2.2.2.2.2.2.2.2.2.2.2.2.2.2.1
theorem dX5_init_28 : decode cX5_init 28 = .ok (.iconst 0, 1) := dX5_init_0_k.2.2.2.2.2.2.2.2.2.2.2.2.2.2.2
theorem dX5_init_29_k : decode cX5_init 29 = .ok (.putfield 26, 3) ∧ decode cX5_init 32 = .ok (.aload_n 0, 1) ∧ decode cX5_init 33 = .ok (.iconst 0, 1) ∧ decode cX5_init 34 = .ok (.putfield 29, 3) ∧ decode cX5_init 37 = .ok (.aload_n 0, 1) ∧ decode cX5_init 38 = .ok (.iconst 0, 1) ∧ decode cX5_init 39 = .ok (.putfield 32, 3) ∧ decode cX5_init 42 = .ok (.aload_n 0, 1) ∧ decode cX5_init 43 = .ok (.iconst 0, 1) ∧ decode cX5_init 44 = .ok (.putfield 35, 3) ∧ decode cX5_init 47 = .ok (.aload_n 0, 1) ∧ decode cX5_init 48 = .ok (.iconst (-1), 1) ∧ decode cX5_init 49 = .ok (.putfield 38, 3) ∧ decode cX5_init 52 = .ok (.return_, 1) := by decide +kernel
theorem dX5_init_29 : decode cX5_init 29 = .ok (.putfield 26, 3) := dX5_init_29_k.1
theorem dX5_init_32 : decode cX5_init 32 = .ok (.aload_n 0, 1) := dX5_init_29_k.2.1
theorem dX5_init_33 : decode cX5_init 33 = .ok (.iconst 0, 1) := dX5_init_29_k.2.2.1
theorem dX5_init_34 : decode cX5_init 34 = .ok (.putfield 29, 3) := dX5_init_29_k.2.2.2.1
theorem dX5_init_37 : decode cX5_init 37 = .ok (.aload_n 0, 1) := dX5_init_29_k.2.2.2.2.1
theorem dX5_init_38 : decode cX5_init 38 = .ok (.iconst 0, 1) := dX5_init_29_k.2.2.2.2.2.1
theorem dX5_init_39 : decode cX5_init 39 = .ok (.putfield 32, 3) := dX5_init_29_k.2.2.2.2.2.2.1
theorem dX5_init_42 : decode cX5_init 42 = .ok (.aload_n 0, 1) := dX5_init_29_k.2.2.2.2.2.2.2.1
theorem dX5_init_43 : decode cX5_init 43 = .ok (.iconst 0, 1) := dX5_init_29_k.2.2.2.2.2.2.2.2.1
theorem dX5_init_44 : decode cX5_init 44 = .ok (.putfield 35, 3) := dX5_init_29_k.2.2.2.2.2.2.2.2.2.1
theorem dX5_init_47 : decode cX5_init 47 = .ok (.aload_n 0, 1) := dX5_init_29_k.2.2.2.2.2.2.2.2.2.2.1
theorem dX5_init_48 : decode cX5_init 48 = .ok (.iconst (-1), 1) := dX5_init_29_k.2.2.2.2.2.2.2.2.2.2.2.1
theorem dX5_init_49 : decode cX5_init 49 = .ok (.putfield 38, 3) := dX5_init_29_k.2.2.2.2.2.2.2.2.2.2.2.2.1
theorem dX5_init_52 : decode cX5_init 52 = .ok (.return_, 1) := dX5_init_29_k.2.2.2.2.2.2.2.2.2.2.2.2.2
theorem dX5_read_0_k : decode cX5_read 0 = .ok (.aload_n 0, 1) ∧ decode cX5_read 1 = .ok (.getfield 12, 3) ∧ decode cX5_read 4 = .ok (.invokevirtual 41, 3) ∧ decode cX5_read 7 = .ok (.aload_n 0, 1) ∧ decode cX5_read 8 = .ok (.iconst 0, 1) ∧ decode cX5_read 9 = .ok (.putfield 22, 3) ∧ decode cX5_read 12 = .ok (.aload_n 0, 1) ∧ decode cX5_read 13 = .ok (.iconst 0, 1) ∧ decode cX5_read 14 = .ok (.putfield 35, 3) ∧ decode cX5_read 17 = .ok (.aload_n 0, 1) ∧ decode cX5_read 18 = .ok (.iconst (-1), 1) ∧ decode cX5_read 19 = .ok (.putfield 38, 3) ∧ decode cX5_read 22 = .ok (.aload_n 0, 1) ∧ decode cX5_read 23 = .ok (.aload_n 1, 1) ∧ decode cX5_read 24 = .ok (.invokevirtual 44, 3) ∧ decode cX5_read 27 = .ok (.iconst 0, 1) := by decide +kernel
theorem dX5_read_0 : decode cX5_read 0 = .ok (.aload_n 0, 1) := dX5_read_0_k.1
theorem dX5_read_1 : decode cX5_read 1 = .ok (.getfield 12, 3) := dX5_read_0_k.2.1
theorem dX5_read_4 : decode cX5_read 4 = .ok (.invokevirtual 41, 3) := dX5_read_0_k.2.2.1
theorem dX5_read_7 : decode cX5_read 7 = .ok (.aload_n 0, 1) := dX5_read_0_k.2.2.2.1
theorem dX5_read_8 : decode cX5_read 8 = .ok (.iconst 0, 1) := dX5_read_0_k.2.2.2.2.1
theorem dX5_read_9 : decode cX5_read 9 = .ok (.putfield 22, 3) := dX5_read_0_k.2.2.2.2.2.1
theorem dX5_read_12 : decode cX5_read 12 = .ok (.aload_n 0, 1) := dX5_read_0_k.2.2.2.2.2.2.1
theorem dX5_read_13 : decode cX5_read 13 = .ok (.iconst 0, 1) := dX5_read_0_k.2.2.2.2.2.2.2.1
theorem dX5_read_14 : decode cX5_read 14 = .ok (.putfield 35, 3) := dX5_read_0_k.2.2.2.2.2.2.2.2.1
theorem dX5_read_17 : decode cX5_read 17 = .ok (.aload_n 0, 1) := dX5_read_0_k.2.2.2.2.2.2.2.2.2.1
theorem dX5_read_18 : decode cX5_read 18 = .ok (.iconst (-1), 1) := dX5_read_0_k.2.2.2.2.2.2.2.2.2.2.1
theorem dX5_read_19 : decode cX5_read 19 = .ok (.putfield 38, 3) := dX5_read_0_k.2.2.2.2.2.2.2.2.2.2.2.1
theorem dX5_read_22 : decode cX5_read 22 = .ok (.aload_n 0, 1) := dX5_read_0_k.2.2.2.2.2.2.2.2.2.2.2.2.1
theorem dX5_read_23 : decode cX5_read 23 = .ok (.aload_n 1, 1) := dX5_read_0_k.2.2.2.2.2.2.2.2.2.2.2.2.2.1
theorem dX5_read_24 : decode cX5_read 24 = .ok (.invokevirtual 44, 3) := dX5_read_0_k.2.2.2.2.2.2.2.2.2.2.2.2.2.2.1
theorem dX5_read_27 : decode cX5_read 27 = .ok (.iconst 0, 1) := dX5_read_0_k.2.2.2.2.2.2.2.2.2.2.2.2.2.2.2
theorem dX5_read_28_k : decode cX5_read 28 = .ok (.istore_n 2, 1) ∧ decode cX5_read 29 = .ok (.iload_n 2, 1) ∧ decode cX5_read 30 = .ok (.sipush 300, 3) ∧ decode cX5_read 33 = .ok (.if_icmp .ge 44, 3) ∧ decode cX5_read 36 = .ok (.aload_n 0, 1) ∧ decode cX5_read 37 = .ok (.getfield 26, 3) ∧ decode cX5_read 40 = .ok (.ifCond .eq 37, 3) ∧ decode cX5_read 43 = .ok (.aload_n 0, 1) ∧ decode cX5_read 44 = .ok (.aload_n 1, 1) ∧ decode cX5_read 45 = .ok (.invokevirtual 48, 3) ∧ decode cX5_read 48 = .ok (.ifCond .ne 18, 3) ∧ decode cX5_read 51 = .ok (.aload_n 0, 1) ∧ decode cX5_read 52 = .ok (.iconst 1, 1) ∧ decode cX5_read 53 = .ok (.putfield 35, 3) ∧ decode cX5_read 56 = .ok (.aload_n 0, 1) ∧ decode cX5_read 57 = .ok (.aload_n 0, 1) := by decide +kernel
theorem dX5_read_28 : decode cX5_read 28 = .ok (.istore_n 2, 1) := dX5_read_28_k.1
theorem dX5_read_29 : decode cX5_read 29 = .ok (.iload_n 2, 1) := dX5_read_28_k.2.1
theorem dX5_read_30 : decode cX5_read 30 = .ok (.sipush 300, 3) := dX5_read_28_k.2.2.1
theorem dX5_read_33 : decode cX5_read 33 = .ok (.if_icmp .ge 44, 3) := dX5_read_28_k.2.2.2.1
theorem dX5_read_36 : decode cX5_read 36 = .ok (.aload_n 0, 1) := dX5_read_28_k.2.2.2.2.1
theorem dX5_read_37 : decode cX5_read 37 = .ok (.getfield 26, 3) := dX5_read_28_k.2.2.2.2.2.1
theorem dX5_read_40 : decode cX5_read 40 = .ok (.ifCond .eq 37, 3) := dX5_read_28_k.2.2.2.2.2.2.1
theorem dX5_read_43 : decode cX5_read 43 = .ok (.aload_n 0, 1) := dX5_read_28_k.2.2.2.2.2.2.2.1
theorem dX5_read_44 : decode cX5_read 44 = .ok (.aload_n 1, 1) := dX5_read_28_k.2.2.2.2.2.2.2.2.1
theorem dX5_read_45 : decode cX5_read 45 = .ok (.invokevirtual 48, 3) := dX5_read_28_k.2.2.2.2.2.2.2.2.2.1
theorem dX5_read_48 : decode cX5_read 48 = .ok (.ifCond .ne 18, 3) := dX5_read_28_k.2.2.2.2.2.2.2.2.2.2.1
theorem dX5_read_51 : decode cX5_read 51 = .ok (.aload_n 0, 1) := dX5_read_28_k.2.2.2.2.2.2.2.2.2.2.2.1
theorem dX5_read_52 : decode cX5_read 52 = .ok (.iconst 1, 1) := dX5_read_28_k.2.2.2.2.2.2.2.2.2.2.2.2.1
theorem dX5_read_53 : decode cX5_read 53 = .ok (.putfield 35, 3) := dX5_read_28_k.2.2.2.2.2.2.2.2.2.2.2.2.2.1
theorem dX5_read_56 : decode cX5_read 56 = .ok (.aload_n 0, 1) := dX5_read_28_k.2.2.2.2.2.2.2.2.2.2.2.2.2.2.1
theorem dX5_read_57 : decode cX5_read 57 = .ok (.aload_n 0, 1) := dX5_read_28_k.2.2.2.2.2.2.2.2.2.2.2.2.2.2.2
theorem dX5_read_58_k : decode cX5_read 58 = .ok (.getfield 29, 3) ∧ decode cX5_read 61 = .ok (.putfield 38, 3) ∧ decode cX5_read 64 = .ok (.iconst 0, 1) ∧ decode cX5_read 65 = .ok (.ireturn, 1) ∧ decode cX5_read 66 = .ok (.aload_n 0, 1) ∧ decode cX5_read 67 = .ok (.aload_n 1, 1) ∧ decode cX5_read 68 = .ok (.invokevirtual 44, 3) ∧ decode cX5_read 71 = .ok (.iinc 2 1, 3) ∧ decode cX5_read 74 = .ok (.goto (-45), 3) ∧ decode cX5_read 77 = .ok (.aload_n 0, 1) ∧ decode cX5_read 78 = .ok (.getfield 35, 3) ∧ decode cX5_read 81 = .ok (.ifCond .ne 7, 3) ∧ decode cX5_read 84 = .ok (.iconst 1, 1) ∧ decode cX5_read 85 = .ok (.goto 4, 3) ∧ decode cX5_read 88 = .ok (.iconst 0, 1) ∧ decode cX5_read 89 = .ok (.ireturn, 1) := by decide +kernel
theorem dX5_read_58 : decode cX5_read 58 = .ok (.getfield 29, 3) := dX5_read_58_k.1
theorem dX5_read_61 : decode cX5_read 61 = .ok (.putfield 38, 3) := dX5_read_58_k.2.1
theorem dX5_read_64 : decode cX5_read 64 = .ok (.iconst 0, 1) := dX5_read_58_k.2.2.1
theorem dX5_read_65 : decode cX5_read 65 = .ok (.ireturn, 1) := dX5_read_58_k.2.2.2.1
theorem dX5_read_66 : decode cX5_read 66 = .ok (.aload_n 0, 1) := dX5_read_58_k.2.2.2.2.1
theorem dX5_read_67 : decode cX5_read 67 = .ok (.aload_n 1, 1) := dX5_read_58_k.2.2.2.2.2.1
theorem dX5_read_68 : decode cX5_read 68 = .ok (.invokevirtual 44, 3) := dX5_read_58_k.2.2.2.2.2.2.1
theorem dX5_read_71 : decode cX5_read 71 = .ok (.iinc 2 1, 3) := dX5_read_58_k.2.2.2.2.2.2.2.1
theorem dX5_read_74 : decode cX5_read 74 = .ok (.goto (-45), 3) := dX5_read_58_k.2.2.2.2.2.2.2.2.1
theorem dX5_read_77 : decode cX5_read 77 = .ok (.aload_n 0, 1) := dX5_read_58_k.2.2.2.2.2.2.2.2.2.1
theorem dX5_read_78 : decode cX5_read 78 = .ok (.getfield 35, 3) := dX5_read_58_k.2.2.2.2.2.2.2.2.2.2.1
theorem dX5_read_81 : decode cX5_read 81 = .ok (.ifCond .ne 7, 3) := dX5_read_58_k.2.2.2.2.2.2.2.2.2.2.2.1
theorem dX5_read_84 : decode cX5_read 84 = .ok (.iconst 1, 1) := dX5_read_58_k.2.2.2.2.2.2.2.2.2.2.2.2.1
theorem dX5_read_85 : decode cX5_read 85 = .ok (.goto 4, 3) := dX5_read_58_k.2.2.2.2.2.2.2.2.2.2.2.2.2.1
theorem dX5_read_88 : decode cX5_read 88 = .ok (.iconst 0, 1) := dX5_read_58_k.2.2.2.2.2.2.2.2.2.2.2.2.2.2.1
theorem dX5_read_89 : decode cX5_read 89 = .ok (.ireturn, 1) := dX5_read_58_k.2.2.2.2.2.2.2.2.2.2.2.2.2.2.2
theorem dX5_readSetting_0_k : decode cX5_readSetting 0 = .ok (.aload_n 0, 1) ∧ decode cX5_readSetting 1 = .ok (.getfield 26, 3) ∧ decode cX5_readSetting 4 = .ok (.iconst 1, 1) ∧ decode cX5_readSetting 5 = .ok (.if_icmp .ne 11, 3) ∧ decode cX5_readSetting 8 = .ok (.aload_n 0, 1) ∧ decode cX5_readSetting 9 = .ok (.aload_n 1, 1) ∧ decode cX5_readSetting 10 = .ok (.invokevirtual 52, 3) ∧ decode cX5_readSetting 13 = .ok (.goto 4, 3) ∧ decode cX5_readSetting 16 = .ok (.iconst (-1), 1) ∧ decode cX5_readSetting 17 = .ok (.istore_n 2, 1) ∧ decode cX5_readSetting 18 = .ok (.iload_n 2, 1) ∧ decode cX5_readSetting 19 = .ok (.iconst (-1), 1) ∧ decode cX5_readSetting 20 = .ok (.if_icmp .ne 5, 3) ∧ decode cX5_readSetting 23 = .ok (.iconst 0, 1) ∧ decode cX5_readSetting 24 = .ok (.ireturn, 1) ∧ decode cX5_readSetting 25 = .ok (.iload_n 2, 1) := by decide +kernel
theorem dX5_readSetting_0 : decode cX5_readSetting 0 = .ok (.aload_n 0, 1) := dX5_readSetting_0_k.1
theorem dX5_readSetting_1 : decode cX5_readSetting 1 = .ok (.getfield 26, 3) := dX5_readSetting_0_k.2.1
theorem dX5_readSetting_4 : decode cX5_readSetting 4 = .ok (.iconst 1, 1) := dX5_readSetting_0_k.2.2.1
theorem dX5_readSetting_5 : decode cX5_readSetting 5 = .ok (.if_icmp .ne 11, 3) := dX5_readSetting_0_k.2.2.2.1
theorem dX5_readSetting_8 : decode cX5_readSetting 8 = .ok (.aload_n 0, 1) := dX5_readSetting_0_k.2.2.2.2.1
theorem dX5_readSetting_9 : decode cX5_readSetting 9 = .ok (.aload_n 1, 1) := dX5_readSetting_0_k.2.2.2.2.2.1
theorem dX5_readSetting_10 : decode cX5_readSetting 10 = .ok (.invokevirtual 52, 3) := dX5_readSetting_0_k.2.2.2.2.2.2.1
theorem dX5_readSetting_13 : decode cX5_readSetting 13 = .ok (.goto 4, 3) := dX5_readSetting_0_k.2.2.2.2.2.2.2.1
theorem dX5_readSetting_16 : decode cX5_readSetting 16 = .ok (.iconst (-1), 1) := dX5_readSetting_0_k.2.2.2.2.2.2.2.2.1
theorem dX5_readSetting_17 : decode cX5_readSetting 17 = .ok (.istore_n 2, 1) := dX5_readSetting_0_k.2.2.2.2.2.2.2.2.2.1
theorem dX5_readSetting_18 : decode cX5_readSetting 18 = .ok (.iload_n 2, 1) := dX5_readSetting_0_k.2.2.2.2.2.2.2.2.2.2.1
theorem dX5_readSetting_19 : decode cX5_readSetting 19 = .ok (.iconst (-1), 1) := dX5_readSetting_0_k.2.2.2.2.2.2.2.2.2.2.2.1
theorem dX5_readSetting_20 : decode cX5_readSetting 20 = .ok (.if_icmp .ne 5, 3) := dX5_readSetting_0_k.2.2.2.2.2.2.2.2.2.2.2.2.1
theorem dX5_readSetting_23 : decode cX5_readSetting 23 = .ok (.iconst 0, 1) := dX5_readSetting_0_k.2.2.2.2.2.2.2.2.2.2.2.2.2.1
theorem dX5_readSetting_24 : decode cX5_readSetting 24 = .ok (.ireturn, 1) := dX5_readSetting_0_k.2.2.2.2.2.2.2.2.2.2.2.2.2.2.1
theorem dX5_readSetting_25 : decode cX5_readSetting 25 = .ok (.iload_n 2, 1) := dX5_readSetting_0_k.2.2.2.2.2.2.2.2.2.2.2.2.2.2.2
theorem dX5_readSetting_26_k : decode cX5_readSetting 26 = .ok (.bipush 9, 2) ∧ decode cX5_readSetting 28 = .ok (.if_icmp .ne 19, 3) ∧ decode cX5_readSetting 31 = .ok (.aload_n 0, 1) ∧ decode cX5_readSetting 32 = .ok (.getfield 12, 3) ∧ decode cX5_readSetting 35 = .ok (.getfield 56, 3) ∧ decode cX5_readSetting 38 = .ok (.iconst 4, 1) ∧ decode cX5_readSetting 39 = .ok (.if_icmp .lt 8, 3) ∧ decode cX5_readSetting 42 = .ok (.aload_n 0, 1) ∧ decode cX5_readSetting 43 = .ok (.iconst 3, 1) ∧ decode cX5_readSetting 44 = .ok (.invokevirtual 59, 3) ∧ decode cX5_readSetting 47 = .ok (.iload_n 2, 1) ∧ decode cX5_readSetting 48 = .ok (.bipush 9, 2) ∧ decode cX5_readSetting 50 = .ok (.if_icmp .ne 11, 3) ∧ decode cX5_readSetting 53 = .ok (.aload_n 0, 1) ∧ decode cX5_readSetting 54 = .ok (.getfield 18, 3) ∧ decode cX5_readSetting 57 = .ok (.arraylength, 1) := by decide +kernel
theorem dX5_readSetting_26 : decode cX5_readSetting 26 = .ok (.bipush 9, 2) := dX5_readSetting_26_k.1
theorem dX5_readSetting_28 : decode cX5_readSetting 28 = .ok (.if_icmp .ne 19, 3) := dX5_readSetting_26_k.2.1
theorem dX5_readSetting_31 : decode cX5_readSetting 31 = .ok (.aload_n 0, 1) := dX5_readSetting_26_k.2.2.1
theorem dX5_readSetting_32 : decode cX5_readSetting 32 = .ok (.getfield 12, 3) := dX5_readSetting_26_k.2.2.2.1
theorem dX5_readSetting_35 : decode cX5_readSetting 35 = .ok (.getfield 56, 3) := dX5_readSetting_26_k.2.2.2.2.1
theorem dX5_readSetting_38 : decode cX5_readSetting 38 = .ok (.iconst 4, 1) := dX5_readSetting_26_k.2.2.2.2.2.1
theorem dX5_readSetting_39 : decode cX5_readSetting 39 = .ok (.if_icmp .lt 8, 3) := dX5_readSetting_26_k.2.2.2.2.2.2.1
theorem dX5_readSetting_42 : decode cX5_readSetting 42 = .ok (.aload_n 0, 1) := dX5_readSetting_26_k.2.2.2.2.2.2.2.1
theorem dX5_readSetting_43 : decode cX5_readSetting 43 = .ok (.iconst 3, 1) := dX5_readSetting_26_k.2.2.2.2.2.2.2.2.1
theorem dX5_readSetting_44 : decode cX5_readSetting 44 = .ok (.invokevirtual 59, 3) := dX5_readSetting_26_k.2.2.2.2.2.2.2.2.2.1
theorem dX5_readSetting_47 : decode cX5_readSetting 47 = .ok (.iload_n 2, 1) := dX5_readSetting_26_k.2.2.2.2.2.2.2.2.2.2.1
theorem dX5_readSetting_48 : decode cX5_readSetting 48 = .ok (.bipush 9, 2) := dX5_readSetting_26_k.2.2.2.2.2.2.2.2.2.2.2.1
theorem dX5_readSetting_50 : decode cX5_readSetting 50 = .ok (.if_icmp .ne 11, 3) := dX5_readSetting_26_k.2.2.2.2.2.2.2.2.2.2.2.2.1
theorem dX5_readSetting_53 : decode cX5_readSetting 53 = .ok (.aload_n 0, 1) := dX5_readSetting_26_k.2.2.2.2.2.2.2.2.2.2.2.2.2.1
theorem dX5_readSetting_54 : decode cX5_readSetting 54 = .ok (.getfield 18, 3) := dX5_readSetting_26_k.2.2.2.2.2.2.2.2.2.2.2.2.2.2.1
theorem dX5_readSetting_57 : decode cX5_readSetting 57 = .ok (.arraylength, 1) := dX5_readSetting_26_k.2.2.2.2.2.2.2.2.2.2.2.2.2.2.2
theorem dX5_readSetting_58_k : decode cX5_readSetting 58 = .ok (.goto 4, 3) ∧ decode cX5_readSetting 61 = .ok (.iconst 1, 1) ∧ decode cX5_readSetting 62 = .ok (.istore_n 3, 1) ∧ decode cX5_readSetting 63 = .ok (.iconst 0, 1) ∧ decode cX5_readSetting 64 = .ok (.istore 4, 2) ∧ decode cX5_readSetting 66 = .ok (.iload 4, 2) ∧ decode cX5_readSetting 68 = .ok (.iload_n 3, 1) ∧ decode cX5_readSetting 69 = .ok (.if_icmp .ge 50, 3) ∧ decode cX5_readSetting 72 = .ok (.aload_n 0, 1) ∧ decode cX5_readSetting 73 = .ok (.aload_n 1, 1) ∧ decode cX5_readSetting 74 = .ok (.invokevirtual 44, 3) ∧ decode cX5_readSetting 77 = .ok (.aload_n 0, 1) ∧ decode cX5_readSetting 78 = .ok (.getfield 26, 3) ∧ decode cX5_readSetting 81 = .ok (.iconst 2, 1) ∧ decode cX5_readSetting 82 = .ok (.if_icmp .eq 5, 3) ∧ decode cX5_readSetting 85 = .ok (.iconst 0, 1) := by decide +kernel
theorem dX5_readSetting_58 : decode cX5_readSetting 58 = .ok (.goto 4, 3) := dX5_readSetting_58_k.1
theorem dX5_readSetting_61 : decode cX5_readSetting 61 = .ok (.iconst 1, 1) := dX5_readSetting_58_k.2.1
theorem dX5_readSetting_62 : decode cX5_readSetting 62 = .ok (.istore_n 3, 1) := dX5_readSetting_58_k.2.2.1
theorem dX5_readSetting_63 : decode cX5_readSetting 63 = .ok (.iconst 0, 1) := dX5_readSetting_58_k.2.2.2.1
theorem dX5_readSetting_64 : decode cX5_readSetting 64 = .ok (.istore 4, 2) := dX5_readSetting_58_k.2.2.2.2.1
theorem dX5_readSetting_66 : decode cX5_readSetting 66 = .ok (.iload 4, 2) := dX5_readSetting_58_k.2.2.2.2.2.1
theorem dX5_readSetting_68 : decode cX5_readSetting 68 = .ok (.iload_n 3, 1) := dX5_readSetting_58_k.2.2.2.2.2.2.1
theorem dX5_readSetting_69 : decode cX5_readSetting 69 = .ok (.if_icmp .ge 50, 3) := dX5_readSetting_58_k.2.2.2.2.2.2.2.1
theorem dX5_readSetting_72 : decode cX5_readSetting 72 = .ok (.aload_n 0, 1) := dX5_readSetting_58_k.2.2.2.2.2.2.2.2.1
theorem dX5_readSetting_73 : decode cX5_readSetting 73 = .ok (.aload_n 1, 1) := dX5_readSetting_58_k.2.2.2.2.2.2.2.2.2.1
theorem dX5_readSetting_74 : decode cX5_readSetting 74 = .ok (.invokevirtual 44, 3) := dX5_readSetting_58_k.2.2.2.2.2.2.2.2.2.2.1
theorem dX5_readSetting_77 : decode cX5_readSetting 77 = .ok (.aload_n 0, 1) := dX5_readSetting_58_k.2.2.2.2.2.2.2.2.2.2.2.1
theorem dX5_readSetting_78 : decode cX5_readSetting 78 = .ok (.getfield 26, 3) := dX5_readSetting_58_k.2.2.2.2.2.2.2.2.2.2.2.2.1
theorem dX5_readSetting_81 : decode cX5_readSetting 81 = .ok (.iconst 2, 1) := dX5_readSetting_58_k.2.2.2.2.2.2.2.2.2.2.2.2.2.1
theorem dX5_readSetting_82 : decode cX5_readSetting 82 = .ok (.if_icmp .eq 5, 3) := dX5_readSetting_58_k.2.2.2.2.2.2.2.2.2.2.2.2.2.2.1
theorem dX5_readSetting_85 : decode cX5_readSetting 85 = .ok (.iconst 0, 1) := dX5_readSetting_58_k.2.2.2.2.2.2.2.2.2.2.2.2.2.2.2
theorem dX5_readSetting_86_k : decode cX5_readSetting 86 = .ok (.ireturn, 1) ∧ decode cX5_readSetting 87 = .ok (.aload_n 0, 1) ∧ decode cX5_readSetting 88 = .ok (.iload_n 2, 1) ∧ decode cX5_readSetting 89 = .ok (.iload 4, 2) ∧ decode cX5_readSetting 91 = .ok (.invokevirtual 63, 3) ∧ decode cX5_readSetting 94 = .ok (.ifCond .ne 8, 3) ∧ decode cX5_readSetting 97 = .ok (.aload_n 0, 1) ∧ decode cX5_readSetting 98 = .ok (.iconst 2, 1) ∧ decode cX5_readSetting 99 = .ok (.invokevirtual 59, 3) ∧ decode cX5_readSetting 102 = .ok (.aload_n 0, 1) ∧ decode cX5_readSetting 103 = .ok (.getfield 18, 3) ∧ decode cX5_readSetting 106 = .ok (.iload 4, 2) ∧ decode cX5_readSetting 108 = .ok (.aload_n 0, 1) ∧ decode cX5_readSetting 109 = .ok (.getfield 32, 3) ∧ decode cX5_readSetting 112 = .ok (.iastore, 1) ∧ decode cX5_readSetting 113 = .ok (.iinc 4 1, 3) := by decide +kernel
theorem dX5_readSetting_86 : decode cX5_readSetting 86 = .ok (.ireturn, 1) := dX5_readSetting_86_k.1
theorem dX5_readSetting_87 : decode cX5_readSetting 87 = .ok (.aload_n 0, 1) := dX5_readSetting_86_k.2.1
theorem dX5_readSetting_88 : decode cX5_readSetting 88 = .ok (.iload_n 2, 1) := dX5_readSetting_86_k.2.2.1
theorem dX5_readSetting_89 : decode cX5_readSetting 89 = .ok (.iload 4, 2) := dX5_readSetting_86_k.2.2.2.1
theorem dX5_readSetting_91 : decode cX5_readSetting 91 = .ok (.invokevirtual 63, 3) := dX5_readSetting_86_k.2.2.2.2.1
theorem dX5_readSetting_94 : decode cX5_readSetting 94 = .ok (.ifCond .ne 8, 3) := dX5_readSetting_86_k.2.2.2.2.2.1
theorem dX5_readSetting_97 : decode cX5_readSetting 97 = .ok (.aload_n 0, 1) := dX5_readSetting_86_k.2.2.2.2.2.2.1
theorem dX5_readSetting_98 : decode cX5_readSetting 98 = .ok (.iconst 2, 1) := dX5_readSetting_86_k.2.2.2.2.2.2.2.1
theorem dX5_readSetting_99 : decode cX5_readSetting 99 = .ok (.invokevirtual 59, 3) := dX5_readSetting_86_k.2.2.2.2.2.2.2.2.1
theorem dX5_readSetting_102 : decode cX5_readSetting 102 = .ok (.aload_n 0, 1) := dX5_readSetting_86_k.2.2.2.2.2.2.2.2.2.1
theorem dX5_readSetting_103 : decode cX5_readSetting 103 = .ok (.getfield 18, 3) := dX5_readSetting_86_k.2.2.2.2.2.2.2.2.2.2.1
theorem dX5_readSetting_106 : decode cX5_readSetting 106 = .ok (.iload 4, 2) := dX5_readSetting_86_k.2.2.2.2.2.2.2.2.2.2.2.1
theorem dX5_readSetting_108 : decode cX5_readSetting 108 = .ok (.aload_n 0, 1) := dX5_readSetting_86_k.2.2.2.2.2.2.2.2.2.2.2.2.1
theorem dX5_readSetting_109 : decode cX5_readSetting 109 = .ok (.getfield 32, 3) := dX5_readSetting_86_k.2.2.2.2.2.2.2.2.2.2.2.2.2.1
theorem dX5_readSetting_112 : decode cX5_readSetting 112 = .ok (.iastore, 1) := dX5_readSetting_86_k.2.2.2.2.2.2.2.2.2.2.2.2.2.2.1
theorem dX5_readSetting_113 : decode cX5_readSetting 113 = .ok (.iinc 4 1, 3) := dX5_readSetting_86_k.2.2.2.2.2.2.2.2.2.2.2.2.2.2.2
theorem dX5_readSetting_116_k : decode cX5_readSetting 116 = .ok (.goto (-50), 3) ∧ decode cX5_readSetting 119 = .ok (.aload_n 0, 1) ∧ decode cX5_readSetting 120 = .ok (.iload_n 2, 1) ∧ decode cX5_readSetting 121 = .ok (.invokevirtual 67, 3) ∧ decode cX5_readSetting 124 = .ok (.aload_n 0, 1) ∧ decode cX5_readSetting 125 = .ok (.aload_n 1, 1) ∧ decode cX5_readSetting 126 = .ok (.invokevirtual 44, 3) ∧ decode cX5_readSetting 129 = .ok (.aload_n 0, 1) ∧ decode cX5_readSetting 130 = .ok (.getfield 26, 3) ∧ decode cX5_readSetting 133 = .ok (.iconst 3, 1) ∧ decode cX5_readSetting 134 = .ok (.if_icmp .ne 7, 3) ∧ decode cX5_readSetting 137 = .ok (.iconst 1, 1) ∧ decode cX5_readSetting 138 = .ok (.goto 4, 3) ∧ decode cX5_readSetting 141 = .ok (.iconst 0, 1) ∧ decode cX5_readSetting 142 = .ok (.ireturn, 1) := by decide +kernel
theorem dX5_readSetting_116 : decode cX5_readSetting 116 = .ok (.goto (-50), 3) := dX5_readSetting_116_k.1
theorem dX5_readSetting_119 : decode cX5_readSetting 119 = .ok (.aload_n 0, 1) := dX5_readSetting_116_k.2.1
theorem dX5_readSetting_120 : decode cX5_readSetting 120 = .ok (.iload_n 2, 1) := dX5_readSetting_116_k.2.2.1
theorem dX5_readSetting_121 : decode cX5_readSetting 121 = .ok (.invokevirtual 67, 3) := dX5_readSetting_116_k.2.2.2.1
theorem dX5_readSetting_124 : decode cX5_readSetting 124 = .ok (.aload_n 0, 1) := dX5_readSetting_116_k.2.2.2.2.1
theorem dX5_readSetting_125 : decode cX5_readSetting 125 = .ok (.aload_n 1, 1) := dX5_readSetting_116_k.2.2.2.2.2.1
theorem dX5_readSetting_126 : decode cX5_readSetting 126 = .ok (.invokevirtual 44, 3) := dX5_readSetting_116_k.2.2.2.2.2.2.1
theorem dX5_readSetting_129 : decode cX5_readSetting 129 = .ok (.aload_n 0, 1) := dX5_readSetting_116_k.2.2.2.2.2.2.2.1
theorem dX5_readSetting_130 : decode cX5_readSetting 130 = .ok (.getfield 26, 3) := dX5_readSetting_116_k.2.2.2.2.2.2.2.2.1
theorem dX5_readSetting_133 : decode cX5_readSetting 133 = .ok (.iconst 3, 1) := dX5_readSetting_116_k.2.2.2.2.2.2.2.2.2.1
theorem dX5_readSetting_134 : decode cX5_readSetting 134 = .ok (.if_icmp .ne 7, 3) := dX5_readSetting_116_k.2.2.2.2.2.2.2.2.2.2.1
theorem dX5_readSetting_137 : decode cX5_readSetting 137 = .ok (.iconst 1, 1) := dX5_readSetting_116_k.2.2.2.2.2.2.2.2.2.2.2.1
theorem dX5_readSetting_138 : decode cX5_readSetting 138 = .ok (.goto 4, 3) := dX5_readSetting_116_k.2.2.2.2.2.2.2.2.2.2.2.2.1
theorem dX5_readSetting_141 : decode cX5_readSetting 141 = .ok (.iconst 0, 1) := dX5_readSetting_116_k.2.2.2.2.2.2.2.2.2.2.2.2.2.1
theorem dX5_readSetting_142 : decode cX5_readSetting 142 = .ok (.ireturn, 1) := dX5_readSetting_116_k.2.2.2.2.2.2.2.2.2.2.2.2.2.2
theorem dX5_canBe_0_k : decode cX5_canBe 0 = .ok (.iload_n 1, 1) ∧ decode cX5_canBe 1 = .ok (.ifCond .lt 49, 3) ∧ decode cX5_canBe 4 = .ok (.iload_n 1, 1) ∧ decode cX5_canBe 5 = .ok (.getstatic 70, 3) ∧ decode cX5_canBe 8 = .ok (.arraylength, 1) ∧ decode cX5_canBe 9 = .ok (.if_icmp .ge 41, 3) ∧ decode cX5_canBe 12 = .ok (.iload_n 1, 1) ∧ decode cX5_canBe 13 = .ok (.getstatic 73, 3) ∧ decode cX5_canBe 16 = .ok (.arraylength, 1) ∧ decode cX5_canBe 17 = .ok (.if_icmp .ge 33, 3) ∧ decode cX5_canBe 20 = .ok (.aload_n 0, 1) ∧ decode cX5_canBe 21 = .ok (.getfield 32, 3) ∧ decode cX5_canBe 24 = .ok (.getstatic 70, 3) ∧ decode cX5_canBe 27 = .ok (.iload_n 1, 1) ∧ decode cX5_canBe 28 = .ok (.iaload, 1) ∧ decode cX5_canBe 29 = .ok (.if_icmp .lt 19, 3) := by decide +kernel
theorem dX5_canBe_0 : decode cX5_canBe 0 = .ok (.iload_n 1, 1) := dX5_canBe_0_k.1
theorem dX5_canBe_1 : decode cX5_canBe 1 = .ok (.ifCond .lt 49, 3) := dX5_canBe_0_k.2.1
theorem dX5_canBe_4 : decode cX5_canBe 4 = .ok (.iload_n 1, 1) := dX5_canBe_0_k.2.2.1
theorem dX5_canBe_5 : decode cX5_canBe 5 = .ok (.getstatic 70, 3) := dX5_canBe_0_k.2.2.2.1
theorem dX5_canBe_8 : decode cX5_canBe 8 = .ok (.arraylength, 1) := dX5_canBe_0_k.2.2.2.2.1
theorem dX5_canBe_9 : decode cX5_canBe 9 = .ok (.if_icmp .ge 41, 3) := dX5_canBe_0_k.2.2.2.2.2.1
theorem dX5_canBe_12 : decode cX5_canBe 12 = .ok (.iload_n 1, 1) := dX5_canBe_0_k.2.2.2.2.2.2.1
theorem dX5_canBe_13 : decode cX5_canBe 13 = .ok (.getstatic 73, 3) := dX5_canBe_0_k.2.2.2.2.2.2.2.1
theorem dX5_canBe_16 : decode cX5_canBe 16 = .ok (.arraylength, 1) := dX5_canBe_0_k.2.2.2.2.2.2.2.2.1
theorem dX5_canBe_17 : decode cX5_canBe 17 = .ok (.if_icmp .ge 33, 3) := dX5_canBe_0_k.2.2.2.2.2.2.2.2.2.1
theorem dX5_canBe_20 : decode cX5_canBe 20 = .ok (.aload_n 0, 1) := dX5_canBe_0_k.2.2.2.2.2.2.2.2.2.2.1
theorem dX5_canBe_21 : decode cX5_canBe 21 = .ok (.getfield 32, 3) := dX5_canBe_0_k.2.2.2.2.2.2.2.2.2.2.2.1
theorem dX5_canBe_24 : decode cX5_canBe 24 = .ok (.getstatic 70, 3) := dX5_canBe_0_k.2.2.2.2.2.2.2.2.2.2.2.2.1
theorem dX5_canBe_27 : decode cX5_canBe 27 = .ok (.iload_n 1, 1) := dX5_canBe_0_k.2.2.2.2.2.2.2.2.2.2.2.2.2.1
theorem dX5_canBe_28 : decode cX5_canBe 28 = .ok (.iaload, 1) := dX5_canBe_0_k.2.2.2.2.2.2.2.2.2.2.2.2.2.2.1
theorem dX5_canBe_29 : decode cX5_canBe 29 = .ok (.if_icmp .lt 19, 3) := dX5_canBe_0_k.2.2.2.2.2.2.2.2.2.2.2.2.2.2.2
theorem dX5_canBe_32_k : decode cX5_canBe 32 = .ok (.aload_n 0, 1) ∧ decode cX5_canBe 33 = .ok (.getfield 32, 3) ∧ decode cX5_canBe 36 = .ok (.getstatic 73, 3) ∧ decode cX5_canBe 39 = .ok (.iload_n 1, 1) ∧ decode cX5_canBe 40 = .ok (.iaload, 1) ∧ decode cX5_canBe 41 = .ok (.if_icmp .gt 7, 3) ∧ decode cX5_canBe 44 = .ok (.iconst 1, 1) ∧ decode cX5_canBe 45 = .ok (.goto 4, 3) ∧ decode cX5_canBe 48 = .ok (.iconst 0, 1) ∧ decode cX5_canBe 49 = .ok (.ireturn, 1) ∧ decode cX5_canBe 50 = .ok (.iload_n 2, 1) ∧ decode cX5_canBe 51 = .ok (.iconst 1, 1) ∧ decode cX5_canBe 52 = .ok (.if_icmp .ne 22, 3) ∧ decode cX5_canBe 55 = .ok (.aload_n 0, 1) ∧ decode cX5_canBe 56 = .ok (.getfield 32, 3) ∧ decode cX5_canBe 59 = .ok (.aload_n 0, 1) := by decide +kernel
theorem dX5_canBe_32 : decode cX5_canBe 32 = .ok (.aload_n 0, 1) := dX5_canBe_32_k.1
theorem dX5_canBe_33 : decode cX5_canBe 33 = .ok (.getfield 32, 3) := dX5_canBe_32_k.2.1
theorem dX5_canBe_36 : decode cX5_canBe 36 = .ok (.getstatic 73, 3) := dX5_canBe_32_k.2.2.1
theorem dX5_canBe_39 : decode cX5_canBe 39 = .ok (.iload_n 1, 1) := dX5_canBe_32_k.2.2.2.1
theorem dX5_canBe_40 : decode cX5_canBe 40 = .ok (.iaload, 1) := dX5_canBe_32_k.2.2.2.2.1
theorem dX5_canBe_41 : decode cX5_canBe 41 = .ok (.if_icmp .gt 7, 3) := dX5_canBe_32_k.2.2.2.2.2.1
theorem dX5_canBe_44 : decode cX5_canBe 44 = .ok (.iconst 1, 1) := dX5_canBe_32_k.2.2.2.2.2.2.1
theorem dX5_canBe_45 : decode cX5_canBe 45 = .ok (.goto 4, 3) := dX5_canBe_32_k.2.2.2.2.2.2.2.1
theorem dX5_canBe_48 : decode cX5_canBe 48 = .ok (.iconst 0, 1) := dX5_canBe_32_k.2.2.2.2.2.2.2.2.1
theorem dX5_canBe_49 : decode cX5_canBe 49 = .ok (.ireturn, 1) := dX5_canBe_32_k.2.2.2.2.2.2.2.2.2.1
theorem dX5_canBe_50 : decode cX5_canBe 50 = .ok (.iload_n 2, 1) := dX5_canBe_32_k.2.2.2.2.2.2.2.2.2.2.1
theorem dX5_canBe_51 : decode cX5_canBe 51 = .ok (.iconst 1, 1) := dX5_canBe_32_k.2.2.2.2.2.2.2.2.2.2.2.1
theorem dX5_canBe_52 : decode cX5_canBe 52 = .ok (.if_icmp .ne 22, 3) := dX5_canBe_32_k.2.2.2.2.2.2.2.2.2.2.2.2.1
theorem dX5_canBe_55 : decode cX5_canBe 55 = .ok (.aload_n 0, 1) := dX5_canBe_32_k.2.2.2.2.2.2.2.2.2.2.2.2.2.1
theorem dX5_canBe_56 : decode cX5_canBe 56 = .ok (.getfield 32, 3) := dX5_canBe_32_k.2.2.2.2.2.2.2.2.2.2.2.2.2.2.1
theorem dX5_canBe_59 : decode cX5_canBe 59 = .ok (.aload_n 0, 1) := dX5_canBe_32_k.2.2.2.2.2.2.2.2.2.2.2.2.2.2.2
theorem dX5_canBe_60_k : decode cX5_canBe 60 = .ok (.getfield 18, 3) ∧ decode cX5_canBe 63 = .ok (.iconst 0, 1) ∧ decode cX5_canBe 64 = .ok (.iaload, 1) ∧ decode cX5_canBe 65 = .ok (.if_icmp .lt 7, 3) ∧ decode cX5_canBe 68 = .ok (.iconst 1, 1) ∧ decode cX5_canBe 69 = .ok (.goto 4, 3) ∧ decode cX5_canBe 72 = .ok (.iconst 0, 1) ∧ decode cX5_canBe 73 = .ok (.ireturn, 1) ∧ decode cX5_canBe 74 = .ok (.iload_n 2, 1) ∧ decode cX5_canBe 75 = .ok (.ifCond .eq 11, 3) ∧ decode cX5_canBe 78 = .ok (.aload_n 0, 1) ∧ decode cX5_canBe 79 = .ok (.getfield 32, 3) ∧ decode cX5_canBe 82 = .ok (.iconst 1, 1) ∧ decode cX5_canBe 83 = .ok (.if_icmp .gt 7, 3) ∧ decode cX5_canBe 86 = .ok (.iconst 1, 1) ∧ decode cX5_canBe 87 = .ok (.goto 4, 3) := by decide +kernel
theorem dX5_canBe_60 : decode cX5_canBe 60 = .ok (.getfield 18, 3) := dX5_canBe_60_k.1
theorem dX5_canBe_63 : decode cX5_canBe 63 = .ok (.iconst 0, 1) := dX5_canBe_60_k.2.1
theorem dX5_canBe_64 : decode cX5_canBe 64 = .ok (.iaload, 1) := dX5_canBe_60_k.2.2.1
theorem dX5_canBe_65 : decode cX5_canBe 65 = .ok (.if_icmp .lt 7, 3) := dX5_canBe_60_k.2.2.2.1
theorem dX5_canBe_68 : decode cX5_canBe 68 = .ok (.iconst 1, 1) := dX5_canBe_60_k.2.2.2.2.1
theorem dX5_canBe_69 : decode cX5_canBe 69 = .ok (.goto 4, 3) := dX5_canBe_60_k.2.2.2.2.2.1
theorem dX5_canBe_72 : decode cX5_canBe 72 = .ok (.iconst 0, 1) := dX5_canBe_60_k.2.2.2.2.2.2.1
theorem dX5_canBe_73 : decode cX5_canBe 73 = .ok (.ireturn, 1) := dX5_canBe_60_k.2.2.2.2.2.2.2.1
theorem dX5_canBe_74 : decode cX5_canBe 74 = .ok (.iload_n 2, 1) := dX5_canBe_60_k.2.2.2.2.2.2.2.2.1
theorem dX5_canBe_75 : decode cX5_canBe 75 = .ok (.ifCond .eq 11, 3) := dX5_canBe_60_k.2.2.2.2.2.2.2.2.2.1
theorem dX5_canBe_78 : decode cX5_canBe 78 = .ok (.aload_n 0, 1) := dX5_canBe_60_k.2.2.2.2.2.2.2.2.2.2.1
theorem dX5_canBe_79 : decode cX5_canBe 79 = .ok (.getfield 32, 3) := dX5_canBe_60_k.2.2.2.2.2.2.2.2.2.2.2.1
theorem dX5_canBe_82 : decode cX5_canBe 82 = .ok (.iconst 1, 1) := dX5_canBe_60_k.2.2.2.2.2.2.2.2.2.2.2.2.1
theorem dX5_canBe_83 : decode cX5_canBe 83 = .ok (.if_icmp .gt 7, 3) := dX5_canBe_60_k.2.2.2.2.2.2.2.2.2.2.2.2.2.1
theorem dX5_canBe_86 : decode cX5_canBe 86 = .ok (.iconst 1, 1) := dX5_canBe_60_k.2.2.2.2.2.2.2.2.2.2.2.2.2.2.1
theorem dX5_canBe_87 : decode cX5_canBe 87 = .ok (.goto 4, 3) := dX5_canBe_60_k.2.2.2.2.2.2.2.2.2.2.2.2.2.2.2
theorem dX5_canBe_90_k : decode cX5_canBe 90 = .ok (.iconst 0, 1) ∧ decode cX5_canBe 91 = .ok (.ireturn, 1) := by decide +kernel
theorem dX5_canBe_90 : decode cX5_canBe 90 = .ok (.iconst 0, 1) := dX5_canBe_90_k.1
theorem dX5_canBe_91 : decode cX5_canBe 91 = .ok (.ireturn, 1) := dX5_canBe_90_k.2
theorem dX5_putNumbers_0_k : decode cX5_putNumbers 0 = .ok (.iload_n 1, 1) ∧ decode cX5_putNumbers 1 = .ok (.bipush 9, 2) ∧ decode cX5_putNumbers 3 = .ok (.if_icmp .ne 31, 3) ∧ decode cX5_putNumbers 6 = .ok (.aload_n 0, 1) ∧ decode cX5_putNumbers 7 = .ok (.getfield 12, 3) ∧ decode cX5_putNumbers 10 = .ok (.aload_n 0, 1) ∧ decode cX5_putNumbers 11 = .ok (.getfield 18, 3) ∧ decode cX5_putNumbers 14 = .ok (.iconst 0, 1) ∧ decode cX5_putNumbers 15 = .ok (.iaload, 1) ∧ decode cX5_putNumbers 16 = .ok (.aload_n 0, 1) ∧ decode cX5_putNumbers 17 = .ok (.getfield 18, 3) ∧ decode cX5_putNumbers 20 = .ok (.iconst 1, 1) ∧ decode cX5_putNumbers 21 = .ok (.iaload, 1) ∧ decode cX5_putNumbers 22 = .ok (.aload_n 0, 1) ∧ decode cX5_putNumbers 23 = .ok (.getfield 18, 3) ∧ decode cX5_putNumbers 26 = .ok (.iconst 2, 1) := by decide +kernel
theorem dX5_putNumbers_0 : decode cX5_putNumbers 0 = .ok (.iload_n 1, 1) := dX5_putNumbers_0_k.1
theorem dX5_putNumbers_1 : decode cX5_putNumbers 1 = .ok (.bipush 9, 2) := dX5_putNumbers_0_k.2.1
theorem dX5_putNumbers_3 : decode cX5_putNumbers 3 = .ok (.if_icmp .ne 31, 3) := dX5_putNumbers_0_k.2.2.1
theorem dX5_putNumbers_6 : decode cX5_putNumbers 6 = .ok (.aload_n 0, 1) := dX5_putNumbers_0_k.2.2.2.1
theorem dX5_putNumbers_7 : decode cX5_putNumbers 7 = .ok (.getfield 12, 3) := dX5_putNumbers_0_k.2.2.2.2.1
theorem dX5_putNumbers_10 : decode cX5_putNumbers 10 = .ok (.aload_n 0, 1) := dX5_putNumbers_0_k.2.2.2.2.2.1
theorem dX5_putNumbers_11 : decode cX5_putNumbers 11 = .ok (.getfield 18, 3) := dX5_putNumbers_0_k.2.2.2.2.2.2.1
theorem dX5_putNumbers_14 : decode cX5_putNumbers 14 = .ok (.iconst 0, 1) := dX5_putNumbers_0_k.2.2.2.2.2.2.2.1
theorem dX5_putNumbers_15 : decode cX5_putNumbers 15 = .ok (.iaload, 1) := dX5_putNumbers_0_k.2.2.2.2.2.2.2.2.1
theorem dX5_putNumbers_16 : decode cX5_putNumbers 16 = .ok (.aload_n 0, 1) := dX5_putNumbers_0_k.2.2.2.2.2.2.2.2.2.1
theorem dX5_putNumbers_17 : decode cX5_putNumbers 17 = .ok (.getfield 18, 3) := dX5_putNumbers_0_k.2.2.2.2.2.2.2.2.2.2.1
theorem dX5_putNumbers_20 : decode cX5_putNumbers 20 = .ok (.iconst 1, 1) := dX5_putNumbers_0_k.2.2.2.2.2.2.2.2.2.2.2.1
theorem dX5_putNumbers_21 : decode cX5_putNumbers 21 = .ok (.iaload, 1) := dX5_putNumbers_0_k.2.2.2.2.2.2.2.2.2.2.2.2.1
theorem dX5_putNumbers_22 : decode cX5_putNumbers 22 = .ok (.aload_n 0, 1) := dX5_putNumbers_0_k.2.2.2.2.2.2.2.2.2.2.2.2.2.1
theorem dX5_putNumbers_23 : decode cX5_putNumbers 23 = .ok (.getfield 18, 3) := dX5_putNumbers_0_k.2.2.2.2.2.2.2.2.2.2.2.2.2.2.1
theorem dX5_putNumbers_26 : decode cX5_putNumbers 26 = .ok (.iconst 2, 1) := dX5_putNumbers_0_k.2.2.2.2.2.2.2.2.2.2.2.2.2.2.2
theorem dX5_putNumbers_27_k : decode cX5_putNumbers 27 = .ok (.iaload, 1) ∧ decode cX5_putNumbers 28 = .ok (.invokevirtual 76, 3) ∧ decode cX5_putNumbers 31 = .ok (.goto 17, 3) ∧ decode cX5_putNumbers 34 = .ok (.aload_n 0, 1) ∧ decode cX5_putNumbers 35 = .ok (.getfield 12, 3) ∧ decode cX5_putNumbers 38 = .ok (.iload_n 1, 1) ∧ decode cX5_putNumbers 39 = .ok (.aload_n 0, 1) ∧ decode cX5_putNumbers 40 = .ok (.getfield 18, 3) ∧ decode cX5_putNumbers 43 = .ok (.iconst 0, 1) ∧ decode cX5_putNumbers 44 = .ok (.iaload, 1) ∧ decode cX5_putNumbers 45 = .ok (.invokevirtual 80, 3) ∧ decode cX5_putNumbers 48 = .ok (.return_, 1) := by decide +kernel
theorem dX5_putNumbers_27 : decode cX5_putNumbers 27 = .ok (.iaload, 1) := dX5_putNumbers_27_k.1
theorem dX5_putNumbers_28 : decode cX5_putNumbers 28 = .ok (.invokevirtual 76, 3) := dX5_putNumbers_27_k.2.1
theorem dX5_putNumbers_31 : decode cX5_putNumbers 31 = .ok (.goto 17, 3) := dX5_putNumbers_27_k.2.2.1
theorem dX5_putNumbers_34 : decode cX5_putNumbers 34 = .ok (.aload_n 0, 1) := dX5_putNumbers_27_k.2.2.2.1
theorem dX5_putNumbers_35 : decode cX5_putNumbers 35 = .ok (.getfield 12, 3) := dX5_putNumbers_27_k.2.2.2.2.1
theorem dX5_putNumbers_38 : decode cX5_putNumbers 38 = .ok (.iload_n 1, 1) := dX5_putNumbers_27_k.2.2.2.2.2.1
theorem dX5_putNumbers_39 : decode cX5_putNumbers 39 = .ok (.aload_n 0, 1) := dX5_putNumbers_27_k.2.2.2.2.2.2.1
theorem dX5_putNumbers_40 : decode cX5_putNumbers 40 = .ok (.getfield 18, 3) := dX5_putNumbers_27_k.2.2.2.2.2.2.2.1
theorem dX5_putNumbers_43 : decode cX5_putNumbers 43 = .ok (.iconst 0, 1) := dX5_putNumbers_27_k.2.2.2.2.2.2.2.2.1
theorem dX5_putNumbers_44 : decode cX5_putNumbers 44 = .ok (.iaload, 1) := dX5_putNumbers_27_k.2.2.2.2.2.2.2.2.2.1
theorem dX5_putNumbers_45 : decode cX5_putNumbers 45 = .ok (.invokevirtual 80, 3) := dX5_putNumbers_27_k.2.2.2.2.2.2.2.2.2.2.1
theorem dX5_putNumbers_48 : decode cX5_putNumbers 48 = .ok (.return_, 1) := dX5_putNumbers_27_k.2.2.2.2.2.2.2.2.2.2.2
theorem dX5_note_0_k : decode cX5_note 0 = .ok (.aload_n 0, 1) ∧ decode cX5_note 1 = .ok (.getfield 35, 3) ∧ decode cX5_note 4 = .ok (.ifCond .ne 16, 3) ∧ decode cX5_note 7 = .ok (.aload_n 0, 1) ∧ decode cX5_note 8 = .ok (.iload_n 1, 1) ∧ decode cX5_note 9 = .ok (.putfield 35, 3) ∧ decode cX5_note 12 = .ok (.aload_n 0, 1) ∧ decode cX5_note 13 = .ok (.aload_n 0, 1) ∧ decode cX5_note 14 = .ok (.getfield 29, 3) ∧ decode cX5_note 17 = .ok (.putfield 38, 3) ∧ decode cX5_note 20 = .ok (.return_, 1) := by decide +kernel
theorem dX5_note_0 : decode cX5_note 0 = .ok (.aload_n 0, 1) := dX5_note_0_k.1
theorem dX5_note_1 : decode cX5_note 1 = .ok (.getfield 35, 3) := dX5_note_0_k.2.1
theorem dX5_note_4 : decode cX5_note 4 = .ok (.ifCond .ne 16, 3) := dX5_note_0_k.2.2.1
theorem dX5_note_7 : decode cX5_note 7 = .ok (.aload_n 0, 1) := dX5_note_0_k.2.2.2.1
theorem dX5_note_8 : decode cX5_note 8 = .ok (.iload_n 1, 1) := dX5_note_0_k.2.2.2.2.1
theorem dX5_note_9 : decode cX5_note 9 = .ok (.putfield 35, 3) := dX5_note_0_k.2.2.2.2.2.1
theorem dX5_note_12 : decode cX5_note 12 = .ok (.aload_n 0, 1) := dX5_note_0_k.2.2.2.2.2.2.1
theorem dX5_note_13 : decode cX5_note 13 = .ok (.aload_n 0, 1) := dX5_note_0_k.2.2.2.2.2.2.2.1
theorem dX5_note_14 : decode cX5_note 14 = .ok (.getfield 29, 3) := dX5_note_0_k.2.2.2.2.2.2.2.2.1
theorem dX5_note_17 : decode cX5_note 17 = .ok (.putfield 38, 3) := dX5_note_0_k.2.2.2.2.2.2.2.2.2.1
theorem dX5_note_20 : decode cX5_note 20 = .ok (.return_, 1) := dX5_note_0_k.2.2.2.2.2.2.2.2.2.2
theorem dX5_nextToken_0_k : decode cX5_nextToken 0 = .ok (.aload_n 0, 1) ∧ decode cX5_nextToken 1 = .ok (.getfield 22, 3) ∧ decode cX5_nextToken 4 = .ok (.aload_n 1, 1) ∧ decode cX5_nextToken 5 = .ok (.getfield 84, 3) ∧ decode cX5_nextToken 8 = .ok (.if_icmp .ge 30, 3) ∧ decode cX5_nextToken 11 = .ok (.aload_n 1, 1) ∧ decode cX5_nextToken 12 = .ok (.aload_n 0, 1) ∧ decode cX5_nextToken 13 = .ok (.getfield 22, 3) ∧ decode cX5_nextToken 16 = .ok (.invokevirtual 89, 3) ∧ decode cX5_nextToken 19 = .ok (.invokestatic 93, 3) ∧ decode cX5_nextToken 22 = .ok (.ifCond .eq 16, 3) ∧ decode cX5_nextToken 25 = .ok (.aload_n 0, 1) ∧ decode cX5_nextToken 26 = .ok (.dup, 1) ∧ decode cX5_nextToken 27 = .ok (.getfield 22, 3) ∧ decode cX5_nextToken 30 = .ok (.iconst 1, 1) ∧ decode cX5_nextToken 31 = .ok (.iadd, 1) := by decide +kernel
theorem dX5_nextToken_0 : decode cX5_nextToken 0 = .ok (.aload_n 0, 1) := dX5_nextToken_0_k.1
theorem dX5_nextToken_1 : decode cX5_nextToken 1 = .ok (.getfield 22, 3) := dX5_nextToken_0_k.2.1
theorem dX5_nextToken_4 : decode cX5_nextToken 4 = .ok (.aload_n 1, 1) := dX5_nextToken_0_k.2.2.1
theorem dX5_nextToken_5 : decode cX5_nextToken 5 = .ok (.getfield 84, 3) := dX5_nextToken_0_k.2.2.2.1
theorem dX5_nextToken_8 : decode cX5_nextToken 8 = .ok (.if_icmp .ge 30, 3) := dX5_nextToken_0_k.2.2.2.2.1
theorem dX5_nextToken_11 : decode cX5_nextToken 11 = .ok (.aload_n 1, 1) := dX5_nextToken_0_k.2.2.2.2.2.1
theorem dX5_nextToken_12 : decode cX5_nextToken 12 = .ok (.aload_n 0, 1) := dX5_nextToken_0_k.2.2.2.2.2.2.1
theorem dX5_nextToken_13 : decode cX5_nextToken 13 = .ok (.getfield 22, 3) := dX5_nextToken_0_k.2.2.2.2.2.2.2.1
theorem dX5_nextToken_16 : decode cX5_nextToken 16 = .ok (.invokevirtual 89, 3) := dX5_nextToken_0_k.2.2.2.2.2.2.2.2.1
theorem dX5_nextToken_19 : decode cX5_nextToken 19 = .ok (.invokestatic 93, 3) := dX5_nextToken_0_k.2.2.2.2.2.2.2.2.2.1
theorem dX5_nextToken_22 : decode cX5_nextToken 22 = .ok (.ifCond .eq 16, 3) := dX5_nextToken_0_k.2.2.2.2.2.2.2.2.2.2.1
theorem dX5_nextToken_25 : decode cX5_nextToken 25 = .ok (.aload_n 0, 1) := dX5_nextToken_0_k.2.2.2.2.2.2.2.2.2.2.2.1
theorem dX5_nextToken_26 : decode cX5_nextToken 26 = .ok (.dup, 1) := dX5_nextToken_0_k.2.2.2.2.2.2.2.2.2.2.2.2.1
theorem dX5_nextToken_27 : decode cX5_nextToken 27 = .ok (.getfield 22, 3) := dX5_nextToken_0_k.2.2.2.2.2.2.2.2.2.2.2.2.2.1
theorem dX5_nextToken_30 : decode cX5_nextToken 30 = .ok (.iconst 1, 1) := dX5_nextToken_0_k.2.2.2.2.2.2.2.2.2.2.2.2.2.2.1
theorem dX5_nextToken_31 : decode cX5_nextToken 31 = .ok (.iadd, 1) := dX5_nextToken_0_k.2.2.2.2.2.2.2.2.2.2.2.2.2.2.2
theorem dX5_nextToken_32_k : decode cX5_nextToken 32 = .ok (.putfield 22, 3) ∧ decode cX5_nextToken 35 = .ok (.goto (-35), 3) ∧ decode cX5_nextToken 38 = .ok (.aload_n 0, 1) ∧ decode cX5_nextToken 39 = .ok (.aload_n 0, 1) ∧ decode cX5_nextToken 40 = .ok (.getfield 22, 3) ∧ decode cX5_nextToken 43 = .ok (.putfield 29, 3) ∧ decode cX5_nextToken 46 = .ok (.aload_n 1, 1) ∧ decode cX5_nextToken 47 = .ok (.aload_n 0, 1) ∧ decode cX5_nextToken 48 = .ok (.getfield 22, 3) ∧ decode cX5_nextToken 51 = .ok (.invokevirtual 89, 3) ∧ decode cX5_nextToken 54 = .ok (.istore_n 2, 1) ∧ decode cX5_nextToken 55 = .ok (.iload_n 2, 1) ∧ decode cX5_nextToken 56 = .ok (.iconst (-1), 1) ∧ decode cX5_nextToken 57 = .ok (.if_icmp .ne 11, 3) ∧ decode cX5_nextToken 60 = .ok (.aload_n 0, 1) ∧ decode cX5_nextToken 61 = .ok (.iconst 0, 1) := by decide +kernel
theorem dX5_nextToken_32 : decode cX5_nextToken 32 = .ok (.putfield 22, 3) := dX5_nextToken_32_k.1
theorem dX5_nextToken_35 : decode cX5_nextToken 35 = .ok (.goto (-35), 3) := dX5_nextToken_32_k.2.1
theorem dX5_nextToken_38 : decode cX5_nextToken 38 = .ok (.aload_n 0, 1) := dX5_nextToken_32_k.2.2.1
theorem dX5_nextToken_39 : decode cX5_nextToken 39 = .ok (.aload_n 0, 1) := dX5_nextToken_32_k.2.2.2.1
theorem dX5_nextToken_40 : decode cX5_nextToken 40 = .ok (.getfield 22, 3) := dX5_nextToken_32_k.2.2.2.2.1
theorem dX5_nextToken_43 : decode cX5_nextToken 43 = .ok (.putfield 29, 3) := dX5_nextToken_32_k.2.2.2.2.2.1
theorem dX5_nextToken_46 : decode cX5_nextToken 46 = .ok (.aload_n 1, 1) := dX5_nextToken_32_k.2.2.2.2.2.2.1
theorem dX5_nextToken_47 : decode cX5_nextToken 47 = .ok (.aload_n 0, 1) := dX5_nextToken_32_k.2.2.2.2.2.2.2.1
theorem dX5_nextToken_48 : decode cX5_nextToken 48 = .ok (.getfield 22, 3) := dX5_nextToken_32_k.2.2.2.2.2.2.2.2.1
theorem dX5_nextToken_51 : decode cX5_nextToken 51 = .ok (.invokevirtual 89, 3) := dX5_nextToken_32_k.2.2.2.2.2.2.2.2.2.1
theorem dX5_nextToken_54 : decode cX5_nextToken 54 = .ok (.istore_n 2, 1) := dX5_nextToken_32_k.2.2.2.2.2.2.2.2.2.2.1
theorem dX5_nextToken_55 : decode cX5_nextToken 55 = .ok (.iload_n 2, 1) := dX5_nextToken_32_k.2.2.2.2.2.2.2.2.2.2.2.1
theorem dX5_nextToken_56 : decode cX5_nextToken 56 = .ok (.iconst (-1), 1) := dX5_nextToken_32_k.2.2.2.2.2.2.2.2.2.2.2.2.1
theorem dX5_nextToken_57 : decode cX5_nextToken 57 = .ok (.if_icmp .ne 11, 3) := dX5_nextToken_32_k.2.2.2.2.2.2.2.2.2.2.2.2.2.1
theorem dX5_nextToken_60 : decode cX5_nextToken 60 = .ok (.aload_n 0, 1) := dX5_nextToken_32_k.2.2.2.2.2.2.2.2.2.2.2.2.2.2.1
theorem dX5_nextToken_61 : decode cX5_nextToken 61 = .ok (.iconst 0, 1) := dX5_nextToken_32_k.2.2.2.2.2.2.2.2.2.2.2.2.2.2.2
theorem dX5_nextToken_62_k : decode cX5_nextToken 62 = .ok (.putfield 26, 3) ∧ decode cX5_nextToken 65 = .ok (.goto 62, 3) ∧ decode cX5_nextToken 68 = .ok (.iload_n 2, 1) ∧ decode cX5_nextToken 69 = .ok (.invokestatic 97, 3) ∧ decode cX5_nextToken 72 = .ok (.ifCond .eq 11, 3) ∧ decode cX5_nextToken 75 = .ok (.aload_n 0, 1) ∧ decode cX5_nextToken 76 = .ok (.aload_n 1, 1) ∧ decode cX5_nextToken 77 = .ok (.invokevirtual 100, 3) ∧ decode cX5_nextToken 80 = .ok (.goto 47, 3) ∧ decode cX5_nextToken 83 = .ok (.iload_n 2, 1) ∧ decode cX5_nextToken 84 = .ok (.invokestatic 103, 3) ∧ decode cX5_nextToken 87 = .ok (.ifCond .eq 11, 3) ∧ decode cX5_nextToken 90 = .ok (.aload_n 0, 1) ∧ decode cX5_nextToken 91 = .ok (.aload_n 1, 1) ∧ decode cX5_nextToken 92 = .ok (.invokevirtual 106, 3) ∧ decode cX5_nextToken 95 = .ok (.goto 32, 3) := by decide +kernel
theorem dX5_nextToken_62 : decode cX5_nextToken 62 = .ok (.putfield 26, 3) := dX5_nextToken_62_k.1
theorem dX5_nextToken_65 : decode cX5_nextToken 65 = .ok (.goto 62, 3) := dX5_nextToken_62_k.2.1
theorem dX5_nextToken_68 : decode cX5_nextToken 68 = .ok (.iload_n 2, 1) := dX5_nextToken_62_k.2.2.1
theorem dX5_nextToken_69 : decode cX5_nextToken 69 = .ok (.invokestatic 97, 3) := dX5_nextToken_62_k.2.2.2.1
theorem dX5_nextToken_72 : decode cX5_nextToken 72 = .ok (.ifCond .eq 11, 3) := dX5_nextToken_62_k.2.2.2.2.1
theorem dX5_nextToken_75 : decode cX5_nextToken 75 = .ok (.aload_n 0, 1) := dX5_nextToken_62_k.2.2.2.2.2.1
theorem dX5_nextToken_76 : decode cX5_nextToken 76 = .ok (.aload_n 1, 1) := dX5_nextToken_62_k.2.2.2.2.2.2.1
theorem dX5_nextToken_77 : decode cX5_nextToken 77 = .ok (.invokevirtual 100, 3) := dX5_nextToken_62_k.2.2.2.2.2.2.2.1
theorem dX5_nextToken_80 : decode cX5_nextToken 80 = .ok (.goto 47, 3) := dX5_nextToken_62_k.2.2.2.2.2.2.2.2.1
theorem dX5_nextToken_83 : decode cX5_nextToken 83 = .ok (.iload_n 2, 1) := dX5_nextToken_62_k.2.2.2.2.2.2.2.2.2.1
theorem dX5_nextToken_84 : decode cX5_nextToken 84 = .ok (.invokestatic 103, 3) := dX5_nextToken_62_k.2.2.2.2.2.2.2.2.2.2.1
theorem dX5_nextToken_87 : decode cX5_nextToken 87 = .ok (.ifCond .eq 11, 3) := dX5_nextToken_62_k.2.2.2.2.2.2.2.2.2.2.2.1
theorem dX5_nextToken_90 : decode cX5_nextToken 90 = .ok (.aload_n 0, 1) := dX5_nextToken_62_k.2.2.2.2.2.2.2.2.2.2.2.2.1
theorem dX5_nextToken_91 : decode cX5_nextToken 91 = .ok (.aload_n 1, 1) := dX5_nextToken_62_k.2.2.2.2.2.2.2.2.2.2.2.2.2.1
theorem dX5_nextToken_92 : decode cX5_nextToken 92 = .ok (.invokevirtual 106, 3) := dX5_nextToken_62_k.2.2.2.2.2.2.2.2.2.2.2.2.2.2.1
theorem dX5_nextToken_95 : decode cX5_nextToken 95 = .ok (.goto 32, 3) := dX5_nextToken_62_k.2.2.2.2.2.2.2.2.2.2.2.2.2.2.2
theorem dX5_nextToken_98_k : decode cX5_nextToken 98 = .ok (.iload_n 2, 1) ∧ decode cX5_nextToken 99 = .ok (.bipush 59, 2) ∧ decode cX5_nextToken 101 = .ok (.if_icmp .ne 21, 3) ∧ decode cX5_nextToken 104 = .ok (.aload_n 0, 1) ∧ decode cX5_nextToken 105 = .ok (.dup, 1) ∧ decode cX5_nextToken 106 = .ok (.getfield 22, 3) ∧ decode cX5_nextToken 109 = .ok (.iconst 1, 1) ∧ decode cX5_nextToken 110 = .ok (.iadd, 1) ∧ decode cX5_nextToken 111 = .ok (.putfield 22, 3) ∧ decode cX5_nextToken 114 = .ok (.aload_n 0, 1) ∧ decode cX5_nextToken 115 = .ok (.iconst 3, 1) ∧ decode cX5_nextToken 116 = .ok (.putfield 26, 3) ∧ decode cX5_nextToken 119 = .ok (.goto 8, 3) ∧ decode cX5_nextToken 122 = .ok (.aload_n 0, 1) ∧ decode cX5_nextToken 123 = .ok (.iconst 4, 1) ∧ decode cX5_nextToken 124 = .ok (.putfield 26, 3) := by decide +kernel
theorem dX5_nextToken_98 : decode cX5_nextToken 98 = .ok (.iload_n 2, 1) := dX5_nextToken_98_k.1
theorem dX5_nextToken_99 : decode cX5_nextToken 99 = .ok (.bipush 59, 2) := dX5_nextToken_98_k.2.1
theorem dX5_nextToken_101 : decode cX5_nextToken 101 = .ok (.if_icmp .ne 21, 3) := dX5_nextToken_98_k.2.2.1
theorem dX5_nextToken_104 : decode cX5_nextToken 104 = .ok (.aload_n 0, 1) := dX5_nextToken_98_k.2.2.2.1
theorem dX5_nextToken_105 : decode cX5_nextToken 105 = .ok (.dup, 1) := dX5_nextToken_98_k.2.2.2.2.1
theorem dX5_nextToken_106 : decode cX5_nextToken 106 = .ok (.getfield 22, 3) := dX5_nextToken_98_k.2.2.2.2.2.1
theorem dX5_nextToken_109 : decode cX5_nextToken 109 = .ok (.iconst 1, 1) := dX5_nextToken_98_k.2.2.2.2.2.2.1
theorem dX5_nextToken_110 : decode cX5_nextToken 110 = .ok (.iadd, 1) := dX5_nextToken_98_k.2.2.2.2.2.2.2.1
theorem dX5_nextToken_111 : decode cX5_nextToken 111 = .ok (.putfield 22, 3) := dX5_nextToken_98_k.2.2.2.2.2.2.2.2.1
theorem dX5_nextToken_114 : decode cX5_nextToken 114 = .ok (.aload_n 0, 1) := dX5_nextToken_98_k.2.2.2.2.2.2.2.2.2.1
theorem dX5_nextToken_115 : decode cX5_nextToken 115 = .ok (.iconst 3, 1) := dX5_nextToken_98_k.2.2.2.2.2.2.2.2.2.2.1
theorem dX5_nextToken_116 : decode cX5_nextToken 116 = .ok (.putfield 26, 3) := dX5_nextToken_98_k.2.2.2.2.2.2.2.2.2.2.2.1
theorem dX5_nextToken_119 : decode cX5_nextToken 119 = .ok (.goto 8, 3) := dX5_nextToken_98_k.2.2.2.2.2.2.2.2.2.2.2.2.1
theorem dX5_nextToken_122 : decode cX5_nextToken 122 = .ok (.aload_n 0, 1) := dX5_nextToken_98_k.2.2.2.2.2.2.2.2.2.2.2.2.2.1
theorem dX5_nextToken_123 : decode cX5_nextToken 123 = .ok (.iconst 4, 1) := dX5_nextToken_98_k.2.2.2.2.2.2.2.2.2.2.2.2.2.2.1
theorem dX5_nextToken_124 : decode cX5_nextToken 124 = .ok (.putfield 26, 3) := dX5_nextToken_98_k.2.2.2.2.2.2.2.2.2.2.2.2.2.2.2
theorem dX5_nextToken_127 : decode cX5_nextToken 127 = .ok (.return_, 1) := by decide +kernel
theorem dX5_passWord_0_k : decode cX5_passWord 0 = .ok (.aload_n 0, 1) ∧ decode cX5_passWord 1 = .ok (.getfield 22, 3) ∧ decode cX5_passWord 4 = .ok (.aload_n 1, 1) ∧ decode cX5_passWord 5 = .ok (.getfield 84, 3) ∧ decode cX5_passWord 8 = .ok (.if_icmp .ge 30, 3) ∧ decode cX5_passWord 11 = .ok (.aload_n 1, 1) ∧ decode cX5_passWord 12 = .ok (.aload_n 0, 1) ∧ decode cX5_passWord 13 = .ok (.getfield 22, 3) ∧ decode cX5_passWord 16 = .ok (.invokevirtual 89, 3) ∧ decode cX5_passWord 19 = .ok (.invokestatic 97, 3) ∧ decode cX5_passWord 22 = .ok (.ifCond .eq 16, 3) ∧ decode cX5_passWord 25 = .ok (.aload_n 0, 1) ∧ decode cX5_passWord 26 = .ok (.dup, 1) ∧ decode cX5_passWord 27 = .ok (.getfield 22, 3) ∧ decode cX5_passWord 30 = .ok (.iconst 1, 1) ∧ decode cX5_passWord 31 = .ok (.iadd, 1) := by decide +kernel
theorem dX5_passWord_0 : decode cX5_passWord 0 = .ok (.aload_n 0, 1) := dX5_passWord_0_k.1
theorem dX5_passWord_1 : decode cX5_passWord 1 = .ok (.getfield 22, 3) := dX5_passWord_0_k.2.1
theorem dX5_passWord_4 : decode cX5_passWord 4 = .ok (.aload_n 1, 1) := dX5_passWord_0_k.2.2.1
theorem dX5_passWord_5 : decode cX5_passWord 5 = .ok (.getfield 84, 3) := dX5_passWord_0_k.2.2.2.1
theorem dX5_passWord_8 : decode cX5_passWord 8 = .ok (.if_icmp .ge 30, 3) := dX5_passWord_0_k.2.2.2.2.1
theorem dX5_passWord_11 : decode cX5_passWord 11 = .ok (.aload_n 1, 1) := dX5_passWord_0_k.2.2.2.2.2.1
theorem dX5_passWord_12 : decode cX5_passWord 12 = .ok (.aload_n 0, 1) := dX5_passWord_0_k.2.2.2.2.2.2.1
theorem dX5_passWord_13 : decode cX5_passWord 13 = .ok (.getfield 22, 3) := dX5_passWord_0_k.2.2.2.2.2.2.2.1
theorem dX5_passWord_16 : decode cX5_passWord 16 = .ok (.invokevirtual 89, 3) := dX5_passWord_0_k.2.2.2.2.2.2.2.2.1
theorem dX5_passWord_19 : decode cX5_passWord 19 = .ok (.invokestatic 97, 3) := dX5_passWord_0_k.2.2.2.2.2.2.2.2.2.1
theorem dX5_passWord_22 : decode cX5_passWord 22 = .ok (.ifCond .eq 16, 3) := dX5_passWord_0_k.2.2.2.2.2.2.2.2.2.2.1
theorem dX5_passWord_25 : decode cX5_passWord 25 = .ok (.aload_n 0, 1) := dX5_passWord_0_k.2.2.2.2.2.2.2.2.2.2.2.1
theorem dX5_passWord_26 : decode cX5_passWord 26 = .ok (.dup, 1) := dX5_passWord_0_k.2.2.2.2.2.2.2.2.2.2.2.2.1
theorem dX5_passWord_27 : decode cX5_passWord 27 = .ok (.getfield 22, 3) := dX5_passWord_0_k.2.2.2.2.2.2.2.2.2.2.2.2.2.1
theorem dX5_passWord_30 : decode cX5_passWord 30 = .ok (.iconst 1, 1) := dX5_passWord_0_k.2.2.2.2.2.2.2.2.2.2.2.2.2.2.1
theorem dX5_passWord_31 : decode cX5_passWord 31 = .ok (.iadd, 1) := dX5_passWord_0_k.2.2.2.2.2.2.2.2.2.2.2.2.2.2.2
theorem dX5_passWord_32_k : decode cX5_passWord 32 = .ok (.putfield 22, 3) ∧ decode cX5_passWord 35 = .ok (.goto (-35), 3) ∧ decode cX5_passWord 38 = .ok (.aload_n 0, 1) ∧ decode cX5_passWord 39 = .ok (.iconst 1, 1) ∧ decode cX5_passWord 40 = .ok (.putfield 26, 3) ∧ decode cX5_passWord 43 = .ok (.return_, 1) := by decide +kernel
theorem dX5_passWord_32 : decode cX5_passWord 32 = .ok (.putfield 22, 3) := dX5_passWord_32_k.1
theorem dX5_passWord_35 : decode cX5_passWord 35 = .ok (.goto (-35), 3) := dX5_passWord_32_k.2.1
theorem dX5_passWord_38 : decode cX5_passWord 38 = .ok (.aload_n 0, 1) := dX5_passWord_32_k.2.2.1
theorem dX5_passWord_39 : decode cX5_passWord 39 = .ok (.iconst 1, 1) := dX5_passWord_32_k.2.2.2.1
theorem dX5_passWord_40 : decode cX5_passWord 40 = .ok (.putfield 26, 3) := dX5_passWord_32_k.2.2.2.2.1
theorem dX5_passWord_43 : decode cX5_passWord 43 = .ok (.return_, 1) := dX5_passWord_32_k.2.2.2.2.2
theorem dX5_passNumber_0_k : decode cX5_passNumber 0 = .ok (.aload_n 0, 1) ∧ decode cX5_passNumber 1 = .ok (.iconst 0, 1) ∧ decode cX5_passNumber 2 = .ok (.putfield 32, 3) ∧ decode cX5_passNumber 5 = .ok (.aload_n 0, 1) ∧ decode cX5_passNumber 6 = .ok (.getfield 22, 3) ∧ decode cX5_passNumber 9 = .ok (.aload_n 1, 1) ∧ decode cX5_passNumber 10 = .ok (.getfield 84, 3) ∧ decode cX5_passNumber 13 = .ok (.if_icmp .ge 66, 3) ∧ decode cX5_passNumber 16 = .ok (.aload_n 1, 1) ∧ decode cX5_passNumber 17 = .ok (.aload_n 0, 1) ∧ decode cX5_passNumber 18 = .ok (.getfield 22, 3) ∧ decode cX5_passNumber 21 = .ok (.invokevirtual 89, 3) ∧ decode cX5_passNumber 24 = .ok (.invokestatic 103, 3) ∧ decode cX5_passNumber 27 = .ok (.ifCond .eq 52, 3) ∧ decode cX5_passNumber 30 = .ok (.aload_n 0, 1) ∧ decode cX5_passNumber 31 = .ok (.getfield 22, 3) := by decide +kernel
theorem dX5_passNumber_0 : decode cX5_passNumber 0 = .ok (.aload_n 0, 1) := dX5_passNumber_0_k.1
theorem dX5_passNumber_1 : decode cX5_passNumber 1 = .ok (.iconst 0, 1) := dX5_passNumber_0_k.2.1
theorem dX5_passNumber_2 : decode cX5_passNumber 2 = .ok (.putfield 32, 3) := dX5_passNumber_0_k.2.2.1
theorem dX5_passNumber_5 : decode cX5_passNumber 5 = .ok (.aload_n 0, 1) := dX5_passNumber_0_k.2.2.2.1
theorem dX5_passNumber_6 : decode cX5_passNumber 6 = .ok (.getfield 22, 3) := dX5_passNumber_0_k.2.2.2.2.1
theorem dX5_passNumber_9 : decode cX5_passNumber 9 = .ok (.aload_n 1, 1) := dX5_passNumber_0_k.2.2.2.2.2.1
theorem dX5_passNumber_10 : decode cX5_passNumber 10 = .ok (.getfield 84, 3) := dX5_passNumber_0_k.2.2.2.2.2.2.1
theorem dX5_passNumber_13 : decode cX5_passNumber 13 = .ok (.if_icmp .ge 66, 3) := dX5_passNumber_0_k.2.2.2.2.2.2.2.1
theorem dX5_passNumber_16 : decode cX5_passNumber 16 = .ok (.aload_n 1, 1) := dX5_passNumber_0_k.2.2.2.2.2.2.2.2.1
theorem dX5_passNumber_17 : decode cX5_passNumber 17 = .ok (.aload_n 0, 1) := dX5_passNumber_0_k.2.2.2.2.2.2.2.2.2.1
theorem dX5_passNumber_18 : decode cX5_passNumber 18 = .ok (.getfield 22, 3) := dX5_passNumber_0_k.2.2.2.2.2.2.2.2.2.2.1
theorem dX5_passNumber_21 : decode cX5_passNumber 21 = .ok (.invokevirtual 89, 3) := dX5_passNumber_0_k.2.2.2.2.2.2.2.2.2.2.2.1
theorem dX5_passNumber_24 : decode cX5_passNumber 24 = .ok (.invokestatic 103, 3) := dX5_passNumber_0_k.2.2.2.2.2.2.2.2.2.2.2.2.1
theorem dX5_passNumber_27 : decode cX5_passNumber 27 = .ok (.ifCond .eq 52, 3) := dX5_passNumber_0_k.2.2.2.2.2.2.2.2.2.2.2.2.2.1
theorem dX5_passNumber_30 : decode cX5_passNumber 30 = .ok (.aload_n 0, 1) := dX5_passNumber_0_k.2.2.2.2.2.2.2.2.2.2.2.2.2.2.1
theorem dX5_passNumber_31 : decode cX5_passNumber 31 = .ok (.getfield 22, 3) := dX5_passNumber_0_k.2.2.2.2.2.2.2.2.2.2.2.2.2.2.2
theorem dX5_passNumber_34_k : decode cX5_passNumber 34 = .ok (.aload_n 0, 1) ∧ decode cX5_passNumber 35 = .ok (.getfield 29, 3) ∧ decode cX5_passNumber 38 = .ok (.isub, 1) ∧ decode cX5_passNumber 39 = .ok (.iconst 4, 1) ∧ decode cX5_passNumber 40 = .ok (.if_icmp .ge 26, 3) ∧ decode cX5_passNumber 43 = .ok (.aload_n 0, 1) ∧ decode cX5_passNumber 44 = .ok (.aload_n 0, 1) ∧ decode cX5_passNumber 45 = .ok (.getfield 32, 3) ∧ decode cX5_passNumber 48 = .ok (.bipush 10, 2) ∧ decode cX5_passNumber 50 = .ok (.imul, 1) ∧ decode cX5_passNumber 51 = .ok (.aload_n 1, 1) ∧ decode cX5_passNumber 52 = .ok (.aload_n 0, 1) ∧ decode cX5_passNumber 53 = .ok (.getfield 22, 3) ∧ decode cX5_passNumber 56 = .ok (.invokevirtual 89, 3) ∧ decode cX5_passNumber 59 = .ok (.iadd, 1) ∧ decode cX5_passNumber 60 = .ok (.bipush 48, 2) := by decide +kernel
theorem dX5_passNumber_34 : decode cX5_passNumber 34 = .ok (.aload_n 0, 1) := dX5_passNumber_34_k.1
theorem dX5_passNumber_35 : decode cX5_passNumber 35 = .ok (.getfield 29, 3) := dX5_passNumber_34_k.2.1
theorem dX5_passNumber_38 : decode cX5_passNumber 38 = .ok (.isub, 1) := dX5_passNumber_34_k.2.2.1
theorem dX5_passNumber_39 : decode cX5_passNumber 39 = .ok (.iconst 4, 1) := dX5_passNumber_34_k.2.2.2.1
theorem dX5_passNumber_40 : decode cX5_passNumber 40 = .ok (.if_icmp .ge 26, 3) := dX5_passNumber_34_k.2.2.2.2.1
theorem dX5_passNumber_43 : decode cX5_passNumber 43 = .ok (.aload_n 0, 1) := dX5_passNumber_34_k.2.2.2.2.2.1
theorem dX5_passNumber_44 : decode cX5_passNumber 44 = .ok (.aload_n 0, 1) := dX5_passNumber_34_k.2.2.2.2.2.2.1
theorem dX5_passNumber_45 : decode cX5_passNumber 45 = .ok (.getfield 32, 3) := dX5_passNumber_34_k.2.2.2.2.2.2.2.1
theorem dX5_passNumber_48 : decode cX5_passNumber 48 = .ok (.bipush 10, 2) := dX5_passNumber_34_k.2.2.2.2.2.2.2.2.1
theorem dX5_passNumber_50 : decode cX5_passNumber 50 = .ok (.imul, 1) := dX5_passNumber_34_k.2.2.2.2.2.2.2.2.2.1
theorem dX5_passNumber_51 : decode cX5_passNumber 51 = .ok (.aload_n 1, 1) := dX5_passNumber_34_k.2.2.2.2.2.2.2.2.2.2.1
theorem dX5_passNumber_52 : decode cX5_passNumber 52 = .ok (.aload_n 0, 1) := dX5_passNumber_34_k.2.2.2.2.2.2.2.2.2.2.2.1
theorem dX5_passNumber_53 : decode cX5_passNumber 53 = .ok (.getfield 22, 3) := dX5_passNumber_34_k.2.2.2.2.2.2.2.2.2.2.2.2.1
theorem dX5_passNumber_56 : decode cX5_passNumber 56 = .ok (.invokevirtual 89, 3) := dX5_passNumber_34_k.2.2.2.2.2.2.2.2.2.2.2.2.2.1
theorem dX5_passNumber_59 : decode cX5_passNumber 59 = .ok (.iadd, 1) := dX5_passNumber_34_k.2.2.2.2.2.2.2.2.2.2.2.2.2.2.1
theorem dX5_passNumber_60 : decode cX5_passNumber 60 = .ok (.bipush 48, 2) := dX5_passNumber_34_k.2.2.2.2.2.2.2.2.2.2.2.2.2.2.2
theorem dX5_passNumber_62_k : decode cX5_passNumber 62 = .ok (.isub, 1) ∧ decode cX5_passNumber 63 = .ok (.putfield 32, 3) ∧ decode cX5_passNumber 66 = .ok (.aload_n 0, 1) ∧ decode cX5_passNumber 67 = .ok (.dup, 1) ∧ decode cX5_passNumber 68 = .ok (.getfield 22, 3) ∧ decode cX5_passNumber 71 = .ok (.iconst 1, 1) ∧ decode cX5_passNumber 72 = .ok (.iadd, 1) ∧ decode cX5_passNumber 73 = .ok (.putfield 22, 3) ∧ decode cX5_passNumber 76 = .ok (.goto (-71), 3) ∧ decode cX5_passNumber 79 = .ok (.aload_n 0, 1) ∧ decode cX5_passNumber 80 = .ok (.aload_n 0, 1) ∧ decode cX5_passNumber 81 = .ok (.getfield 22, 3) ∧ decode cX5_passNumber 84 = .ok (.aload_n 0, 1) ∧ decode cX5_passNumber 85 = .ok (.getfield 29, 3) ∧ decode cX5_passNumber 88 = .ok (.isub, 1) ∧ decode cX5_passNumber 89 = .ok (.iconst 4, 1) := by decide +kernel
theorem dX5_passNumber_62 : decode cX5_passNumber 62 = .ok (.isub, 1) := dX5_passNumber_62_k.1
theorem dX5_passNumber_63 : decode cX5_passNumber 63 = .ok (.putfield 32, 3) := dX5_passNumber_62_k.2.1
theorem dX5_passNumber_66 : decode cX5_passNumber 66 = .ok (.aload_n 0, 1) := dX5_passNumber_62_k.2.2.1
theorem dX5_passNumber_67 : decode cX5_passNumber 67 = .ok (.dup, 1) := dX5_passNumber_62_k.2.2.2.1
theorem dX5_passNumber_68 : decode cX5_passNumber 68 = .ok (.getfield 22, 3) := dX5_passNumber_62_k.2.2.2.2.1
theorem dX5_passNumber_71 : decode cX5_passNumber 71 = .ok (.iconst 1, 1) := dX5_passNumber_62_k.2.2.2.2.2.1
theorem dX5_passNumber_72 : decode cX5_passNumber 72 = .ok (.iadd, 1) := dX5_passNumber_62_k.2.2.2.2.2.2.1
theorem dX5_passNumber_73 : decode cX5_passNumber 73 = .ok (.putfield 22, 3) := dX5_passNumber_62_k.2.2.2.2.2.2.2.1
theorem dX5_passNumber_76 : decode cX5_passNumber 76 = .ok (.goto (-71), 3) := dX5_passNumber_62_k.2.2.2.2.2.2.2.2.1
theorem dX5_passNumber_79 : decode cX5_passNumber 79 = .ok (.aload_n 0, 1) := dX5_passNumber_62_k.2.2.2.2.2.2.2.2.2.1
theorem dX5_passNumber_80 : decode cX5_passNumber 80 = .ok (.aload_n 0, 1) := dX5_passNumber_62_k.2.2.2.2.2.2.2.2.2.2.1
theorem dX5_passNumber_81 : decode cX5_passNumber 81 = .ok (.getfield 22, 3) := dX5_passNumber_62_k.2.2.2.2.2.2.2.2.2.2.2.1
theorem dX5_passNumber_84 : decode cX5_passNumber 84 = .ok (.aload_n 0, 1) := dX5_passNumber_62_k.2.2.2.2.2.2.2.2.2.2.2.2.1
theorem dX5_passNumber_85 : decode cX5_passNumber 85 = .ok (.getfield 29, 3) := dX5_passNumber_62_k.2.2.2.2.2.2.2.2.2.2.2.2.2.1
theorem dX5_passNumber_88 : decode cX5_passNumber 88 = .ok (.isub, 1) := dX5_passNumber_62_k.2.2.2.2.2.2.2.2.2.2.2.2.2.2.1
theorem dX5_passNumber_89 : decode cX5_passNumber 89 = .ok (.iconst 4, 1) := dX5_passNumber_62_k.2.2.2.2.2.2.2.2.2.2.2.2.2.2.2
theorem dX5_passNumber_90_k : decode cX5_passNumber 90 = .ok (.if_icmp .gt 7, 3) ∧ decode cX5_passNumber 93 = .ok (.iconst 2, 1) ∧ decode cX5_passNumber 94 = .ok (.goto 4, 3) ∧ decode cX5_passNumber 97 = .ok (.iconst 4, 1) ∧ decode cX5_passNumber 98 = .ok (.putfield 26, 3) ∧ decode cX5_passNumber 101 = .ok (.return_, 1) := by decide +kernel
theorem dX5_passNumber_90 : decode cX5_passNumber 90 = .ok (.if_icmp .gt 7, 3) := dX5_passNumber_90_k.1
theorem dX5_passNumber_93 : decode cX5_passNumber 93 = .ok (.iconst 2, 1) := dX5_passNumber_90_k.2.1
theorem dX5_passNumber_94 : decode cX5_passNumber 94 = .ok (.goto 4, 3) := dX5_passNumber_90_k.2.2.1
theorem dX5_passNumber_97 : decode cX5_passNumber 97 = .ok (.iconst 4, 1) := dX5_passNumber_90_k.2.2.2.1
theorem dX5_passNumber_98 : decode cX5_passNumber 98 = .ok (.putfield 26, 3) := dX5_passNumber_90_k.2.2.2.2.1
theorem dX5_passNumber_101 : decode cX5_passNumber 101 = .ok (.return_, 1) := dX5_passNumber_90_k.2.2.2.2.2
theorem dX5_settingOf_0_k : decode cX5_settingOf 0 = .ok (.iconst 0, 1) ∧ decode cX5_settingOf 1 = .ok (.istore_n 2, 1) ∧ decode cX5_settingOf 2 = .ok (.iload_n 2, 1) ∧ decode cX5_settingOf 3 = .ok (.bipush 9, 2) ∧ decode cX5_settingOf 5 = .ok (.if_icmp .gt 30, 3) ∧ decode cX5_settingOf 8 = .ok (.aload_n 1, 1) ∧ decode cX5_settingOf 9 = .ok (.aload_n 0, 1) ∧ decode cX5_settingOf 10 = .ok (.getfield 29, 3) ∧ decode cX5_settingOf 13 = .ok (.aload_n 0, 1) ∧ decode cX5_settingOf 14 = .ok (.getfield 22, 3) ∧ decode cX5_settingOf 17 = .ok (.iload_n 2, 1) ∧ decode cX5_settingOf 18 = .ok (.invokestatic 109, 3) ∧ decode cX5_settingOf 21 = .ok (.invokevirtual 113, 3) ∧ decode cX5_settingOf 24 = .ok (.ifCond .eq 5, 3) ∧ decode cX5_settingOf 27 = .ok (.iload_n 2, 1) ∧ decode cX5_settingOf 28 = .ok (.ireturn, 1) := by decide +kernel
theorem dX5_settingOf_0 : decode cX5_settingOf 0 = .ok (.iconst 0, 1) := dX5_settingOf_0_k.1
theorem dX5_settingOf_1 : decode cX5_settingOf 1 = .ok (.istore_n 2, 1) := dX5_settingOf_0_k.2.1
theorem dX5_settingOf_2 : decode cX5_settingOf 2 = .ok (.iload_n 2, 1) := dX5_settingOf_0_k.2.2.1
theorem dX5_settingOf_3 : decode cX5_settingOf 3 = .ok (.bipush 9, 2) := dX5_settingOf_0_k.2.2.2.1
theorem dX5_settingOf_5 : decode cX5_settingOf 5 = .ok (.if_icmp .gt 30, 3) := dX5_settingOf_0_k.2.2.2.2.1
theorem dX5_settingOf_8 : decode cX5_settingOf 8 = .ok (.aload_n 1, 1) := dX5_settingOf_0_k.2.2.2.2.2.1
theorem dX5_settingOf_9 : decode cX5_settingOf 9 = .ok (.aload_n 0, 1) := dX5_settingOf_0_k.2.2.2.2.2.2.1
theorem dX5_settingOf_10 : decode cX5_settingOf 10 = .ok (.getfield 29, 3) := dX5_settingOf_0_k.2.2.2.2.2.2.2.1
theorem dX5_settingOf_13 : decode cX5_settingOf 13 = .ok (.aload_n 0, 1) := dX5_settingOf_0_k.2.2.2.2.2.2.2.2.1
theorem dX5_settingOf_14 : decode cX5_settingOf 14 = .ok (.getfield 22, 3) := dX5_settingOf_0_k.2.2.2.2.2.2.2.2.2.1
theorem dX5_settingOf_17 : decode cX5_settingOf 17 = .ok (.iload_n 2, 1) := dX5_settingOf_0_k.2.2.2.2.2.2.2.2.2.2.1
theorem dX5_settingOf_18 : decode cX5_settingOf 18 = .ok (.invokestatic 109, 3) := dX5_settingOf_0_k.2.2.2.2.2.2.2.2.2.2.2.1
theorem dX5_settingOf_21 : decode cX5_settingOf 21 = .ok (.invokevirtual 113, 3) := dX5_settingOf_0_k.2.2.2.2.2.2.2.2.2.2.2.2.1
theorem dX5_settingOf_24 : decode cX5_settingOf 24 = .ok (.ifCond .eq 5, 3) := dX5_settingOf_0_k.2.2.2.2.2.2.2.2.2.2.2.2.2.1
theorem dX5_settingOf_27 : decode cX5_settingOf 27 = .ok (.iload_n 2, 1) := dX5_settingOf_0_k.2.2.2.2.2.2.2.2.2.2.2.2.2.2.1
theorem dX5_settingOf_28 : decode cX5_settingOf 28 = .ok (.ireturn, 1) := dX5_settingOf_0_k.2.2.2.2.2.2.2.2.2.2.2.2.2.2.2
theorem dX5_settingOf_29_k : decode cX5_settingOf 29 = .ok (.iinc 2 1, 3) ∧ decode cX5_settingOf 32 = .ok (.goto (-30), 3) ∧ decode cX5_settingOf 35 = .ok (.iconst (-1), 1) ∧ decode cX5_settingOf 36 = .ok (.ireturn, 1) := by decide +kernel
theorem dX5_settingOf_29 : decode cX5_settingOf 29 = .ok (.iinc 2 1, 3) := dX5_settingOf_29_k.1
theorem dX5_settingOf_32 : decode cX5_settingOf 32 = .ok (.goto (-30), 3) := dX5_settingOf_29_k.2.1
theorem dX5_settingOf_35 : decode cX5_settingOf 35 = .ok (.iconst (-1), 1) := dX5_settingOf_29_k.2.2.1
theorem dX5_settingOf_36 : decode cX5_settingOf 36 = .ok (.ireturn, 1) := dX5_settingOf_29_k.2.2.2
theorem dX5_wordOf_0_k : decode cX5_wordOf 0 = .ok (.iload_n 0, 1) ∧ decode cX5_wordOf 1 = .ok (.tableswitch 78 0 8 #[51, 54, 57, 60, 63, 66, 69, 72, 75], 51) ∧ decode cX5_wordOf 52 = .ok (.ldc 117, 2) ∧ decode cX5_wordOf 54 = .ok (.areturn, 1) ∧ decode cX5_wordOf 55 = .ok (.ldc 119, 2) ∧ decode cX5_wordOf 57 = .ok (.areturn, 1) ∧ decode cX5_wordOf 58 = .ok (.ldc 121, 2) ∧ decode cX5_wordOf 60 = .ok (.areturn, 1) ∧ decode cX5_wordOf 61 = .ok (.ldc 123, 2) ∧ decode cX5_wordOf 63 = .ok (.areturn, 1) ∧ decode cX5_wordOf 64 = .ok (.ldc 125, 2) ∧ decode cX5_wordOf 66 = .ok (.areturn, 1) ∧ decode cX5_wordOf 67 = .ok (.ldc 127, 2) ∧ decode cX5_wordOf 69 = .ok (.areturn, 1) ∧ decode cX5_wordOf 70 = .ok (.ldc 129, 2) ∧ decode cX5_wordOf 72 = .ok (.areturn, 1) := by decide +kernel
theorem dX5_wordOf_0 : decode cX5_wordOf 0 = .ok (.iload_n 0, 1) := dX5_wordOf_0_k.1
theorem dX5_wordOf_1 : decode cX5_wordOf 1 = .ok (.tableswitch 78 0 8 #[51, 54, 57, 60, 63, 66, 69, 72, 75], 51) := dX5_wordOf_0_k.2.1
theorem dX5_wordOf_52 : decode cX5_wordOf 52 = .ok (.ldc 117, 2) := dX5_wordOf_0_k.2.2.1
theorem dX5_wordOf_54 : decode cX5_wordOf 54 = .ok (.areturn, 1) := dX5_wordOf_0_k.2.2.2.1
theorem dX5_wordOf_55 : decode cX5_wordOf 55 = .ok (.ldc 119, 2) := dX5_wordOf_0_k.2.2.2.2.1
theorem dX5_wordOf_57 : decode cX5_wordOf 57 = .ok (.areturn, 1) := dX5_wordOf_0_k.2.2.2.2.2.1
theorem dX5_wordOf_58 : decode cX5_wordOf 58 = .ok (.ldc 121, 2) := dX5_wordOf_0_k.2.2.2.2.2.2.1
theorem dX5_wordOf_60 : decode cX5_wordOf 60 = .ok (.areturn, 1) := dX5_wordOf_0_k.2.2.2.2.2.2.2.1
theorem dX5_wordOf_61 : decode cX5_wordOf 61 = .ok (.ldc 123, 2) := dX5_wordOf_0_k.2.2.2.2.2.2.2.2.1
theorem dX5_wordOf_63 : decode cX5_wordOf 63 = .ok (.areturn, 1) := dX5_wordOf_0_k.2.2.2.2.2.2.2.2.2.1
theorem dX5_wordOf_64 : decode cX5_wordOf 64 = .ok (.ldc 125, 2) := dX5_wordOf_0_k.2.2.2.2.2.2.2.2.2.2.1
theorem dX5_wordOf_66 : decode cX5_wordOf 66 = .ok (.areturn, 1) := dX5_wordOf_0_k.2.2.2.2.2.2.2.2.2.2.2.1
theorem dX5_wordOf_67 : decode cX5_wordOf 67 = .ok (.ldc 127, 2) := dX5_wordOf_0_k.2.2.2.2.2.2.2.2.2.2.2.2.1
theorem dX5_wordOf_69 : decode cX5_wordOf 69 = .ok (.areturn, 1) := dX5_wordOf_0_k.2.2.2.2.2.2.2.2.2.2.2.2.2.1
theorem dX5_wordOf_70 : decode cX5_wordOf 70 = .ok (.ldc 129, 2) := dX5_wordOf_0_k.2.2.2.2.2.2.2.2.2.2.2.2.2.2.1
theorem dX5_wordOf_72 : decode cX5_wordOf 72 = .ok (.areturn, 1) := dX5_wordOf_0_k.2.2.2.2.2.2.2.2.2.2.2.2.2.2.2
theorem dX5_wordOf_73_k : decode cX5_wordOf 73 = .ok (.ldc 131, 2) ∧ decode cX5_wordOf 75 = .ok (.areturn, 1) ∧ decode cX5_wordOf 76 = .ok (.ldc 133, 2) ∧ decode cX5_wordOf 78 = .ok (.areturn, 1) ∧ decode cX5_wordOf 79 = .ok (.ldc 135, 2) ∧ decode cX5_wordOf 81 = .ok (.areturn, 1) := by decide +kernel
theorem dX5_wordOf_73 : decode cX5_wordOf 73 = .ok (.ldc 131, 2) := dX5_wordOf_73_k.1
theorem dX5_wordOf_75 : decode cX5_wordOf 75 = .ok (.areturn, 1) := dX5_wordOf_73_k.2.1
theorem dX5_wordOf_76 : decode cX5_wordOf 76 = .ok (.ldc 133, 2) := dX5_wordOf_73_k.2.2.1
theorem dX5_wordOf_78 : decode cX5_wordOf 78 = .ok (.areturn, 1) := dX5_wordOf_73_k.2.2.2.1
theorem dX5_wordOf_79 : decode cX5_wordOf 79 = .ok (.ldc 135, 2) := dX5_wordOf_73_k.2.2.2.2.1
theorem dX5_wordOf_81 : decode cX5_wordOf 81 = .ok (.areturn, 1) := dX5_wordOf_73_k.2.2.2.2.2
theorem dX5_isBlank_0_k : decode cX5_isBlank 0 = .ok (.iload_n 0, 1) ∧ decode cX5_isBlank 1 = .ok (.bipush 32, 2) ∧ decode cX5_isBlank 3 = .ok (.if_icmp .eq 9, 3) ∧ decode cX5_isBlank 6 = .ok (.iload_n 0, 1) ∧ decode cX5_isBlank 7 = .ok (.bipush 10, 2) ∧ decode cX5_isBlank 9 = .ok (.if_icmp .ne 7, 3) ∧ decode cX5_isBlank 12 = .ok (.iconst 1, 1) ∧ decode cX5_isBlank 13 = .ok (.goto 4, 3) ∧ decode cX5_isBlank 16 = .ok (.iconst 0, 1) ∧ decode cX5_isBlank 17 = .ok (.ireturn, 1) := by decide +kernel
theorem dX5_isBlank_0 : decode cX5_isBlank 0 = .ok (.iload_n 0, 1) := dX5_isBlank_0_k.1
theorem dX5_isBlank_1 : decode cX5_isBlank 1 = .ok (.bipush 32, 2) := dX5_isBlank_0_k.2.1
theorem dX5_isBlank_3 : decode cX5_isBlank 3 = .ok (.if_icmp .eq 9, 3) := dX5_isBlank_0_k.2.2.1
theorem dX5_isBlank_6 : decode cX5_isBlank 6 = .ok (.iload_n 0, 1) := dX5_isBlank_0_k.2.2.2.1
theorem dX5_isBlank_7 : decode cX5_isBlank 7 = .ok (.bipush 10, 2) := dX5_isBlank_0_k.2.2.2.2.1
theorem dX5_isBlank_9 : decode cX5_isBlank 9 = .ok (.if_icmp .ne 7, 3) := dX5_isBlank_0_k.2.2.2.2.2.1
theorem dX5_isBlank_12 : decode cX5_isBlank 12 = .ok (.iconst 1, 1) := dX5_isBlank_0_k.2.2.2.2.2.2.1
theorem dX5_isBlank_13 : decode cX5_isBlank 13 = .ok (.goto 4, 3) := dX5_isBlank_0_k.2.2.2.2.2.2.2.1
theorem dX5_isBlank_16 : decode cX5_isBlank 16 = .ok (.iconst 0, 1) := dX5_isBlank_0_k.2.2.2.2.2.2.2.2.1
theorem dX5_isBlank_17 : decode cX5_isBlank 17 = .ok (.ireturn, 1) := dX5_isBlank_0_k.2.2.2.2.2.2.2.2.2
theorem dX5_isLetter_0_k : decode cX5_isLetter 0 = .ok (.iload_n 0, 1) ∧ decode cX5_isLetter 1 = .ok (.bipush 97, 2) ∧ decode cX5_isLetter 3 = .ok (.if_icmp .lt 13, 3) ∧ decode cX5_isLetter 6 = .ok (.iload_n 0, 1) ∧ decode cX5_isLetter 7 = .ok (.bipush 122, 2) ∧ decode cX5_isLetter 9 = .ok (.if_icmp .gt 7, 3) ∧ decode cX5_isLetter 12 = .ok (.iconst 1, 1) ∧ decode cX5_isLetter 13 = .ok (.goto 4, 3) ∧ decode cX5_isLetter 16 = .ok (.iconst 0, 1) ∧ decode cX5_isLetter 17 = .ok (.ireturn, 1) := by decide +kernel
theorem dX5_isLetter_0 : decode cX5_isLetter 0 = .ok (.iload_n 0, 1) := dX5_isLetter_0_k.1
theorem dX5_isLetter_1 : decode cX5_isLetter 1 = .ok (.bipush 97, 2) := dX5_isLetter_0_k.2.1
theorem dX5_isLetter_3 : decode cX5_isLetter 3 = .ok (.if_icmp .lt 13, 3) := dX5_isLetter_0_k.2.2.1
theorem dX5_isLetter_6 : decode cX5_isLetter 6 = .ok (.iload_n 0, 1) := dX5_isLetter_0_k.2.2.2.1
theorem dX5_isLetter_7 : decode cX5_isLetter 7 = .ok (.bipush 122, 2) := dX5_isLetter_0_k.2.2.2.2.1
theorem dX5_isLetter_9 : decode cX5_isLetter 9 = .ok (.if_icmp .gt 7, 3) := dX5_isLetter_0_k.2.2.2.2.2.1
theorem dX5_isLetter_12 : decode cX5_isLetter 12 = .ok (.iconst 1, 1) := dX5_isLetter_0_k.2.2.2.2.2.2.1
theorem dX5_isLetter_13 : decode cX5_isLetter 13 = .ok (.goto 4, 3) := dX5_isLetter_0_k.2.2.2.2.2.2.2.1
theorem dX5_isLetter_16 : decode cX5_isLetter 16 = .ok (.iconst 0, 1) := dX5_isLetter_0_k.2.2.2.2.2.2.2.2.1
theorem dX5_isLetter_17 : decode cX5_isLetter 17 = .ok (.ireturn, 1) := dX5_isLetter_0_k.2.2.2.2.2.2.2.2.2
theorem dX5_isDigit_0_k : decode cX5_isDigit 0 = .ok (.iload_n 0, 1) ∧ decode cX5_isDigit 1 = .ok (.bipush 48, 2) ∧ decode cX5_isDigit 3 = .ok (.if_icmp .lt 13, 3) ∧ decode cX5_isDigit 6 = .ok (.iload_n 0, 1) ∧ decode cX5_isDigit 7 = .ok (.bipush 57, 2) ∧ decode cX5_isDigit 9 = .ok (.if_icmp .gt 7, 3) ∧ decode cX5_isDigit 12 = .ok (.iconst 1, 1) ∧ decode cX5_isDigit 13 = .ok (.goto 4, 3) ∧ decode cX5_isDigit 16 = .ok (.iconst 0, 1) ∧ decode cX5_isDigit 17 = .ok (.ireturn, 1) := by decide +kernel
theorem dX5_isDigit_0 : decode cX5_isDigit 0 = .ok (.iload_n 0, 1) := dX5_isDigit_0_k.1
theorem dX5_isDigit_1 : decode cX5_isDigit 1 = .ok (.bipush 48, 2) := dX5_isDigit_0_k.2.1
theorem dX5_isDigit_3 : decode cX5_isDigit 3 = .ok (.if_icmp .lt 13, 3) := dX5_isDigit_0_k.2.2.1
theorem dX5_isDigit_6 : decode cX5_isDigit 6 = .ok (.iload_n 0, 1) := dX5_isDigit_0_k.2.2.2.1
theorem dX5_isDigit_7 : decode cX5_isDigit 7 = .ok (.bipush 57, 2) := dX5_isDigit_0_k.2.2.2.2.1
theorem dX5_isDigit_9 : decode cX5_isDigit 9 = .ok (.if_icmp .gt 7, 3) := dX5_isDigit_0_k.2.2.2.2.2.1
theorem dX5_isDigit_12 : decode cX5_isDigit 12 = .ok (.iconst 1, 1) := dX5_isDigit_0_k.2.2.2.2.2.2.1
theorem dX5_isDigit_13 : decode cX5_isDigit 13 = .ok (.goto 4, 3) := dX5_isDigit_0_k.2.2.2.2.2.2.2.1
theorem dX5_isDigit_16 : decode cX5_isDigit 16 = .ok (.iconst 0, 1) := dX5_isDigit_0_k.2.2.2.2.2.2.2.2.1
theorem dX5_isDigit_17 : decode cX5_isDigit 17 = .ok (.ireturn, 1) := dX5_isDigit_0_k.2.2.2.2.2.2.2.2.2
theorem dX6_init_0_k : decode cX6_init 0 = .ok (.aload_n 0, 1) ∧ decode cX6_init 1 = .ok (.invokespecial 3, 3) ∧ decode cX6_init 4 = .ok (.aload_n 0, 1) ∧ decode cX6_init 5 = .ok (.bipush 15, 2) ∧ decode cX6_init 7 = .ok (.newarray .int, 2) ∧ decode cX6_init 9 = .ok (.putfield 9, 3) ∧ decode cX6_init 12 = .ok (.aload_n 0, 1) ∧ decode cX6_init 13 = .ok (.bipush 15, 2) ∧ decode cX6_init 15 = .ok (.newarray .int, 2) ∧ decode cX6_init 17 = .ok (.putfield 15, 3) ∧ decode cX6_init 20 = .ok (.aload_n 0, 1) ∧ decode cX6_init 21 = .ok (.iconst 0, 1) ∧ decode cX6_init 22 = .ok (.putfield 18, 3) ∧ decode cX6_init 25 = .ok (.return_, 1) := by decide +kernel
theorem dX6_init_0 : decode cX6_init 0 = .ok (.aload_n 0, 1) := dX6_init_0_k.1
theorem dX6_init_1 : decode cX6_init 1 = .ok (.invokespecial 3, 3) := dX6_init_0_k.2.1
theorem dX6_init_4 : decode cX6_init 4 = .ok (.aload_n 0, 1) := dX6_init_0_k.2.2.1
theorem dX6_init_5 : decode cX6_init 5 = .ok (.bipush 15, 2) := dX6_init_0_k.2.2.2.1
theorem dX6_init_7 : decode cX6_init 7 = .ok (.newarray .int, 2) := dX6_init_0_k.2.2.2.2.1
theorem dX6_init_9 : decode cX6_init 9 = .ok (.putfield 9, 3) := dX6_init_0_k.2.2.2.2.2.1
theorem dX6_init_12 : decode cX6_init 12 = .ok (.aload_n 0, 1) := dX6_init_0_k.2.2.2.2.2.2.1
theorem dX6_init_13 : decode cX6_init 13 = .ok (.bipush 15, 2) := dX6_init_0_k.2.2.2.2.2.2.2.1
theorem dX6_init_15 : decode cX6_init 15 = .ok (.newarray .int, 2) := dX6_init_0_k.2.2.2.2.2.2.2.2.1
theorem dX6_init_17 : decode cX6_init 17 = .ok (.putfield 15, 3) := dX6_init_0_k.2.2.2.2.2.2.2.2.2.1
theorem dX6_init_20 : decode cX6_init 20 = .ok (.aload_n 0, 1) := dX6_init_0_k.2.2.2.2.2.2.2.2.2.2.1
theorem dX6_init_21 : decode cX6_init 21 = .ok (.iconst 0, 1) := dX6_init_0_k.2.2.2.2.2.2.2.2.2.2.2.1
theorem dX6_init_22 : decode cX6_init 22 = .ok (.putfield 18, 3) := dX6_init_0_k.2.2.2.2.2.2.2.2.2.2.2.2.1
theorem dX6_init_25 : decode cX6_init 25 = .ok (.return_, 1) := dX6_init_0_k.2.2.2.2.2.2.2.2.2.2.2.2.2
theorem dX6_clear_0_k : decode cX6_clear 0 = .ok (.aload_n 0, 1) ∧ decode cX6_clear 1 = .ok (.iconst 0, 1) ∧ decode cX6_clear 2 = .ok (.putfield 18, 3) ∧ decode cX6_clear 5 = .ok (.return_, 1) := by decide +kernel
theorem dX6_clear_0 : decode cX6_clear 0 = .ok (.aload_n 0, 1) := dX6_clear_0_k.1
theorem dX6_clear_1 : decode cX6_clear 1 = .ok (.iconst 0, 1) := dX6_clear_0_k.2.1
theorem dX6_clear_2 : decode cX6_clear 2 = .ok (.putfield 18, 3) := dX6_clear_0_k.2.2.1
theorem dX6_clear_5 : decode cX6_clear 5 = .ok (.return_, 1) := dX6_clear_0_k.2.2.2
theorem dX6_open_0_k : decode cX6_open 0 = .ok (.aload_n 0, 1) ∧ decode cX6_open 1 = .ok (.getfield 18, 3) ∧ decode cX6_open 4 = .ok (.bipush 15, 2) ∧ decode cX6_open 6 = .ok (.if_icmp .lt 39, 3) ∧ decode cX6_open 9 = .ok (.aload_n 0, 1) ∧ decode cX6_open 10 = .ok (.getfield 9, 3) ∧ decode cX6_open 13 = .ok (.iconst 1, 1) ∧ decode cX6_open 14 = .ok (.aload_n 0, 1) ∧ decode cX6_open 15 = .ok (.getfield 9, 3) ∧ decode cX6_open 18 = .ok (.iconst 0, 1) ∧ decode cX6_open 19 = .ok (.bipush 14, 2) ∧ decode cX6_open 21 = .ok (.invokestatic 22, 3) ∧ decode cX6_open 24 = .ok (.aload_n 0, 1) ∧ decode cX6_open 25 = .ok (.getfield 15, 3) ∧ decode cX6_open 28 = .ok (.iconst 1, 1) ∧ decode cX6_open 29 = .ok (.aload_n 0, 1) := by decide +kernel
theorem dX6_open_0 : decode cX6_open 0 = .ok (.aload_n 0, 1) := dX6_open_0_k.1
theorem dX6_open_1 : decode cX6_open 1 = .ok (.getfield 18, 3) := dX6_open_0_k.2.1
theorem dX6_open_4 : decode cX6_open 4 = .ok (.bipush 15, 2) := dX6_open_0_k.2.2.1
theorem dX6_open_6 : decode cX6_open 6 = .ok (.if_icmp .lt 39, 3) := dX6_open_0_k.2.2.2.1
theorem dX6_open_9 : decode cX6_open 9 = .ok (.aload_n 0, 1) := dX6_open_0_k.2.2.2.2.1
theorem dX6_open_10 : decode cX6_open 10 = .ok (.getfield 9, 3) := dX6_open_0_k.2.2.2.2.2.1
theorem dX6_open_13 : decode cX6_open 13 = .ok (.iconst 1, 1) := dX6_open_0_k.2.2.2.2.2.2.1
theorem dX6_open_14 : decode cX6_open 14 = .ok (.aload_n 0, 1) := dX6_open_0_k.2.2.2.2.2.2.2.1
theorem dX6_open_15 : decode cX6_open 15 = .ok (.getfield 9, 3) := dX6_open_0_k.2.2.2.2.2.2.2.2.1
theorem dX6_open_18 : decode cX6_open 18 = .ok (.iconst 0, 1) := dX6_open_0_k.2.2.2.2.2.2.2.2.2.1
theorem dX6_open_19 : decode cX6_open 19 = .ok (.bipush 14, 2) := dX6_open_0_k.2.2.2.2.2.2.2.2.2.2.1
theorem dX6_open_21 : decode cX6_open 21 = .ok (.invokestatic 22, 3) := dX6_open_0_k.2.2.2.2.2.2.2.2.2.2.2.1
theorem dX6_open_24 : decode cX6_open 24 = .ok (.aload_n 0, 1) := dX6_open_0_k.2.2.2.2.2.2.2.2.2.2.2.2.1
theorem dX6_open_25 : decode cX6_open 25 = .ok (.getfield 15, 3) := dX6_open_0_k.2.2.2.2.2.2.2.2.2.2.2.2.2.1
theorem dX6_open_28 : decode cX6_open 28 = .ok (.iconst 1, 1) := dX6_open_0_k.2.2.2.2.2.2.2.2.2.2.2.2.2.2.1
theorem dX6_open_29 : decode cX6_open 29 = .ok (.aload_n 0, 1) := dX6_open_0_k.2.2.2.2.2.2.2.2.2.2.2.2.2.2.2
theorem dX6_open_30_k : decode cX6_open 30 = .ok (.getfield 15, 3) ∧ decode cX6_open 33 = .ok (.iconst 0, 1) ∧ decode cX6_open 34 = .ok (.bipush 14, 2) ∧ decode cX6_open 36 = .ok (.invokestatic 22, 3) ∧ decode cX6_open 39 = .ok (.aload_n 0, 1) ∧ decode cX6_open 40 = .ok (.bipush 14, 2) ∧ decode cX6_open 42 = .ok (.putfield 18, 3) ∧ decode cX6_open 45 = .ok (.aload_n 0, 1) ∧ decode cX6_open 46 = .ok (.getfield 18, 3) ∧ decode cX6_open 49 = .ok (.ifCond .lt 33, 3) ∧ decode cX6_open 52 = .ok (.aload_n 0, 1) ∧ decode cX6_open 53 = .ok (.getfield 9, 3) ∧ decode cX6_open 56 = .ok (.aload_n 0, 1) ∧ decode cX6_open 57 = .ok (.getfield 18, 3) ∧ decode cX6_open 60 = .ok (.iconst 0, 1) ∧ decode cX6_open 61 = .ok (.iastore, 1) := by decide +kernel
theorem dX6_open_30 : decode cX6_open 30 = .ok (.getfield 15, 3) := dX6_open_30_k.1
theorem dX6_open_33 : decode cX6_open 33 = .ok (.iconst 0, 1) := dX6_open_30_k.2.1
theorem dX6_open_34 : decode cX6_open 34 = .ok (.bipush 14, 2) := dX6_open_30_k.2.2.1
theorem dX6_open_36 : decode cX6_open 36 = .ok (.invokestatic 22, 3) := dX6_open_30_k.2.2.2.1
theorem dX6_open_39 : decode cX6_open 39 = .ok (.aload_n 0, 1) := dX6_open_30_k.2.2.2.2.1
theorem dX6_open_40 : decode cX6_open 40 = .ok (.bipush 14, 2) := dX6_open_30_k.2.2.2.2.2.1
theorem dX6_open_42 : decode cX6_open 42 = .ok (.putfield 18, 3) := dX6_open_30_k.2.2.2.2.2.2.1
theorem dX6_open_45 : decode cX6_open 45 = .ok (.aload_n 0, 1) := dX6_open_30_k.2.2.2.2.2.2.2.1
theorem dX6_open_46 : decode cX6_open 46 = .ok (.getfield 18, 3) := dX6_open_30_k.2.2.2.2.2.2.2.2.1
theorem dX6_open_49 : decode cX6_open 49 = .ok (.ifCond .lt 33, 3) := dX6_open_30_k.2.2.2.2.2.2.2.2.2.1
theorem dX6_open_52 : decode cX6_open 52 = .ok (.aload_n 0, 1) := dX6_open_30_k.2.2.2.2.2.2.2.2.2.2.1
theorem dX6_open_53 : decode cX6_open 53 = .ok (.getfield 9, 3) := dX6_open_30_k.2.2.2.2.2.2.2.2.2.2.2.1
theorem dX6_open_56 : decode cX6_open 56 = .ok (.aload_n 0, 1) := dX6_open_30_k.2.2.2.2.2.2.2.2.2.2.2.2.1
theorem dX6_open_57 : decode cX6_open 57 = .ok (.getfield 18, 3) := dX6_open_30_k.2.2.2.2.2.2.2.2.2.2.2.2.2.1
theorem dX6_open_60 : decode cX6_open 60 = .ok (.iconst 0, 1) := dX6_open_30_k.2.2.2.2.2.2.2.2.2.2.2.2.2.2.1
theorem dX6_open_61 : decode cX6_open 61 = .ok (.iastore, 1) := dX6_open_30_k.2.2.2.2.2.2.2.2.2.2.2.2.2.2.2
theorem dX6_open_62_k : decode cX6_open 62 = .ok (.aload_n 0, 1) ∧ decode cX6_open 63 = .ok (.getfield 15, 3) ∧ decode cX6_open 66 = .ok (.aload_n 0, 1) ∧ decode cX6_open 67 = .ok (.getfield 18, 3) ∧ decode cX6_open 70 = .ok (.iconst 0, 1) ∧ decode cX6_open 71 = .ok (.iastore, 1) ∧ decode cX6_open 72 = .ok (.aload_n 0, 1) ∧ decode cX6_open 73 = .ok (.dup, 1) ∧ decode cX6_open 74 = .ok (.getfield 18, 3) ∧ decode cX6_open 77 = .ok (.iconst 1, 1) ∧ decode cX6_open 78 = .ok (.iadd, 1) ∧ decode cX6_open 79 = .ok (.putfield 18, 3) ∧ decode cX6_open 82 = .ok (.return_, 1) := by decide +kernel
theorem dX6_open_62 : decode cX6_open 62 = .ok (.aload_n 0, 1) := dX6_open_62_k.1
theorem dX6_open_63 : decode cX6_open 63 = .ok (.getfield 15, 3) := dX6_open_62_k.2.1
theorem dX6_open_66 : decode cX6_open 66 = .ok (.aload_n 0, 1) := dX6_open_62_k.2.2.1
theorem dX6_open_67 : decode cX6_open 67 = .ok (.getfield 18, 3) := dX6_open_62_k.2.2.2.1
theorem dX6_open_70 : decode cX6_open 70 = .ok (.iconst 0, 1) := dX6_open_62_k.2.2.2.2.1
theorem dX6_open_71 : decode cX6_open 71 = .ok (.iastore, 1) := dX6_open_62_k.2.2.2.2.2.1
theorem dX6_open_72 : decode cX6_open 72 = .ok (.aload_n 0, 1) := dX6_open_62_k.2.2.2.2.2.2.1
theorem dX6_open_73 : decode cX6_open 73 = .ok (.dup, 1) := dX6_open_62_k.2.2.2.2.2.2.2.1
theorem dX6_open_74 : decode cX6_open 74 = .ok (.getfield 18, 3) := dX6_open_62_k.2.2.2.2.2.2.2.2.1
theorem dX6_open_77 : decode cX6_open 77 = .ok (.iconst 1, 1) := dX6_open_62_k.2.2.2.2.2.2.2.2.2.1
theorem dX6_open_78 : decode cX6_open 78 = .ok (.iadd, 1) := dX6_open_62_k.2.2.2.2.2.2.2.2.2.2.1
theorem dX6_open_79 : decode cX6_open 79 = .ok (.putfield 18, 3) := dX6_open_62_k.2.2.2.2.2.2.2.2.2.2.2.1
theorem dX6_open_82 : decode cX6_open 82 = .ok (.return_, 1) := dX6_open_62_k.2.2.2.2.2.2.2.2.2.2.2.2
theorem dX6_append_0_k : decode cX6_append 0 = .ok (.aload_n 0, 1) ∧ decode cX6_append 1 = .ok (.getfield 18, 3) ∧ decode cX6_append 4 = .ok (.iconst 1, 1) ∧ decode cX6_append 5 = .ok (.isub, 1) ∧ decode cX6_append 6 = .ok (.istore_n 2, 1) ∧ decode cX6_append 7 = .ok (.iload_n 2, 1) ∧ decode cX6_append 8 = .ok (.ifCond .lt 47, 3) ∧ decode cX6_append 11 = .ok (.iload_n 2, 1) ∧ decode cX6_append 12 = .ok (.bipush 15, 2) ∧ decode cX6_append 14 = .ok (.if_icmp .ge 41, 3) ∧ decode cX6_append 17 = .ok (.aload_n 0, 1) ∧ decode cX6_append 18 = .ok (.getfield 15, 3) ∧ decode cX6_append 21 = .ok (.iload_n 2, 1) ∧ decode cX6_append 22 = .ok (.iaload, 1) ∧ decode cX6_append 23 = .ok (.bipush 15, 2) ∧ decode cX6_append 25 = .ok (.if_icmp .ge 30, 3) := by decide +kernel
theorem dX6_append_0 : decode cX6_append 0 = .ok (.aload_n 0, 1) := dX6_append_0_k.1
theorem dX6_append_1 : decode cX6_append 1 = .ok (.getfield 18, 3) := dX6_append_0_k.2.1
theorem dX6_append_4 : decode cX6_append 4 = .ok (.iconst 1, 1) := dX6_append_0_k.2.2.1
theorem dX6_append_5 : decode cX6_append 5 = .ok (.isub, 1) := dX6_append_0_k.2.2.2.1
theorem dX6_append_6 : decode cX6_append 6 = .ok (.istore_n 2, 1) := dX6_append_0_k.2.2.2.2.1
theorem dX6_append_7 : decode cX6_append 7 = .ok (.iload_n 2, 1) := dX6_append_0_k.2.2.2.2.2.1
theorem dX6_append_8 : decode cX6_append 8 = .ok (.ifCond .lt 47, 3) := dX6_append_0_k.2.2.2.2.2.2.1
theorem dX6_append_11 : decode cX6_append 11 = .ok (.iload_n 2, 1) := dX6_append_0_k.2.2.2.2.2.2.2.1
theorem dX6_append_12 : decode cX6_append 12 = .ok (.bipush 15, 2) := dX6_append_0_k.2.2.2.2.2.2.2.2.1
theorem dX6_append_14 : decode cX6_append 14 = .ok (.if_icmp .ge 41, 3) := dX6_append_0_k.2.2.2.2.2.2.2.2.2.1
theorem dX6_append_17 : decode cX6_append 17 = .ok (.aload_n 0, 1) := dX6_append_0_k.2.2.2.2.2.2.2.2.2.2.1
theorem dX6_append_18 : decode cX6_append 18 = .ok (.getfield 15, 3) := dX6_append_0_k.2.2.2.2.2.2.2.2.2.2.2.1
theorem dX6_append_21 : decode cX6_append 21 = .ok (.iload_n 2, 1) := dX6_append_0_k.2.2.2.2.2.2.2.2.2.2.2.2.1
theorem dX6_append_22 : decode cX6_append 22 = .ok (.iaload, 1) := dX6_append_0_k.2.2.2.2.2.2.2.2.2.2.2.2.2.1
theorem dX6_append_23 : decode cX6_append 23 = .ok (.bipush 15, 2) := dX6_append_0_k.2.2.2.2.2.2.2.2.2.2.2.2.2.2.1
theorem dX6_append_25 : decode cX6_append 25 = .ok (.if_icmp .ge 30, 3) := dX6_append_0_k.2.2.2.2.2.2.2.2.2.2.2.2.2.2.2
theorem dX6_append_28_k : decode cX6_append 28 = .ok (.aload_n 0, 1) ∧ decode cX6_append 29 = .ok (.getfield 9, 3) ∧ decode cX6_append 32 = .ok (.iload_n 2, 1) ∧ decode cX6_append 33 = .ok (.dup2, 1) ∧ decode cX6_append 34 = .ok (.iaload, 1) ∧ decode cX6_append 35 = .ok (.iload_n 1, 1) ∧ decode cX6_append 36 = .ok (.aload_n 0, 1) ∧ decode cX6_append 37 = .ok (.getfield 15, 3) ∧ decode cX6_append 40 = .ok (.iload_n 2, 1) ∧ decode cX6_append 41 = .ok (.iaload, 1) ∧ decode cX6_append 42 = .ok (.ishl, 1) ∧ decode cX6_append 43 = .ok (.ior, 1) ∧ decode cX6_append 44 = .ok (.iastore, 1) ∧ decode cX6_append 45 = .ok (.aload_n 0, 1) ∧ decode cX6_append 46 = .ok (.getfield 15, 3) ∧ decode cX6_append 49 = .ok (.iload_n 2, 1) := by decide +kernel
theorem dX6_append_28 : decode cX6_append 28 = .ok (.aload_n 0, 1) := dX6_append_28_k.1
theorem dX6_append_29 : decode cX6_append 29 = .ok (.getfield 9, 3) := dX6_append_28_k.2.1
theorem dX6_append_32 : decode cX6_append 32 = .ok (.iload_n 2, 1) := dX6_append_28_k.2.2.1
theorem dX6_append_33 : decode cX6_append 33 = .ok (.dup2, 1) := dX6_append_28_k.2.2.2.1
theorem dX6_append_34 : decode cX6_append 34 = .ok (.iaload, 1) := dX6_append_28_k.2.2.2.2.1
theorem dX6_append_35 : decode cX6_append 35 = .ok (.iload_n 1, 1) := dX6_append_28_k.2.2.2.2.2.1
theorem dX6_append_36 : decode cX6_append 36 = .ok (.aload_n 0, 1) := dX6_append_28_k.2.2.2.2.2.2.1
theorem dX6_append_37 : decode cX6_append 37 = .ok (.getfield 15, 3) := dX6_append_28_k.2.2.2.2.2.2.2.1
theorem dX6_append_40 : decode cX6_append 40 = .ok (.iload_n 2, 1) := dX6_append_28_k.2.2.2.2.2.2.2.2.1
theorem dX6_append_41 : decode cX6_append 41 = .ok (.iaload, 1) := dX6_append_28_k.2.2.2.2.2.2.2.2.2.1
theorem dX6_append_42 : decode cX6_append 42 = .ok (.ishl, 1) := dX6_append_28_k.2.2.2.2.2.2.2.2.2.2.1
theorem dX6_append_43 : decode cX6_append 43 = .ok (.ior, 1) := dX6_append_28_k.2.2.2.2.2.2.2.2.2.2.2.1
theorem dX6_append_44 : decode cX6_append 44 = .ok (.iastore, 1) := dX6_append_28_k.2.2.2.2.2.2.2.2.2.2.2.2.1
theorem dX6_append_45 : decode cX6_append 45 = .ok (.aload_n 0, 1) := dX6_append_28_k.2.2.2.2.2.2.2.2.2.2.2.2.2.1
theorem dX6_append_46 : decode cX6_append 46 = .ok (.getfield 15, 3) := dX6_append_28_k.2.2.2.2.2.2.2.2.2.2.2.2.2.2.1
theorem dX6_append_49 : decode cX6_append 49 = .ok (.iload_n 2, 1) := dX6_append_28_k.2.2.2.2.2.2.2.2.2.2.2.2.2.2.2
theorem dX6_append_50_k : decode cX6_append 50 = .ok (.dup2, 1) ∧ decode cX6_append 51 = .ok (.iaload, 1) ∧ decode cX6_append 52 = .ok (.iconst 1, 1) ∧ decode cX6_append 53 = .ok (.iadd, 1) ∧ decode cX6_append 54 = .ok (.iastore, 1) ∧ decode cX6_append 55 = .ok (.return_, 1) := by decide +kernel
theorem dX6_append_50 : decode cX6_append 50 = .ok (.dup2, 1) := dX6_append_50_k.1
theorem dX6_append_51 : decode cX6_append 51 = .ok (.iaload, 1) := dX6_append_50_k.2.1
theorem dX6_append_52 : decode cX6_append 52 = .ok (.iconst 1, 1) := dX6_append_50_k.2.2.1
theorem dX6_append_53 : decode cX6_append 53 = .ok (.iadd, 1) := dX6_append_50_k.2.2.2.1
theorem dX6_append_54 : decode cX6_append 54 = .ok (.iastore, 1) := dX6_append_50_k.2.2.2.2.1
theorem dX6_append_55 : decode cX6_append 55 = .ok (.return_, 1) := dX6_append_50_k.2.2.2.2.2
theorem dX6_has_0_k : decode cX6_has 0 = .ok (.iload_n 1, 1) ∧ decode cX6_has 1 = .ok (.ifCond .lt 21, 3) ∧ decode cX6_has 4 = .ok (.iload_n 1, 1) ∧ decode cX6_has 5 = .ok (.aload_n 0, 1) ∧ decode cX6_has 6 = .ok (.getfield 18, 3) ∧ decode cX6_has 9 = .ok (.if_icmp .ge 13, 3) ∧ decode cX6_has 12 = .ok (.iload_n 1, 1) ∧ decode cX6_has 13 = .ok (.bipush 15, 2) ∧ decode cX6_has 15 = .ok (.if_icmp .ge 7, 3) ∧ decode cX6_has 18 = .ok (.iconst 1, 1) ∧ decode cX6_has 19 = .ok (.goto 4, 3) ∧ decode cX6_has 22 = .ok (.iconst 0, 1) ∧ decode cX6_has 23 = .ok (.ireturn, 1) := by decide +kernel
theorem dX6_has_0 : decode cX6_has 0 = .ok (.iload_n 1, 1) := dX6_has_0_k.1
theorem dX6_has_1 : decode cX6_has 1 = .ok (.ifCond .lt 21, 3) := dX6_has_0_k.2.1
theorem dX6_has_4 : decode cX6_has 4 = .ok (.iload_n 1, 1) := dX6_has_0_k.2.2.1
theorem dX6_has_5 : decode cX6_has 5 = .ok (.aload_n 0, 1) := dX6_has_0_k.2.2.2.1
theorem dX6_has_6 : decode cX6_has 6 = .ok (.getfield 18, 3) := dX6_has_0_k.2.2.2.2.1
theorem dX6_has_9 : decode cX6_has 9 = .ok (.if_icmp .ge 13, 3) := dX6_has_0_k.2.2.2.2.2.1
theorem dX6_has_12 : decode cX6_has 12 = .ok (.iload_n 1, 1) := dX6_has_0_k.2.2.2.2.2.2.1
theorem dX6_has_13 : decode cX6_has 13 = .ok (.bipush 15, 2) := dX6_has_0_k.2.2.2.2.2.2.2.1
theorem dX6_has_15 : decode cX6_has 15 = .ok (.if_icmp .ge 7, 3) := dX6_has_0_k.2.2.2.2.2.2.2.2.1
theorem dX6_has_18 : decode cX6_has 18 = .ok (.iconst 1, 1) := dX6_has_0_k.2.2.2.2.2.2.2.2.2.1
theorem dX6_has_19 : decode cX6_has 19 = .ok (.goto 4, 3) := dX6_has_0_k.2.2.2.2.2.2.2.2.2.2.1
theorem dX6_has_22 : decode cX6_has 22 = .ok (.iconst 0, 1) := dX6_has_0_k.2.2.2.2.2.2.2.2.2.2.2.1
theorem dX6_has_23 : decode cX6_has 23 = .ok (.ireturn, 1) := dX6_has_0_k.2.2.2.2.2.2.2.2.2.2.2.2
theorem dX6_lengthOf_0_k : decode cX6_lengthOf 0 = .ok (.aload_n 0, 1) ∧ decode cX6_lengthOf 1 = .ok (.iload_n 1, 1) ∧ decode cX6_lengthOf 2 = .ok (.invokevirtual 28, 3) ∧ decode cX6_lengthOf 5 = .ok (.ifCond .eq 12, 3) ∧ decode cX6_lengthOf 8 = .ok (.aload_n 0, 1) ∧ decode cX6_lengthOf 9 = .ok (.getfield 15, 3) ∧ decode cX6_lengthOf 12 = .ok (.iload_n 1, 1) ∧ decode cX6_lengthOf 13 = .ok (.iaload, 1) ∧ decode cX6_lengthOf 14 = .ok (.goto 4, 3) ∧ decode cX6_lengthOf 17 = .ok (.iconst (-1), 1) ∧ decode cX6_lengthOf 18 = .ok (.ireturn, 1) := by decide +kernel
theorem dX6_lengthOf_0 : decode cX6_lengthOf 0 = .ok (.aload_n 0, 1) := dX6_lengthOf_0_k.1
theorem dX6_lengthOf_1 : decode cX6_lengthOf 1 = .ok (.iload_n 1, 1) := dX6_lengthOf_0_k.2.1
theorem dX6_lengthOf_2 : decode cX6_lengthOf 2 = .ok (.invokevirtual 28, 3) := dX6_lengthOf_0_k.2.2.1
theorem dX6_lengthOf_5 : decode cX6_lengthOf 5 = .ok (.ifCond .eq 12, 3) := dX6_lengthOf_0_k.2.2.2.1
theorem dX6_lengthOf_8 : decode cX6_lengthOf 8 = .ok (.aload_n 0, 1) := dX6_lengthOf_0_k.2.2.2.2.1
theorem dX6_lengthOf_9 : decode cX6_lengthOf 9 = .ok (.getfield 15, 3) := dX6_lengthOf_0_k.2.2.2.2.2.1
theorem dX6_lengthOf_12 : decode cX6_lengthOf 12 = .ok (.iload_n 1, 1) := dX6_lengthOf_0_k.2.2.2.2.2.2.1
theorem dX6_lengthOf_13 : decode cX6_lengthOf 13 = .ok (.iaload, 1) := dX6_lengthOf_0_k.2.2.2.2.2.2.2.1
theorem dX6_lengthOf_14 : decode cX6_lengthOf 14 = .ok (.goto 4, 3) := dX6_lengthOf_0_k.2.2.2.2.2.2.2.2.1
theorem dX6_lengthOf_17 : decode cX6_lengthOf 17 = .ok (.iconst (-1), 1) := dX6_lengthOf_0_k.2.2.2.2.2.2.2.2.2.1
theorem dX6_lengthOf_18 : decode cX6_lengthOf 18 = .ok (.ireturn, 1) := dX6_lengthOf_0_k.2.2.2.2.2.2.2.2.2.2
theorem dX6_sampleOf_0_k : decode cX6_sampleOf 0 = .ok (.aload_n 0, 1) ∧ decode cX6_sampleOf 1 = .ok (.iload_n 1, 1) ∧ decode cX6_sampleOf 2 = .ok (.invokevirtual 28, 3) ∧ decode cX6_sampleOf 5 = .ok (.ifCond .eq 30, 3) ∧ decode cX6_sampleOf 8 = .ok (.iload_n 2, 1) ∧ decode cX6_sampleOf 9 = .ok (.ifCond .lt 26, 3) ∧ decode cX6_sampleOf 12 = .ok (.iload_n 2, 1) ∧ decode cX6_sampleOf 13 = .ok (.aload_n 0, 1) ∧ decode cX6_sampleOf 14 = .ok (.getfield 15, 3) ∧ decode cX6_sampleOf 17 = .ok (.iload_n 1, 1) ∧ decode cX6_sampleOf 18 = .ok (.iaload, 1) ∧ decode cX6_sampleOf 19 = .ok (.if_icmp .ge 16, 3) ∧ decode cX6_sampleOf 22 = .ok (.aload_n 0, 1) ∧ decode cX6_sampleOf 23 = .ok (.getfield 9, 3) ∧ decode cX6_sampleOf 26 = .ok (.iload_n 1, 1) ∧ decode cX6_sampleOf 27 = .ok (.iaload, 1) := by decide +kernel
theorem dX6_sampleOf_0 : decode cX6_sampleOf 0 = .ok (.aload_n 0, 1) := dX6_sampleOf_0_k.1
theorem dX6_sampleOf_1 : decode cX6_sampleOf 1 = .ok (.iload_n 1, 1) := dX6_sampleOf_0_k.2.1
theorem dX6_sampleOf_2 : decode cX6_sampleOf 2 = .ok (.invokevirtual 28, 3) := dX6_sampleOf_0_k.2.2.1
theorem dX6_sampleOf_5 : decode cX6_sampleOf 5 = .ok (.ifCond .eq 30, 3) := dX6_sampleOf_0_k.2.2.2.1
theorem dX6_sampleOf_8 : decode cX6_sampleOf 8 = .ok (.iload_n 2, 1) := dX6_sampleOf_0_k.2.2.2.2.1
theorem dX6_sampleOf_9 : decode cX6_sampleOf 9 = .ok (.ifCond .lt 26, 3) := dX6_sampleOf_0_k.2.2.2.2.2.1
theorem dX6_sampleOf_12 : decode cX6_sampleOf 12 = .ok (.iload_n 2, 1) := dX6_sampleOf_0_k.2.2.2.2.2.2.1
theorem dX6_sampleOf_13 : decode cX6_sampleOf 13 = .ok (.aload_n 0, 1) := dX6_sampleOf_0_k.2.2.2.2.2.2.2.1
theorem dX6_sampleOf_14 : decode cX6_sampleOf 14 = .ok (.getfield 15, 3) := dX6_sampleOf_0_k.2.2.2.2.2.2.2.2.1
theorem dX6_sampleOf_17 : decode cX6_sampleOf 17 = .ok (.iload_n 1, 1) := dX6_sampleOf_0_k.2.2.2.2.2.2.2.2.2.1
theorem dX6_sampleOf_18 : decode cX6_sampleOf 18 = .ok (.iaload, 1) := dX6_sampleOf_0_k.2.2.2.2.2.2.2.2.2.2.1
theorem dX6_sampleOf_19 : decode cX6_sampleOf 19 = .ok (.if_icmp .ge 16, 3) := dX6_sampleOf_0_k.2.2.2.2.2.2.2.2.2.2.2.1
theorem dX6_sampleOf_22 : decode cX6_sampleOf 22 = .ok (.aload_n 0, 1) := dX6_sampleOf_0_k.2.2.2.2.2.2.2.2.2.2.2.2.1
theorem dX6_sampleOf_23 : decode cX6_sampleOf 23 = .ok (.getfield 9, 3) := dX6_sampleOf_0_k.2.2.2.2.2.2.2.2.2.2.2.2.2.1
theorem dX6_sampleOf_26 : decode cX6_sampleOf 26 = .ok (.iload_n 1, 1) := dX6_sampleOf_0_k.2.2.2.2.2.2.2.2.2.2.2.2.2.2.1
theorem dX6_sampleOf_27 : decode cX6_sampleOf 27 = .ok (.iaload, 1) := dX6_sampleOf_0_k.2.2.2.2.2.2.2.2.2.2.2.2.2.2.2
theorem dX6_sampleOf_28_k : decode cX6_sampleOf 28 = .ok (.iload_n 2, 1) ∧ decode cX6_sampleOf 29 = .ok (.iushr, 1) ∧ decode cX6_sampleOf 30 = .ok (.iconst 1, 1) ∧ decode cX6_sampleOf 31 = .ok (.iand, 1) ∧ decode cX6_sampleOf 32 = .ok (.goto 4, 3) ∧ decode cX6_sampleOf 35 = .ok (.iconst (-1), 1) ∧ decode cX6_sampleOf 36 = .ok (.ireturn, 1) := by decide +kernel
theorem dX6_sampleOf_28 : decode cX6_sampleOf 28 = .ok (.iload_n 2, 1) := dX6_sampleOf_28_k.1
theorem dX6_sampleOf_29 : decode cX6_sampleOf 29 = .ok (.iushr, 1) := dX6_sampleOf_28_k.2.1
theorem dX6_sampleOf_30 : decode cX6_sampleOf 30 = .ok (.iconst 1, 1) := dX6_sampleOf_28_k.2.2.1
theorem dX6_sampleOf_31 : decode cX6_sampleOf 31 = .ok (.iand, 1) := dX6_sampleOf_28_k.2.2.2.1
theorem dX6_sampleOf_32 : decode cX6_sampleOf 32 = .ok (.goto 4, 3) := dX6_sampleOf_28_k.2.2.2.2.1
theorem dX6_sampleOf_35 : decode cX6_sampleOf 35 = .ok (.iconst (-1), 1) := dX6_sampleOf_28_k.2.2.2.2.2.1
theorem dX6_sampleOf_36 : decode cX6_sampleOf 36 = .ok (.ireturn, 1) := dX6_sampleOf_28_k.2.2.2.2.2.2
theorem dX6_isFull_0_k : decode cX6_isFull 0 = .ok (.aload_n 0, 1) ∧ decode cX6_isFull 1 = .ok (.iload_n 1, 1) ∧ decode cX6_isFull 2 = .ok (.invokevirtual 32, 3) ∧ decode cX6_isFull 5 = .ok (.bipush 15, 2) ∧ decode cX6_isFull 7 = .ok (.if_icmp .ne 7, 3) ∧ decode cX6_isFull 10 = .ok (.iconst 1, 1) ∧ decode cX6_isFull 11 = .ok (.goto 4, 3) ∧ decode cX6_isFull 14 = .ok (.iconst 0, 1) ∧ decode cX6_isFull 15 = .ok (.ireturn, 1) := by decide +kernel
theorem dX6_isFull_0 : decode cX6_isFull 0 = .ok (.aload_n 0, 1) := dX6_isFull_0_k.1
theorem dX6_isFull_1 : decode cX6_isFull 1 = .ok (.iload_n 1, 1) := dX6_isFull_0_k.2.1
theorem dX6_isFull_2 : decode cX6_isFull 2 = .ok (.invokevirtual 32, 3) := dX6_isFull_0_k.2.2.1
theorem dX6_isFull_5 : decode cX6_isFull 5 = .ok (.bipush 15, 2) := dX6_isFull_0_k.2.2.2.1
theorem dX6_isFull_7 : decode cX6_isFull 7 = .ok (.if_icmp .ne 7, 3) := dX6_isFull_0_k.2.2.2.2.1
theorem dX6_isFull_10 : decode cX6_isFull 10 = .ok (.iconst 1, 1) := dX6_isFull_0_k.2.2.2.2.2.1
theorem dX6_isFull_11 : decode cX6_isFull 11 = .ok (.goto 4, 3) := dX6_isFull_0_k.2.2.2.2.2.2.1
theorem dX6_isFull_14 : decode cX6_isFull 14 = .ok (.iconst 0, 1) := dX6_isFull_0_k.2.2.2.2.2.2.2.1
theorem dX6_isFull_15 : decode cX6_isFull 15 = .ok (.ireturn, 1) := dX6_isFull_0_k.2.2.2.2.2.2.2.2
theorem dX6_full_0_k : decode cX6_full 0 = .ok (.iconst 0, 1) ∧ decode cX6_full 1 = .ok (.istore_n 1, 1) ∧ decode cX6_full 2 = .ok (.iconst 0, 1) ∧ decode cX6_full 3 = .ok (.istore_n 2, 1) ∧ decode cX6_full 4 = .ok (.iload_n 2, 1) ∧ decode cX6_full 5 = .ok (.bipush 15, 2) ∧ decode cX6_full 7 = .ok (.if_icmp .ge 20, 3) ∧ decode cX6_full 10 = .ok (.aload_n 0, 1) ∧ decode cX6_full 11 = .ok (.iload_n 2, 1) ∧ decode cX6_full 12 = .ok (.invokevirtual 36, 3) ∧ decode cX6_full 15 = .ok (.ifCond .eq 6, 3) ∧ decode cX6_full 18 = .ok (.iinc 1 1, 3) ∧ decode cX6_full 21 = .ok (.iinc 2 1, 3) ∧ decode cX6_full 24 = .ok (.goto (-20), 3) ∧ decode cX6_full 27 = .ok (.iload_n 1, 1) ∧ decode cX6_full 28 = .ok (.ireturn, 1) := by decide +kernel
theorem dX6_full_0 : decode cX6_full 0 = .ok (.iconst 0, 1) := dX6_full_0_k.1
theorem dX6_full_1 : decode cX6_full 1 = .ok (.istore_n 1, 1) := dX6_full_0_k.2.1
theorem dX6_full_2 : decode cX6_full 2 = .ok (.iconst 0, 1) := dX6_full_0_k.2.2.1
theorem dX6_full_3 : decode cX6_full 3 = .ok (.istore_n 2, 1) := dX6_full_0_k.2.2.2.1
theorem dX6_full_4 : decode cX6_full 4 = .ok (.iload_n 2, 1) := dX6_full_0_k.2.2.2.2.1
theorem dX6_full_5 : decode cX6_full 5 = .ok (.bipush 15, 2) := dX6_full_0_k.2.2.2.2.2.1
theorem dX6_full_7 : decode cX6_full 7 = .ok (.if_icmp .ge 20, 3) := dX6_full_0_k.2.2.2.2.2.2.1
theorem dX6_full_10 : decode cX6_full 10 = .ok (.aload_n 0, 1) := dX6_full_0_k.2.2.2.2.2.2.2.1
theorem dX6_full_11 : decode cX6_full 11 = .ok (.iload_n 2, 1) := dX6_full_0_k.2.2.2.2.2.2.2.2.1
theorem dX6_full_12 : decode cX6_full 12 = .ok (.invokevirtual 36, 3) := dX6_full_0_k.2.2.2.2.2.2.2.2.2.1
theorem dX6_full_15 : decode cX6_full 15 = .ok (.ifCond .eq 6, 3) := dX6_full_0_k.2.2.2.2.2.2.2.2.2.2.1
theorem dX6_full_18 : decode cX6_full 18 = .ok (.iinc 1 1, 3) := dX6_full_0_k.2.2.2.2.2.2.2.2.2.2.2.1
theorem dX6_full_21 : decode cX6_full 21 = .ok (.iinc 2 1, 3) := dX6_full_0_k.2.2.2.2.2.2.2.2.2.2.2.2.1
theorem dX6_full_24 : decode cX6_full 24 = .ok (.goto (-20), 3) := dX6_full_0_k.2.2.2.2.2.2.2.2.2.2.2.2.2.1
theorem dX6_full_27 : decode cX6_full 27 = .ok (.iload_n 1, 1) := dX6_full_0_k.2.2.2.2.2.2.2.2.2.2.2.2.2.2.1
theorem dX6_full_28 : decode cX6_full 28 = .ok (.ireturn, 1) := dX6_full_0_k.2.2.2.2.2.2.2.2.2.2.2.2.2.2.2
theorem dX6_moreOfRow_0_k : decode cX6_moreOfRow 0 = .ok (.aload_n 0, 1) ∧ decode cX6_moreOfRow 1 = .ok (.iload_n 1, 1) ∧ decode cX6_moreOfRow 2 = .ok (.invokevirtual 28, 3) ∧ decode cX6_moreOfRow 5 = .ok (.ifCond .eq 11, 3) ∧ decode cX6_moreOfRow 8 = .ok (.aload_n 0, 1) ∧ decode cX6_moreOfRow 9 = .ok (.iload_n 1, 1) ∧ decode cX6_moreOfRow 10 = .ok (.invokevirtual 36, 3) ∧ decode cX6_moreOfRow 13 = .ok (.ifCond .ne 5, 3) ∧ decode cX6_moreOfRow 16 = .ok (.iconst 0, 1) ∧ decode cX6_moreOfRow 17 = .ok (.ireturn, 1) ∧ decode cX6_moreOfRow 18 = .ok (.aload_n 0, 1) ∧ decode cX6_moreOfRow 19 = .ok (.getfield 9, 3) ∧ decode cX6_moreOfRow 22 = .ok (.iload_n 1, 1) ∧ decode cX6_moreOfRow 23 = .ok (.iaload, 1) ∧ decode cX6_moreOfRow 24 = .ok (.invokestatic 39, 3) ∧ decode cX6_moreOfRow 27 = .ok (.istore_n 2, 1) := by decide +kernel
theorem dX6_moreOfRow_0 : decode cX6_moreOfRow 0 = .ok (.aload_n 0, 1) := dX6_moreOfRow_0_k.1
theorem dX6_moreOfRow_1 : decode cX6_moreOfRow 1 = .ok (.iload_n 1, 1) := dX6_moreOfRow_0_k.2.1
theorem dX6_moreOfRow_2 : decode cX6_moreOfRow 2 = .ok (.invokevirtual 28, 3) := dX6_moreOfRow_0_k.2.2.1
theorem dX6_moreOfRow_5 : decode cX6_moreOfRow 5 = .ok (.ifCond .eq 11, 3) := dX6_moreOfRow_0_k.2.2.2.1
theorem dX6_moreOfRow_8 : decode cX6_moreOfRow 8 = .ok (.aload_n 0, 1) := dX6_moreOfRow_0_k.2.2.2.2.1
theorem dX6_moreOfRow_9 : decode cX6_moreOfRow 9 = .ok (.iload_n 1, 1) := dX6_moreOfRow_0_k.2.2.2.2.2.1
theorem dX6_moreOfRow_10 : decode cX6_moreOfRow 10 = .ok (.invokevirtual 36, 3) := dX6_moreOfRow_0_k.2.2.2.2.2.2.1
theorem dX6_moreOfRow_13 : decode cX6_moreOfRow 13 = .ok (.ifCond .ne 5, 3) := dX6_moreOfRow_0_k.2.2.2.2.2.2.2.1
theorem dX6_moreOfRow_16 : decode cX6_moreOfRow 16 = .ok (.iconst 0, 1) := dX6_moreOfRow_0_k.2.2.2.2.2.2.2.2.1
theorem dX6_moreOfRow_17 : decode cX6_moreOfRow 17 = .ok (.ireturn, 1) := dX6_moreOfRow_0_k.2.2.2.2.2.2.2.2.2.1
theorem dX6_moreOfRow_18 : decode cX6_moreOfRow 18 = .ok (.aload_n 0, 1) := dX6_moreOfRow_0_k.2.2.2.2.2.2.2.2.2.2.1
theorem dX6_moreOfRow_19 : decode cX6_moreOfRow 19 = .ok (.getfield 9, 3) := dX6_moreOfRow_0_k.2.2.2.2.2.2.2.2.2.2.2.1
theorem dX6_moreOfRow_22 : decode cX6_moreOfRow 22 = .ok (.iload_n 1, 1) := dX6_moreOfRow_0_k.2.2.2.2.2.2.2.2.2.2.2.2.1
theorem dX6_moreOfRow_23 : decode cX6_moreOfRow 23 = .ok (.iaload, 1) := dX6_moreOfRow_0_k.2.2.2.2.2.2.2.2.2.2.2.2.2.1
theorem dX6_moreOfRow_24 : decode cX6_moreOfRow 24 = .ok (.invokestatic 39, 3) := dX6_moreOfRow_0_k.2.2.2.2.2.2.2.2.2.2.2.2.2.2.1
theorem dX6_moreOfRow_27 : decode cX6_moreOfRow 27 = .ok (.istore_n 2, 1) := dX6_moreOfRow_0_k.2.2.2.2.2.2.2.2.2.2.2.2.2.2.2
theorem dX6_moreOfRow_28_k : decode cX6_moreOfRow 28 = .ok (.iload_n 2, 1) ∧ decode cX6_moreOfRow 29 = .ok (.bipush 15, 2) ∧ decode cX6_moreOfRow 31 = .ok (.iload_n 2, 1) ∧ decode cX6_moreOfRow 32 = .ok (.isub, 1) ∧ decode cX6_moreOfRow 33 = .ok (.invokestatic 44, 3) ∧ decode cX6_moreOfRow 36 = .ok (.ireturn, 1) := by decide +kernel
theorem dX6_moreOfRow_28 : decode cX6_moreOfRow 28 = .ok (.iload_n 2, 1) := dX6_moreOfRow_28_k.1
theorem dX6_moreOfRow_29 : decode cX6_moreOfRow 29 = .ok (.bipush 15, 2) := dX6_moreOfRow_28_k.2.1
theorem dX6_moreOfRow_31 : decode cX6_moreOfRow 31 = .ok (.iload_n 2, 1) := dX6_moreOfRow_28_k.2.2.1
theorem dX6_moreOfRow_32 : decode cX6_moreOfRow 32 = .ok (.isub, 1) := dX6_moreOfRow_28_k.2.2.2.1
theorem dX6_moreOfRow_33 : decode cX6_moreOfRow 33 = .ok (.invokestatic 44, 3) := dX6_moreOfRow_28_k.2.2.2.2.1
theorem dX6_moreOfRow_36 : decode cX6_moreOfRow 36 = .ok (.ireturn, 1) := dX6_moreOfRow_28_k.2.2.2.2.2
theorem dX6_moreOfColumn_0_k : decode cX6_moreOfColumn 0 = .ok (.iconst 0, 1) ∧ decode cX6_moreOfColumn 1 = .ok (.istore_n 2, 1) ∧ decode cX6_moreOfColumn 2 = .ok (.iconst 0, 1) ∧ decode cX6_moreOfColumn 3 = .ok (.istore_n 3, 1) ∧ decode cX6_moreOfColumn 4 = .ok (.iconst 0, 1) ∧ decode cX6_moreOfColumn 5 = .ok (.istore 4, 2) ∧ decode cX6_moreOfColumn 7 = .ok (.iload 4, 2) ∧ decode cX6_moreOfColumn 9 = .ok (.bipush 15, 2) ∧ decode cX6_moreOfColumn 11 = .ok (.if_icmp .ge 31, 3) ∧ decode cX6_moreOfColumn 14 = .ok (.aload_n 0, 1) ∧ decode cX6_moreOfColumn 15 = .ok (.iload 4, 2) ∧ decode cX6_moreOfColumn 17 = .ok (.invokevirtual 36, 3) ∧ decode cX6_moreOfColumn 20 = .ok (.ifCond .eq 16, 3) ∧ decode cX6_moreOfColumn 23 = .ok (.iinc 3 1, 3) ∧ decode cX6_moreOfColumn 26 = .ok (.iload_n 2, 1) ∧ decode cX6_moreOfColumn 27 = .ok (.aload_n 0, 1) := by decide +kernel
theorem dX6_moreOfColumn_0 : decode cX6_moreOfColumn 0 = .ok (.iconst 0, 1) := dX6_moreOfColumn_0_k.1
theorem dX6_moreOfColumn_1 : decode cX6_moreOfColumn 1 = .ok (.istore_n 2, 1) := dX6_moreOfColumn_0_k.2.1
theorem dX6_moreOfColumn_2 : decode cX6_moreOfColumn 2 = .ok (.iconst 0, 1) := dX6_moreOfColumn_0_k.2.2.1
theorem dX6_moreOfColumn_3 : decode cX6_moreOfColumn 3 = .ok (.istore_n 3, 1) := dX6_moreOfColumn_0_k.2.2.2.1
theorem dX6_moreOfColumn_4 : decode cX6_moreOfColumn 4 = .ok (.iconst 0, 1) := dX6_moreOfColumn_0_k.2.2.2.2.1
theorem dX6_moreOfColumn_5 : decode cX6_moreOfColumn 5 = .ok (.istore 4, 2) := dX6_moreOfColumn_0_k.2.2.2.2.2.1
theorem dX6_moreOfColumn_7 : decode cX6_moreOfColumn 7 = .ok (.iload 4, 2) := dX6_moreOfColumn_0_k.2.2.2.2.2.2.1
theorem dX6_moreOfColumn_9 : decode cX6_moreOfColumn 9 = .ok (.bipush 15, 2) := dX6_moreOfColumn_0_k.2.2.2.2.2.2.2.1
theorem dX6_moreOfColumn_11 : decode cX6_moreOfColumn 11 = .ok (.if_icmp .ge 31, 3) := dX6_moreOfColumn_0_k.2.2.2.2.2.2.2.2.1
theorem dX6_moreOfColumn_14 : decode cX6_moreOfColumn 14 = .ok (.aload_n 0, 1) := dX6_moreOfColumn_0_k.2.2.2.2.2.2.2.2.2.1
theorem dX6_moreOfColumn_15 : decode cX6_moreOfColumn 15 = .ok (.iload 4, 2) := dX6_moreOfColumn_0_k.2.2.2.2.2.2.2.2.2.2.1
theorem dX6_moreOfColumn_17 : decode cX6_moreOfColumn 17 = .ok (.invokevirtual 36, 3) := dX6_moreOfColumn_0_k.2.2.2.2.2.2.2.2.2.2.2.1
theorem dX6_moreOfColumn_20 : decode cX6_moreOfColumn 20 = .ok (.ifCond .eq 16, 3) := dX6_moreOfColumn_0_k.2.2.2.2.2.2.2.2.2.2.2.2.1
theorem dX6_moreOfColumn_23 : decode cX6_moreOfColumn 23 = .ok (.iinc 3 1, 3) := dX6_moreOfColumn_0_k.2.2.2.2.2.2.2.2.2.2.2.2.2.1
theorem dX6_moreOfColumn_26 : decode cX6_moreOfColumn 26 = .ok (.iload_n 2, 1) := dX6_moreOfColumn_0_k.2.2.2.2.2.2.2.2.2.2.2.2.2.2.1
theorem dX6_moreOfColumn_27 : decode cX6_moreOfColumn 27 = .ok (.aload_n 0, 1) := dX6_moreOfColumn_0_k.2.2.2.2.2.2.2.2.2.2.2.2.2.2.2
theorem dX6_moreOfColumn_28_k : decode cX6_moreOfColumn 28 = .ok (.iload 4, 2) ∧ decode cX6_moreOfColumn 30 = .ok (.iload_n 1, 1) ∧ decode cX6_moreOfColumn 31 = .ok (.invokevirtual 50, 3) ∧ decode cX6_moreOfColumn 34 = .ok (.iadd, 1) ∧ decode cX6_moreOfColumn 35 = .ok (.istore_n 2, 1) ∧ decode cX6_moreOfColumn 36 = .ok (.iinc 4 1, 3) ∧ decode cX6_moreOfColumn 39 = .ok (.goto (-32), 3) ∧ decode cX6_moreOfColumn 42 = .ok (.iload_n 3, 1) ∧ decode cX6_moreOfColumn 43 = .ok (.iconst 2, 1) ∧ decode cX6_moreOfColumn 44 = .ok (.if_icmp .ge 7, 3) ∧ decode cX6_moreOfColumn 47 = .ok (.iconst 0, 1) ∧ decode cX6_moreOfColumn 48 = .ok (.goto 10, 3) ∧ decode cX6_moreOfColumn 51 = .ok (.iload_n 2, 1) ∧ decode cX6_moreOfColumn 52 = .ok (.iload_n 3, 1) ∧ decode cX6_moreOfColumn 53 = .ok (.iload_n 2, 1) ∧ decode cX6_moreOfColumn 54 = .ok (.isub, 1) := by decide +kernel
theorem dX6_moreOfColumn_28 : decode cX6_moreOfColumn 28 = .ok (.iload 4, 2) := dX6_moreOfColumn_28_k.1
theorem dX6_moreOfColumn_30 : decode cX6_moreOfColumn 30 = .ok (.iload_n 1, 1) := dX6_moreOfColumn_28_k.2.1
theorem dX6_moreOfColumn_31 : decode cX6_moreOfColumn 31 = .ok (.invokevirtual 50, 3) := dX6_moreOfColumn_28_k.2.2.1
theorem dX6_moreOfColumn_34 : decode cX6_moreOfColumn 34 = .ok (.iadd, 1) := dX6_moreOfColumn_28_k.2.2.2.1
theorem dX6_moreOfColumn_35 : decode cX6_moreOfColumn 35 = .ok (.istore_n 2, 1) := dX6_moreOfColumn_28_k.2.2.2.2.1
theorem dX6_moreOfColumn_36 : decode cX6_moreOfColumn 36 = .ok (.iinc 4 1, 3) := dX6_moreOfColumn_28_k.2.2.2.2.2.1
theorem dX6_moreOfColumn_39 : decode cX6_moreOfColumn 39 = .ok (.goto (-32), 3) := dX6_moreOfColumn_28_k.2.2.2.2.2.2.1
theorem dX6_moreOfColumn_42 : decode cX6_moreOfColumn 42 = .ok (.iload_n 3, 1) := dX6_moreOfColumn_28_k.2.2.2.2.2.2.2.1
theorem dX6_moreOfColumn_43 : decode cX6_moreOfColumn 43 = .ok (.iconst 2, 1) := dX6_moreOfColumn_28_k.2.2.2.2.2.2.2.2.1
theorem dX6_moreOfColumn_44 : decode cX6_moreOfColumn 44 = .ok (.if_icmp .ge 7, 3) := dX6_moreOfColumn_28_k.2.2.2.2.2.2.2.2.2.1
theorem dX6_moreOfColumn_47 : decode cX6_moreOfColumn 47 = .ok (.iconst 0, 1) := dX6_moreOfColumn_28_k.2.2.2.2.2.2.2.2.2.2.1
theorem dX6_moreOfColumn_48 : decode cX6_moreOfColumn 48 = .ok (.goto 10, 3) := dX6_moreOfColumn_28_k.2.2.2.2.2.2.2.2.2.2.2.1
theorem dX6_moreOfColumn_51 : decode cX6_moreOfColumn 51 = .ok (.iload_n 2, 1) := dX6_moreOfColumn_28_k.2.2.2.2.2.2.2.2.2.2.2.2.1
theorem dX6_moreOfColumn_52 : decode cX6_moreOfColumn 52 = .ok (.iload_n 3, 1) := dX6_moreOfColumn_28_k.2.2.2.2.2.2.2.2.2.2.2.2.2.1
theorem dX6_moreOfColumn_53 : decode cX6_moreOfColumn 53 = .ok (.iload_n 2, 1) := dX6_moreOfColumn_28_k.2.2.2.2.2.2.2.2.2.2.2.2.2.2.1
theorem dX6_moreOfColumn_54 : decode cX6_moreOfColumn 54 = .ok (.isub, 1) := dX6_moreOfColumn_28_k.2.2.2.2.2.2.2.2.2.2.2.2.2.2.2
theorem dX6_moreOfColumn_55_k : decode cX6_moreOfColumn 55 = .ok (.invokestatic 44, 3) ∧ decode cX6_moreOfColumn 58 = .ok (.ireturn, 1) := by decide +kernel
theorem dX6_moreOfColumn_55 : decode cX6_moreOfColumn 55 = .ok (.invokestatic 44, 3) := dX6_moreOfColumn_55_k.1
theorem dX6_moreOfColumn_58 : decode cX6_moreOfColumn 58 = .ok (.ireturn, 1) := dX6_moreOfColumn_55_k.2
theorem dX6_greatestRow_0_k : decode cX6_greatestRow 0 = .ok (.iconst 0, 1) ∧ decode cX6_greatestRow 1 = .ok (.istore_n 1, 1) ∧ decode cX6_greatestRow 2 = .ok (.iconst 0, 1) ∧ decode cX6_greatestRow 3 = .ok (.istore_n 2, 1) ∧ decode cX6_greatestRow 4 = .ok (.iload_n 2, 1) ∧ decode cX6_greatestRow 5 = .ok (.bipush 15, 2) ∧ decode cX6_greatestRow 7 = .ok (.if_icmp .ge 19, 3) ∧ decode cX6_greatestRow 10 = .ok (.iload_n 1, 1) ∧ decode cX6_greatestRow 11 = .ok (.aload_n 0, 1) ∧ decode cX6_greatestRow 12 = .ok (.iload_n 2, 1) ∧ decode cX6_greatestRow 13 = .ok (.invokevirtual 53, 3) ∧ decode cX6_greatestRow 16 = .ok (.invokestatic 44, 3) ∧ decode cX6_greatestRow 19 = .ok (.istore_n 1, 1) ∧ decode cX6_greatestRow 20 = .ok (.iinc 2 1, 3) ∧ decode cX6_greatestRow 23 = .ok (.goto (-19), 3) ∧ decode cX6_greatestRow 26 = .ok (.iload_n 1, 1) := by decide +kernel
theorem dX6_greatestRow_0 : decode cX6_greatestRow 0 = .ok (.iconst 0, 1) := dX6_greatestRow_0_k.1
theorem dX6_greatestRow_1 : decode cX6_greatestRow 1 = .ok (.istore_n 1, 1) := dX6_greatestRow_0_k.2.1
theorem dX6_greatestRow_2 : decode cX6_greatestRow 2 = .ok (.iconst 0, 1) := dX6_greatestRow_0_k.2.2.1
theorem dX6_greatestRow_3 : decode cX6_greatestRow 3 = .ok (.istore_n 2, 1) := dX6_greatestRow_0_k.2.2.2.1
theorem dX6_greatestRow_4 : decode cX6_greatestRow 4 = .ok (.iload_n 2, 1) := dX6_greatestRow_0_k.2.2.2.2.1
theorem dX6_greatestRow_5 : decode cX6_greatestRow 5 = .ok (.bipush 15, 2) := dX6_greatestRow_0_k.2.2.2.2.2.1
theorem dX6_greatestRow_7 : decode cX6_greatestRow 7 = .ok (.if_icmp .ge 19, 3) := dX6_greatestRow_0_k.2.2.2.2.2.2.1
theorem dX6_greatestRow_10 : decode cX6_greatestRow 10 = .ok (.iload_n 1, 1) := dX6_greatestRow_0_k.2.2.2.2.2.2.2.1
theorem dX6_greatestRow_11 : decode cX6_greatestRow 11 = .ok (.aload_n 0, 1) := dX6_greatestRow_0_k.2.2.2.2.2.2.2.2.1
theorem dX6_greatestRow_12 : decode cX6_greatestRow 12 = .ok (.iload_n 2, 1) := dX6_greatestRow_0_k.2.2.2.2.2.2.2.2.2.1
theorem dX6_greatestRow_13 : decode cX6_greatestRow 13 = .ok (.invokevirtual 53, 3) := dX6_greatestRow_0_k.2.2.2.2.2.2.2.2.2.2.1
theorem dX6_greatestRow_16 : decode cX6_greatestRow 16 = .ok (.invokestatic 44, 3) := dX6_greatestRow_0_k.2.2.2.2.2.2.2.2.2.2.2.1
theorem dX6_greatestRow_19 : decode cX6_greatestRow 19 = .ok (.istore_n 1, 1) := dX6_greatestRow_0_k.2.2.2.2.2.2.2.2.2.2.2.2.1
theorem dX6_greatestRow_20 : decode cX6_greatestRow 20 = .ok (.iinc 2 1, 3) := dX6_greatestRow_0_k.2.2.2.2.2.2.2.2.2.2.2.2.2.1
theorem dX6_greatestRow_23 : decode cX6_greatestRow 23 = .ok (.goto (-19), 3) := dX6_greatestRow_0_k.2.2.2.2.2.2.2.2.2.2.2.2.2.2.1
theorem dX6_greatestRow_26 : decode cX6_greatestRow 26 = .ok (.iload_n 1, 1) := dX6_greatestRow_0_k.2.2.2.2.2.2.2.2.2.2.2.2.2.2.2
theorem dX6_greatestRow_27 : decode cX6_greatestRow 27 = .ok (.ireturn, 1) := by decide +kernel
theorem dX6_greatestColumn_0_k : decode cX6_greatestColumn 0 = .ok (.iconst 0, 1) ∧ decode cX6_greatestColumn 1 = .ok (.istore_n 1, 1) ∧ decode cX6_greatestColumn 2 = .ok (.iconst 0, 1) ∧ decode cX6_greatestColumn 3 = .ok (.istore_n 2, 1) ∧ decode cX6_greatestColumn 4 = .ok (.iload_n 2, 1) ∧ decode cX6_greatestColumn 5 = .ok (.bipush 15, 2) ∧ decode cX6_greatestColumn 7 = .ok (.if_icmp .ge 19, 3) ∧ decode cX6_greatestColumn 10 = .ok (.iload_n 1, 1) ∧ decode cX6_greatestColumn 11 = .ok (.aload_n 0, 1) ∧ decode cX6_greatestColumn 12 = .ok (.iload_n 2, 1) ∧ decode cX6_greatestColumn 13 = .ok (.invokevirtual 56, 3) ∧ decode cX6_greatestColumn 16 = .ok (.invokestatic 44, 3) ∧ decode cX6_greatestColumn 19 = .ok (.istore_n 1, 1) ∧ decode cX6_greatestColumn 20 = .ok (.iinc 2 1, 3) ∧ decode cX6_greatestColumn 23 = .ok (.goto (-19), 3) ∧ decode cX6_greatestColumn 26 = .ok (.iload_n 1, 1) := by decide +kernel
theorem dX6_greatestColumn_0 : decode cX6_greatestColumn 0 = .ok (.iconst 0, 1) := dX6_greatestColumn_0_k.1
theorem dX6_greatestColumn_1 : decode cX6_greatestColumn 1 = .ok (.istore_n 1, 1) := dX6_greatestColumn_0_k.2.1
theorem dX6_greatestColumn_2 : decode cX6_greatestColumn 2 = .ok (.iconst 0, 1) := dX6_greatestColumn_0_k.2.2.1
theorem dX6_greatestColumn_3 : decode cX6_greatestColumn 3 = .ok (.istore_n 2, 1) := dX6_greatestColumn_0_k.2.2.2.1
theorem dX6_greatestColumn_4 : decode cX6_greatestColumn 4 = .ok (.iload_n 2, 1) := dX6_greatestColumn_0_k.2.2.2.2.1
theorem dX6_greatestColumn_5 : decode cX6_greatestColumn 5 = .ok (.bipush 15, 2) := dX6_greatestColumn_0_k.2.2.2.2.2.1
theorem dX6_greatestColumn_7 : decode cX6_greatestColumn 7 = .ok (.if_icmp .ge 19, 3) := dX6_greatestColumn_0_k.2.2.2.2.2.2.1
theorem dX6_greatestColumn_10 : decode cX6_greatestColumn 10 = .ok (.iload_n 1, 1) := dX6_greatestColumn_0_k.2.2.2.2.2.2.2.1
theorem dX6_greatestColumn_11 : decode cX6_greatestColumn 11 = .ok (.aload_n 0, 1) := dX6_greatestColumn_0_k.2.2.2.2.2.2.2.2.1
theorem dX6_greatestColumn_12 : decode cX6_greatestColumn 12 = .ok (.iload_n 2, 1) := dX6_greatestColumn_0_k.2.2.2.2.2.2.2.2.2.1
theorem dX6_greatestColumn_13 : decode cX6_greatestColumn 13 = .ok (.invokevirtual 56, 3) := dX6_greatestColumn_0_k.2.2.2.2.2.2.2.2.2.2.1
theorem dX6_greatestColumn_16 : decode cX6_greatestColumn 16 = .ok (.invokestatic 44, 3) := dX6_greatestColumn_0_k.2.2.2.2.2.2.2.2.2.2.2.1
theorem dX6_greatestColumn_19 : decode cX6_greatestColumn 19 = .ok (.istore_n 1, 1) := dX6_greatestColumn_0_k.2.2.2.2.2.2.2.2.2.2.2.2.1
theorem dX6_greatestColumn_20 : decode cX6_greatestColumn 20 = .ok (.iinc 2 1, 3) := dX6_greatestColumn_0_k.2.2.2.2.2.2.2.2.2.2.2.2.2.1
theorem dX6_greatestColumn_23 : decode cX6_greatestColumn 23 = .ok (.goto (-19), 3) := dX6_greatestColumn_0_k.2.2.2.2.2.2.2.2.2.2.2.2.2.2.1
theorem dX6_greatestColumn_26 : decode cX6_greatestColumn 26 = .ok (.iload_n 1, 1) := dX6_greatestColumn_0_k.2.2.2.2.2.2.2.2.2.2.2.2.2.2.2
theorem dX6_greatestColumn_27 : decode cX6_greatestColumn 27 = .ok (.ireturn, 1) := by decide +kernel
theorem dX6_rowsAbove_0_k : decode cX6_rowsAbove 0 = .ok (.iconst 0, 1) ∧ decode cX6_rowsAbove 1 = .ok (.istore_n 2, 1) ∧ decode cX6_rowsAbove 2 = .ok (.iconst 0, 1) ∧ decode cX6_rowsAbove 3 = .ok (.istore_n 3, 1) ∧ decode cX6_rowsAbove 4 = .ok (.iload_n 3, 1) ∧ decode cX6_rowsAbove 5 = .ok (.bipush 15, 2) ∧ decode cX6_rowsAbove 7 = .ok (.if_icmp .ge 24, 3) ∧ decode cX6_rowsAbove 10 = .ok (.aload_n 0, 1) ∧ decode cX6_rowsAbove 11 = .ok (.iload_n 3, 1) ∧ decode cX6_rowsAbove 12 = .ok (.invokevirtual 53, 3) ∧ decode cX6_rowsAbove 15 = .ok (.iload_n 1, 1) ∧ decode cX6_rowsAbove 16 = .ok (.if_icmp .le 9, 3) ∧ decode cX6_rowsAbove 19 = .ok (.iload_n 2, 1) ∧ decode cX6_rowsAbove 20 = .ok (.iconst 1, 1) ∧ decode cX6_rowsAbove 21 = .ok (.iload_n 3, 1) ∧ decode cX6_rowsAbove 22 = .ok (.ishl, 1) := by decide +kernel
theorem dX6_rowsAbove_0 : decode cX6_rowsAbove 0 = .ok (.iconst 0, 1) := dX6_rowsAbove_0_k.1
theorem dX6_rowsAbove_1 : decode cX6_rowsAbove 1 = .ok (.istore_n 2, 1) := dX6_rowsAbove_0_k.2.1
theorem dX6_rowsAbove_2 : decode cX6_rowsAbove 2 = .ok (.iconst 0, 1) := dX6_rowsAbove_0_k.2.2.1
theorem dX6_rowsAbove_3 : decode cX6_rowsAbove 3 = .ok (.istore_n 3, 1) := dX6_rowsAbove_0_k.2.2.2.1
theorem dX6_rowsAbove_4 : decode cX6_rowsAbove 4 = .ok (.iload_n 3, 1) := dX6_rowsAbove_0_k.2.2.2.2.1
theorem dX6_rowsAbove_5 : decode cX6_rowsAbove 5 = .ok (.bipush 15, 2) := dX6_rowsAbove_0_k.2.2.2.2.2.1
theorem dX6_rowsAbove_7 : decode cX6_rowsAbove 7 = .ok (.if_icmp .ge 24, 3) := dX6_rowsAbove_0_k.2.2.2.2.2.2.1
theorem dX6_rowsAbove_10 : decode cX6_rowsAbove 10 = .ok (.aload_n 0, 1) := dX6_rowsAbove_0_k.2.2.2.2.2.2.2.1
theorem dX6_rowsAbove_11 : decode cX6_rowsAbove 11 = .ok (.iload_n 3, 1) := dX6_rowsAbove_0_k.2.2.2.2.2.2.2.2.1
theorem dX6_rowsAbove_12 : decode cX6_rowsAbove 12 = .ok (.invokevirtual 53, 3) := dX6_rowsAbove_0_k.2.2.2.2.2.2.2.2.2.1
theorem dX6_rowsAbove_15 : decode cX6_rowsAbove 15 = .ok (.iload_n 1, 1) := dX6_rowsAbove_0_k.2.2.2.2.2.2.2.2.2.2.1
theorem dX6_rowsAbove_16 : decode cX6_rowsAbove 16 = .ok (.if_icmp .le 9, 3) := dX6_rowsAbove_0_k.2.2.2.2.2.2.2.2.2.2.2.1
theorem dX6_rowsAbove_19 : decode cX6_rowsAbove 19 = .ok (.iload_n 2, 1) := dX6_rowsAbove_0_k.2.2.2.2.2.2.2.2.2.2.2.2.1
theorem dX6_rowsAbove_20 : decode cX6_rowsAbove 20 = .ok (.iconst 1, 1) := dX6_rowsAbove_0_k.2.2.2.2.2.2.2.2.2.2.2.2.2.1
theorem dX6_rowsAbove_21 : decode cX6_rowsAbove 21 = .ok (.iload_n 3, 1) := dX6_rowsAbove_0_k.2.2.2.2.2.2.2.2.2.2.2.2.2.2.1
theorem dX6_rowsAbove_22 : decode cX6_rowsAbove 22 = .ok (.ishl, 1) := dX6_rowsAbove_0_k.2.2.2.2.2.2.2.2.2.2.2.2.2.2.2
theorem dX6_rowsAbove_23_k : decode cX6_rowsAbove 23 = .ok (.ior, 1) ∧ decode cX6_rowsAbove 24 = .ok (.istore_n 2, 1) ∧ decode cX6_rowsAbove 25 = .ok (.iinc 3 1, 3) ∧ decode cX6_rowsAbove 28 = .ok (.goto (-24), 3) ∧ decode cX6_rowsAbove 31 = .ok (.iload_n 2, 1) ∧ decode cX6_rowsAbove 32 = .ok (.ireturn, 1) := by decide +kernel
theorem dX6_rowsAbove_23 : decode cX6_rowsAbove 23 = .ok (.ior, 1) := dX6_rowsAbove_23_k.1
theorem dX6_rowsAbove_24 : decode cX6_rowsAbove 24 = .ok (.istore_n 2, 1) := dX6_rowsAbove_23_k.2.1
theorem dX6_rowsAbove_25 : decode cX6_rowsAbove 25 = .ok (.iinc 3 1, 3) := dX6_rowsAbove_23_k.2.2.1
theorem dX6_rowsAbove_28 : decode cX6_rowsAbove 28 = .ok (.goto (-24), 3) := dX6_rowsAbove_23_k.2.2.2.1
theorem dX6_rowsAbove_31 : decode cX6_rowsAbove 31 = .ok (.iload_n 2, 1) := dX6_rowsAbove_23_k.2.2.2.2.1
theorem dX6_rowsAbove_32 : decode cX6_rowsAbove 32 = .ok (.ireturn, 1) := dX6_rowsAbove_23_k.2.2.2.2.2
theorem dX6_columnsAbove_0_k : decode cX6_columnsAbove 0 = .ok (.iconst 0, 1) ∧ decode cX6_columnsAbove 1 = .ok (.istore_n 2, 1) ∧ decode cX6_columnsAbove 2 = .ok (.iconst 0, 1) ∧ decode cX6_columnsAbove 3 = .ok (.istore_n 3, 1) ∧ decode cX6_columnsAbove 4 = .ok (.iload_n 3, 1) ∧ decode cX6_columnsAbove 5 = .ok (.bipush 15, 2) ∧ decode cX6_columnsAbove 7 = .ok (.if_icmp .ge 24, 3) ∧ decode cX6_columnsAbove 10 = .ok (.aload_n 0, 1) ∧ decode cX6_columnsAbove 11 = .ok (.iload_n 3, 1) ∧ decode cX6_columnsAbove 12 = .ok (.invokevirtual 56, 3) ∧ decode cX6_columnsAbove 15 = .ok (.iload_n 1, 1) ∧ decode cX6_columnsAbove 16 = .ok (.if_icmp .le 9, 3) ∧ decode cX6_columnsAbove 19 = .ok (.iload_n 2, 1) ∧ decode cX6_columnsAbove 20 = .ok (.iconst 1, 1) ∧ decode cX6_columnsAbove 21 = .ok (.iload_n 3, 1) ∧ decode cX6_columnsAbove 22 = .ok (.ishl, 1) := by decide +kernel
theorem dX6_columnsAbove_0 : decode cX6_columnsAbove 0 = .ok (.iconst 0, 1) := dX6_columnsAbove_0_k.1
theorem dX6_columnsAbove_1 : decode cX6_columnsAbove 1 = .ok (.istore_n 2, 1) := dX6_columnsAbove_0_k.2.1
theorem dX6_columnsAbove_2 : decode cX6_columnsAbove 2 = .ok (.iconst 0, 1) := dX6_columnsAbove_0_k.2.2.1
theorem dX6_columnsAbove_3 : decode cX6_columnsAbove 3 = .ok (.istore_n 3, 1) := dX6_columnsAbove_0_k.2.2.2.1
theorem dX6_columnsAbove_4 : decode cX6_columnsAbove 4 = .ok (.iload_n 3, 1) := dX6_columnsAbove_0_k.2.2.2.2.1
theorem dX6_columnsAbove_5 : decode cX6_columnsAbove 5 = .ok (.bipush 15, 2) := dX6_columnsAbove_0_k.2.2.2.2.2.1
theorem dX6_columnsAbove_7 : decode cX6_columnsAbove 7 = .ok (.if_icmp .ge 24, 3) := dX6_columnsAbove_0_k.2.2.2.2.2.2.1
theorem dX6_columnsAbove_10 : decode cX6_columnsAbove 10 = .ok (.aload_n 0, 1) := dX6_columnsAbove_0_k.2.2.2.2.2.2.2.1
theorem dX6_columnsAbove_11 : decode cX6_columnsAbove 11 = .ok (.iload_n 3, 1) := dX6_columnsAbove_0_k.2.2.2.2.2.2.2.2.1
theorem dX6_columnsAbove_12 : decode cX6_columnsAbove 12 = .ok (.invokevirtual 56, 3) := dX6_columnsAbove_0_k.2.2.2.2.2.2.2.2.2.1
theorem dX6_columnsAbove_15 : decode cX6_columnsAbove 15 = .ok (.iload_n 1, 1) := dX6_columnsAbove_0_k.2.2.2.2.2.2.2.2.2.2.1
theorem dX6_columnsAbove_16 : decode cX6_columnsAbove 16 = .ok (.if_icmp .le 9, 3) := dX6_columnsAbove_0_k.2.2.2.2.2.2.2.2.2.2.2.1
theorem dX6_columnsAbove_19 : decode cX6_columnsAbove 19 = .ok (.iload_n 2, 1) := dX6_columnsAbove_0_k.2.2.2.2.2.2.2.2.2.2.2.2.1
theorem dX6_columnsAbove_20 : decode cX6_columnsAbove 20 = .ok (.iconst 1, 1) := dX6_columnsAbove_0_k.2.2.2.2.2.2.2.2.2.2.2.2.2.1
theorem dX6_columnsAbove_21 : decode cX6_columnsAbove 21 = .ok (.iload_n 3, 1) := dX6_columnsAbove_0_k.2.2.2.2.2.2.2.2.2.2.2.2.2.2.1
theorem dX6_columnsAbove_22 : decode cX6_columnsAbove 22 = .ok (.ishl, 1) := dX6_columnsAbove_0_k.2.2.2.2.2.2.2.2.2.2.2.2.2.2.2
theorem dX6_columnsAbove_23_k : decode cX6_columnsAbove 23 = .ok (.ior, 1) ∧ decode cX6_columnsAbove 24 = .ok (.istore_n 2, 1) ∧ decode cX6_columnsAbove 25 = .ok (.iinc 3 1, 3) ∧ decode cX6_columnsAbove 28 = .ok (.goto (-24), 3) ∧ decode cX6_columnsAbove 31 = .ok (.iload_n 2, 1) ∧ decode cX6_columnsAbove 32 = .ok (.ireturn, 1) := by decide +kernel
theorem dX6_columnsAbove_23 : decode cX6_columnsAbove 23 = .ok (.ior, 1) := dX6_columnsAbove_23_k.1
theorem dX6_columnsAbove_24 : decode cX6_columnsAbove 24 = .ok (.istore_n 2, 1) := dX6_columnsAbove_23_k.2.1
theorem dX6_columnsAbove_25 : decode cX6_columnsAbove 25 = .ok (.iinc 3 1, 3) := dX6_columnsAbove_23_k.2.2.1
theorem dX6_columnsAbove_28 : decode cX6_columnsAbove 28 = .ok (.goto (-24), 3) := dX6_columnsAbove_23_k.2.2.2.1
theorem dX6_columnsAbove_31 : decode cX6_columnsAbove 31 = .ok (.iload_n 2, 1) := dX6_columnsAbove_23_k.2.2.2.2.1
theorem dX6_columnsAbove_32 : decode cX6_columnsAbove 32 = .ok (.ireturn, 1) := dX6_columnsAbove_23_k.2.2.2.2.2
theorem dX6_copyFrom_0_k : decode cX6_copyFrom 0 = .ok (.aload_n 1, 1) ∧ decode cX6_copyFrom 1 = .ok (.getfield 9, 3) ∧ decode cX6_copyFrom 4 = .ok (.iconst 0, 1) ∧ decode cX6_copyFrom 5 = .ok (.aload_n 0, 1) ∧ decode cX6_copyFrom 6 = .ok (.getfield 9, 3) ∧ decode cX6_copyFrom 9 = .ok (.iconst 0, 1) ∧ decode cX6_copyFrom 10 = .ok (.bipush 15, 2) ∧ decode cX6_copyFrom 12 = .ok (.invokestatic 22, 3) ∧ decode cX6_copyFrom 15 = .ok (.aload_n 1, 1) ∧ decode cX6_copyFrom 16 = .ok (.getfield 15, 3) ∧ decode cX6_copyFrom 19 = .ok (.iconst 0, 1) ∧ decode cX6_copyFrom 20 = .ok (.aload_n 0, 1) ∧ decode cX6_copyFrom 21 = .ok (.getfield 15, 3) ∧ decode cX6_copyFrom 24 = .ok (.iconst 0, 1) ∧ decode cX6_copyFrom 25 = .ok (.bipush 15, 2) ∧ decode cX6_copyFrom 27 = .ok (.invokestatic 22, 3) := by decide +kernel
theorem dX6_copyFrom_0 : decode cX6_copyFrom 0 = .ok (.aload_n 1, 1) := dX6_copyFrom_0_k.1
theorem dX6_copyFrom_1 : decode cX6_copyFrom 1 = .ok (.getfield 9, 3) := dX6_copyFrom_0_k.2.1
theorem dX6_copyFrom_4 : decode cX6_copyFrom 4 = .ok (.iconst 0, 1) := dX6_copyFrom_0_k.2.2.1
theorem dX6_copyFrom_5 : decode cX6_copyFrom 5 = .ok (.aload_n 0, 1) := dX6_copyFrom_0_k.2.2.2.1
theorem dX6_copyFrom_6 : decode cX6_copyFrom 6 = .ok (.getfield 9, 3) := dX6_copyFrom_0_k.2.2.2.2.1
theorem dX6_copyFrom_9 : decode cX6_copyFrom 9 = .ok (.iconst 0, 1) := dX6_copyFrom_0_k.2.2.2.2.2.1
theorem dX6_copyFrom_10 : decode cX6_copyFrom 10 = .ok (.bipush 15, 2) := dX6_copyFrom_0_k.2.2.2.2.2.2.1
theorem dX6_copyFrom_12 : decode cX6_copyFrom 12 = .ok (.invokestatic 22, 3) := dX6_copyFrom_0_k.2.2.2.2.2.2.2.1
theorem dX6_copyFrom_15 : decode cX6_copyFrom 15 = .ok (.aload_n 1, 1) := dX6_copyFrom_0_k.2.2.2.2.2.2.2.2.1
theorem dX6_copyFrom_16 : decode cX6_copyFrom 16 = .ok (.getfield 15, 3) := dX6_copyFrom_0_k.2.2.2.2.2.2.2.2.2.1
theorem dX6_copyFrom_19 : decode cX6_copyFrom 19 = .ok (.iconst 0, 1) := dX6_copyFrom_0_k.2.2.2.2.2.2.2.2.2.2.1
theorem dX6_copyFrom_20 : decode cX6_copyFrom 20 = .ok (.aload_n 0, 1) := dX6_copyFrom_0_k.2.2.2.2.2.2.2.2.2.2.2.1
theorem dX6_copyFrom_21 : decode cX6_copyFrom 21 = .ok (.getfield 15, 3) := dX6_copyFrom_0_k.2.2.2.2.2.2.2.2.2.2.2.2.1
theorem dX6_copyFrom_24 : decode cX6_copyFrom 24 = .ok (.iconst 0, 1) := dX6_copyFrom_0_k.2.2.2.2.2.2.2.2.2.2.2.2.2.1
theorem dX6_copyFrom_25 : decode cX6_copyFrom 25 = .ok (.bipush 15, 2) := dX6_copyFrom_0_k.2.2.2.2.2.2.2.2.2.2.2.2.2.2.1
theorem dX6_copyFrom_27 : decode cX6_copyFrom 27 = .ok (.invokestatic 22, 3) := dX6_copyFrom_0_k.2.2.2.2.2.2.2.2.2.2.2.2.2.2.2
theorem dX6_copyFrom_30_k : decode cX6_copyFrom 30 = .ok (.aload_n 0, 1) ∧ decode cX6_copyFrom 31 = .ok (.aload_n 1, 1) ∧ decode cX6_copyFrom 32 = .ok (.getfield 18, 3) ∧ decode cX6_copyFrom 35 = .ok (.putfield 18, 3) ∧ decode cX6_copyFrom 38 = .ok (.return_, 1) := by decide +kernel
theorem dX6_copyFrom_30 : decode cX6_copyFrom 30 = .ok (.aload_n 0, 1) := dX6_copyFrom_30_k.1
theorem dX6_copyFrom_31 : decode cX6_copyFrom 31 = .ok (.aload_n 1, 1) := dX6_copyFrom_30_k.2.1
theorem dX6_copyFrom_32 : decode cX6_copyFrom 32 = .ok (.getfield 18, 3) := dX6_copyFrom_30_k.2.2.1
theorem dX6_copyFrom_35 : decode cX6_copyFrom 35 = .ok (.putfield 18, 3) := dX6_copyFrom_30_k.2.2.2.1
theorem dX6_copyFrom_38 : decode cX6_copyFrom 38 = .ok (.return_, 1) := dX6_copyFrom_30_k.2.2.2.2
theorem dX7_init_0_k : decode cX7_init 0 = .ok (.aload_n 0, 1) ∧ decode cX7_init 1 = .ok (.invokespecial 3, 3) ∧ decode cX7_init 4 = .ok (.aload_n 0, 1) ∧ decode cX7_init 5 = .ok (.getstatic 9, 3) ∧ decode cX7_init 8 = .ok (.invokevirtual 13, 3) ∧ decode cX7_init 11 = .ok (.checkcast 14, 3) ∧ decode cX7_init 14 = .ok (.putfield 18, 3) ∧ decode cX7_init 17 = .ok (.aload_n 0, 1) ∧ decode cX7_init 18 = .ok (.iconst 4, 1) ∧ decode cX7_init 19 = .ok (.newarray .int, 2) ∧ decode cX7_init 21 = .ok (.putfield 23, 3) ∧ decode cX7_init 24 = .ok (.aload_n 0, 1) ∧ decode cX7_init 25 = .ok (.iconst 4, 1) ∧ decode cX7_init 26 = .ok (.newarray .int, 2) ∧ decode cX7_init 28 = .ok (.putfield 26, 3) ∧ decode cX7_init 31 = .ok (.aload_n 0, 1) := by decide +kernel
theorem dX7_init_0 : decode cX7_init 0 = .ok (.aload_n 0, 1) := dX7_init_0_k.1
theorem dX7_init_1 : decode cX7_init 1 = .ok (.invokespecial 3, 3) := dX7_init_0_k.2.1
theorem dX7_init_4 : decode cX7_init 4 = .ok (.aload_n 0, 1) := dX7_init_0_k.2.2.1
theorem dX7_init_5 : decode cX7_init 5 = .ok (.getstatic 9, 3) := dX7_init_0_k.2.2.2.1
theorem dX7_init_8 : decode cX7_init 8 = .ok (.invokevirtual 13, 3) := dX7_init_0_k.2.2.2.2.1
theorem dX7_init_11 : decode cX7_init 11 = .ok (.checkcast 14, 3) := dX7_init_0_k.2.2.2.2.2.1
theorem dX7_init_14 : decode cX7_init 14 = .ok (.putfield 18, 3) := dX7_init_0_k.2.2.2.2.2.2.1
theorem dX7_init_17 : decode cX7_init 17 = .ok (.aload_n 0, 1) := dX7_init_0_k.2.2.2.2.2.2.2.1
theorem dX7_init_18 : decode cX7_init 18 = .ok (.iconst 4, 1) := dX7_init_0_k.2.2.2.2.2.2.2.2.1
theorem dX7_init_19 : decode cX7_init 19 = .ok (.newarray .int, 2) := dX7_init_0_k.2.2.2.2.2.2.2.2.2.1
theorem dX7_init_21 : decode cX7_init 21 = .ok (.putfield 23, 3) := dX7_init_0_k.2.2.2.2.2.2.2.2.2.2.1
theorem dX7_init_24 : decode cX7_init 24 = .ok (.aload_n 0, 1) := dX7_init_0_k.2.2.2.2.2.2.2.2.2.2.2.1
theorem dX7_init_25 : decode cX7_init 25 = .ok (.iconst 4, 1) := dX7_init_0_k.2.2.2.2.2.2.2.2.2.2.2.2.1
theorem dX7_init_26 : decode cX7_init 26 = .ok (.newarray .int, 2) := dX7_init_0_k.2.2.2.2.2.2.2.2.2.2.2.2.2.1
theorem dX7_init_28 : decode cX7_init 28 = .ok (.putfield 26, 3) := dX7_init_0_k.2.2.2.2.2.2.2.2.2.2.2.2.2.2.1
theorem dX7_init_31 : decode cX7_init 31 = .ok (.aload_n 0, 1) := dX7_init_0_k.2.2.2.2.2.2.2.2.2.2.2.2.2.2.2
theorem dX7_init_32_k : decode cX7_init 32 = .ok (.iconst 4, 1) ∧ decode cX7_init 33 = .ok (.newarray .int, 2) ∧ decode cX7_init 35 = .ok (.putfield 29, 3) ∧ decode cX7_init 38 = .ok (.aload_n 0, 1) ∧ decode cX7_init 39 = .ok (.iconst 0, 1) ∧ decode cX7_init 40 = .ok (.putfield 32, 3) ∧ decode cX7_init 43 = .ok (.return_, 1) := by decide +kernel
theorem dX7_init_32 : decode cX7_init 32 = .ok (.iconst 4, 1) := dX7_init_32_k.1
theorem dX7_init_33 : decode cX7_init 33 = .ok (.newarray .int, 2) := dX7_init_32_k.2.1
theorem dX7_init_35 : decode cX7_init 35 = .ok (.putfield 29, 3) := dX7_init_32_k.2.2.1
theorem dX7_init_38 : decode cX7_init 38 = .ok (.aload_n 0, 1) := dX7_init_32_k.2.2.2.1
theorem dX7_init_39 : decode cX7_init 39 = .ok (.iconst 0, 1) := dX7_init_32_k.2.2.2.2.1
theorem dX7_init_40 : decode cX7_init 40 = .ok (.putfield 32, 3) := dX7_init_32_k.2.2.2.2.2.1
theorem dX7_init_43 : decode cX7_init 43 = .ok (.return_, 1) := dX7_init_32_k.2.2.2.2.2.2
theorem dX7_setFirst_0_k : decode cX7_setFirst 0 = .ok (.getstatic 9, 3) ∧ decode cX7_setFirst 3 = .ok (.iconst 0, 1) ∧ decode cX7_setFirst 4 = .ok (.aload_n 0, 1) ∧ decode cX7_setFirst 5 = .ok (.getfield 18, 3) ∧ decode cX7_setFirst 8 = .ok (.iconst 0, 1) ∧ decode cX7_setFirst 9 = .ok (.getstatic 9, 3) ∧ decode cX7_setFirst 12 = .ok (.arraylength, 1) ∧ decode cX7_setFirst 13 = .ok (.aload_n 0, 1) ∧ decode cX7_setFirst 14 = .ok (.getfield 18, 3) ∧ decode cX7_setFirst 17 = .ok (.arraylength, 1) ∧ decode cX7_setFirst 18 = .ok (.invokestatic 36, 3) ∧ decode cX7_setFirst 21 = .ok (.invokestatic 42, 3) ∧ decode cX7_setFirst 24 = .ok (.aload_n 0, 1) ∧ decode cX7_setFirst 25 = .ok (.iconst 0, 1) ∧ decode cX7_setFirst 26 = .ok (.putfield 32, 3) ∧ decode cX7_setFirst 29 = .ok (.return_, 1) := by decide +kernel
theorem dX7_setFirst_0 : decode cX7_setFirst 0 = .ok (.getstatic 9, 3) := dX7_setFirst_0_k.1
theorem dX7_setFirst_3 : decode cX7_setFirst 3 = .ok (.iconst 0, 1) := dX7_setFirst_0_k.2.1
theorem dX7_setFirst_4 : decode cX7_setFirst 4 = .ok (.aload_n 0, 1) := dX7_setFirst_0_k.2.2.1
theorem dX7_setFirst_5 : decode cX7_setFirst 5 = .ok (.getfield 18, 3) := dX7_setFirst_0_k.2.2.2.1
theorem dX7_setFirst_8 : decode cX7_setFirst 8 = .ok (.iconst 0, 1) := dX7_setFirst_0_k.2.2.2.2.1
theorem dX7_setFirst_9 : decode cX7_setFirst 9 = .ok (.getstatic 9, 3) := dX7_setFirst_0_k.2.2.2.2.2.1
theorem dX7_setFirst_12 : decode cX7_setFirst 12 = .ok (.arraylength, 1) := dX7_setFirst_0_k.2.2.2.2.2.2.1
theorem dX7_setFirst_13 : decode cX7_setFirst 13 = .ok (.aload_n 0, 1) := dX7_setFirst_0_k.2.2.2.2.2.2.2.1
theorem dX7_setFirst_14 : decode cX7_setFirst 14 = .ok (.getfield 18, 3) := dX7_setFirst_0_k.2.2.2.2.2.2.2.2.1
theorem dX7_setFirst_17 : decode cX7_setFirst 17 = .ok (.arraylength, 1) := dX7_setFirst_0_k.2.2.2.2.2.2.2.2.2.1
theorem dX7_setFirst_18 : decode cX7_setFirst 18 = .ok (.invokestatic 36, 3) := dX7_setFirst_0_k.2.2.2.2.2.2.2.2.2.2.1
theorem dX7_setFirst_21 : decode cX7_setFirst 21 = .ok (.invokestatic 42, 3) := dX7_setFirst_0_k.2.2.2.2.2.2.2.2.2.2.2.1
theorem dX7_setFirst_24 : decode cX7_setFirst 24 = .ok (.aload_n 0, 1) := dX7_setFirst_0_k.2.2.2.2.2.2.2.2.2.2.2.2.1
theorem dX7_setFirst_25 : decode cX7_setFirst 25 = .ok (.iconst 0, 1) := dX7_setFirst_0_k.2.2.2.2.2.2.2.2.2.2.2.2.2.1
theorem dX7_setFirst_26 : decode cX7_setFirst 26 = .ok (.putfield 32, 3) := dX7_setFirst_0_k.2.2.2.2.2.2.2.2.2.2.2.2.2.2.1
theorem dX7_setFirst_29 : decode cX7_setFirst 29 = .ok (.return_, 1) := dX7_setFirst_0_k.2.2.2.2.2.2.2.2.2.2.2.2.2.2.2
theorem dX7_valueOf_0_k : decode cX7_valueOf 0 = .ok (.iload_n 1, 1) ∧ decode cX7_valueOf 1 = .ok (.ifCond .lt 12, 3) ∧ decode cX7_valueOf 4 = .ok (.iload_n 1, 1) ∧ decode cX7_valueOf 5 = .ok (.aload_n 0, 1) ∧ decode cX7_valueOf 6 = .ok (.getfield 18, 3) ∧ decode cX7_valueOf 9 = .ok (.arraylength, 1) ∧ decode cX7_valueOf 10 = .ok (.if_icmp .lt 7, 3) ∧ decode cX7_valueOf 13 = .ok (.iconst 0, 1) ∧ decode cX7_valueOf 14 = .ok (.goto 9, 3) ∧ decode cX7_valueOf 17 = .ok (.aload_n 0, 1) ∧ decode cX7_valueOf 18 = .ok (.getfield 18, 3) ∧ decode cX7_valueOf 21 = .ok (.iload_n 1, 1) ∧ decode cX7_valueOf 22 = .ok (.iaload, 1) ∧ decode cX7_valueOf 23 = .ok (.ireturn, 1) := by decide +kernel
theorem dX7_valueOf_0 : decode cX7_valueOf 0 = .ok (.iload_n 1, 1) := dX7_valueOf_0_k.1
theorem dX7_valueOf_1 : decode cX7_valueOf 1 = .ok (.ifCond .lt 12, 3) := dX7_valueOf_0_k.2.1
theorem dX7_valueOf_4 : decode cX7_valueOf 4 = .ok (.iload_n 1, 1) := dX7_valueOf_0_k.2.2.1
theorem dX7_valueOf_5 : decode cX7_valueOf 5 = .ok (.aload_n 0, 1) := dX7_valueOf_0_k.2.2.2.1
theorem dX7_valueOf_6 : decode cX7_valueOf 6 = .ok (.getfield 18, 3) := dX7_valueOf_0_k.2.2.2.2.1
theorem dX7_valueOf_9 : decode cX7_valueOf 9 = .ok (.arraylength, 1) := dX7_valueOf_0_k.2.2.2.2.2.1
theorem dX7_valueOf_10 : decode cX7_valueOf 10 = .ok (.if_icmp .lt 7, 3) := dX7_valueOf_0_k.2.2.2.2.2.2.1
theorem dX7_valueOf_13 : decode cX7_valueOf 13 = .ok (.iconst 0, 1) := dX7_valueOf_0_k.2.2.2.2.2.2.2.1
theorem dX7_valueOf_14 : decode cX7_valueOf 14 = .ok (.goto 9, 3) := dX7_valueOf_0_k.2.2.2.2.2.2.2.2.1
theorem dX7_valueOf_17 : decode cX7_valueOf 17 = .ok (.aload_n 0, 1) := dX7_valueOf_0_k.2.2.2.2.2.2.2.2.2.1
theorem dX7_valueOf_18 : decode cX7_valueOf 18 = .ok (.getfield 18, 3) := dX7_valueOf_0_k.2.2.2.2.2.2.2.2.2.2.1
theorem dX7_valueOf_21 : decode cX7_valueOf 21 = .ok (.iload_n 1, 1) := dX7_valueOf_0_k.2.2.2.2.2.2.2.2.2.2.2.1
theorem dX7_valueOf_22 : decode cX7_valueOf 22 = .ok (.iaload, 1) := dX7_valueOf_0_k.2.2.2.2.2.2.2.2.2.2.2.2.1
theorem dX7_valueOf_23 : decode cX7_valueOf 23 = .ok (.ireturn, 1) := dX7_valueOf_0_k.2.2.2.2.2.2.2.2.2.2.2.2.2
theorem dX7_setValue_0_k : decode cX7_setValue 0 = .ok (.iload_n 1, 1) ∧ decode cX7_setValue 1 = .ok (.ifCond .lt 19, 3) ∧ decode cX7_setValue 4 = .ok (.iload_n 1, 1) ∧ decode cX7_setValue 5 = .ok (.aload_n 0, 1) ∧ decode cX7_setValue 6 = .ok (.getfield 18, 3) ∧ decode cX7_setValue 9 = .ok (.arraylength, 1) ∧ decode cX7_setValue 10 = .ok (.if_icmp .ge 10, 3) ∧ decode cX7_setValue 13 = .ok (.aload_n 0, 1) ∧ decode cX7_setValue 14 = .ok (.getfield 18, 3) ∧ decode cX7_setValue 17 = .ok (.iload_n 1, 1) ∧ decode cX7_setValue 18 = .ok (.iload_n 2, 1) ∧ decode cX7_setValue 19 = .ok (.iastore, 1) ∧ decode cX7_setValue 20 = .ok (.return_, 1) := by decide +kernel
theorem dX7_setValue_0 : decode cX7_setValue 0 = .ok (.iload_n 1, 1) := dX7_setValue_0_k.1
theorem dX7_setValue_1 : decode cX7_setValue 1 = .ok (.ifCond .lt 19, 3) := dX7_setValue_0_k.2.1
theorem dX7_setValue_4 : decode cX7_setValue 4 = .ok (.iload_n 1, 1) := dX7_setValue_0_k.2.2.1
theorem dX7_setValue_5 : decode cX7_setValue 5 = .ok (.aload_n 0, 1) := dX7_setValue_0_k.2.2.2.1
theorem dX7_setValue_6 : decode cX7_setValue 6 = .ok (.getfield 18, 3) := dX7_setValue_0_k.2.2.2.2.1
theorem dX7_setValue_9 : decode cX7_setValue 9 = .ok (.arraylength, 1) := dX7_setValue_0_k.2.2.2.2.2.1
theorem dX7_setValue_10 : decode cX7_setValue 10 = .ok (.if_icmp .ge 10, 3) := dX7_setValue_0_k.2.2.2.2.2.2.1
theorem dX7_setValue_13 : decode cX7_setValue 13 = .ok (.aload_n 0, 1) := dX7_setValue_0_k.2.2.2.2.2.2.2.1
theorem dX7_setValue_14 : decode cX7_setValue 14 = .ok (.getfield 18, 3) := dX7_setValue_0_k.2.2.2.2.2.2.2.2.1
theorem dX7_setValue_17 : decode cX7_setValue 17 = .ok (.iload_n 1, 1) := dX7_setValue_0_k.2.2.2.2.2.2.2.2.2.1
theorem dX7_setValue_18 : decode cX7_setValue 18 = .ok (.iload_n 2, 1) := dX7_setValue_0_k.2.2.2.2.2.2.2.2.2.2.1
theorem dX7_setValue_19 : decode cX7_setValue 19 = .ok (.iastore, 1) := dX7_setValue_0_k.2.2.2.2.2.2.2.2.2.2.2.1
theorem dX7_setValue_20 : decode cX7_setValue 20 = .ok (.return_, 1) := dX7_setValue_0_k.2.2.2.2.2.2.2.2.2.2.2.2
theorem dX7_addStuck_0_k : decode cX7_addStuck 0 = .ok (.aload_n 0, 1) ∧ decode cX7_addStuck 1 = .ok (.getfield 32, 3) ∧ decode cX7_addStuck 4 = .ok (.ifCond .lt 51, 3) ∧ decode cX7_addStuck 7 = .ok (.aload_n 0, 1) ∧ decode cX7_addStuck 8 = .ok (.getfield 32, 3) ∧ decode cX7_addStuck 11 = .ok (.iconst 4, 1) ∧ decode cX7_addStuck 12 = .ok (.if_icmp .ge 43, 3) ∧ decode cX7_addStuck 15 = .ok (.aload_n 0, 1) ∧ decode cX7_addStuck 16 = .ok (.getfield 23, 3) ∧ decode cX7_addStuck 19 = .ok (.aload_n 0, 1) ∧ decode cX7_addStuck 20 = .ok (.getfield 32, 3) ∧ decode cX7_addStuck 23 = .ok (.iload_n 1, 1) ∧ decode cX7_addStuck 24 = .ok (.iastore, 1) ∧ decode cX7_addStuck 25 = .ok (.aload_n 0, 1) ∧ decode cX7_addStuck 26 = .ok (.getfield 26, 3) ∧ decode cX7_addStuck 29 = .ok (.aload_n 0, 1) := by decide +kernel
theorem dX7_addStuck_0 : decode cX7_addStuck 0 = .ok (.aload_n 0, 1) := dX7_addStuck_0_k.1
theorem dX7_addStuck_1 : decode cX7_addStuck 1 = .ok (.getfield 32, 3) := dX7_addStuck_0_k.2.1
theorem dX7_addStuck_4 : decode cX7_addStuck 4 = .ok (.ifCond .lt 51, 3) := dX7_addStuck_0_k.2.2.1
theorem dX7_addStuck_7 : decode cX7_addStuck 7 = .ok (.aload_n 0, 1) := dX7_addStuck_0_k.2.2.2.1
theorem dX7_addStuck_8 : decode cX7_addStuck 8 = .ok (.getfield 32, 3) := dX7_addStuck_0_k.2.2.2.2.1
theorem dX7_addStuck_11 : decode cX7_addStuck 11 = .ok (.iconst 4, 1) := dX7_addStuck_0_k.2.2.2.2.2.1
theorem dX7_addStuck_12 : decode cX7_addStuck 12 = .ok (.if_icmp .ge 43, 3) := dX7_addStuck_0_k.2.2.2.2.2.2.1
theorem dX7_addStuck_15 : decode cX7_addStuck 15 = .ok (.aload_n 0, 1) := dX7_addStuck_0_k.2.2.2.2.2.2.2.1
theorem dX7_addStuck_16 : decode cX7_addStuck 16 = .ok (.getfield 23, 3) := dX7_addStuck_0_k.2.2.2.2.2.2.2.2.1
theorem dX7_addStuck_19 : decode cX7_addStuck 19 = .ok (.aload_n 0, 1) := dX7_addStuck_0_k.2.2.2.2.2.2.2.2.2.1
theorem dX7_addStuck_20 : decode cX7_addStuck 20 = .ok (.getfield 32, 3) := dX7_addStuck_0_k.2.2.2.2.2.2.2.2.2.2.1
theorem dX7_addStuck_23 : decode cX7_addStuck 23 = .ok (.iload_n 1, 1) := dX7_addStuck_0_k.2.2.2.2.2.2.2.2.2.2.2.1
theorem dX7_addStuck_24 : decode cX7_addStuck 24 = .ok (.iastore, 1) := dX7_addStuck_0_k.2.2.2.2.2.2.2.2.2.2.2.2.1
theorem dX7_addStuck_25 : decode cX7_addStuck 25 = .ok (.aload_n 0, 1) := dX7_addStuck_0_k.2.2.2.2.2.2.2.2.2.2.2.2.2.1
theorem dX7_addStuck_26 : decode cX7_addStuck 26 = .ok (.getfield 26, 3) := dX7_addStuck_0_k.2.2.2.2.2.2.2.2.2.2.2.2.2.2.1
theorem dX7_addStuck_29 : decode cX7_addStuck 29 = .ok (.aload_n 0, 1) := dX7_addStuck_0_k.2.2.2.2.2.2.2.2.2.2.2.2.2.2.2
theorem dX7_addStuck_30_k : decode cX7_addStuck 30 = .ok (.getfield 32, 3) ∧ decode cX7_addStuck 33 = .ok (.iload_n 2, 1) ∧ decode cX7_addStuck 34 = .ok (.iastore, 1) ∧ decode cX7_addStuck 35 = .ok (.aload_n 0, 1) ∧ decode cX7_addStuck 36 = .ok (.getfield 29, 3) ∧ decode cX7_addStuck 39 = .ok (.aload_n 0, 1) ∧ decode cX7_addStuck 40 = .ok (.getfield 32, 3) ∧ decode cX7_addStuck 43 = .ok (.iload_n 3, 1) ∧ decode cX7_addStuck 44 = .ok (.iastore, 1) ∧ decode cX7_addStuck 45 = .ok (.aload_n 0, 1) ∧ decode cX7_addStuck 46 = .ok (.dup, 1) ∧ decode cX7_addStuck 47 = .ok (.getfield 32, 3) ∧ decode cX7_addStuck 50 = .ok (.iconst 1, 1) ∧ decode cX7_addStuck 51 = .ok (.iadd, 1) ∧ decode cX7_addStuck 52 = .ok (.putfield 32, 3) ∧ decode cX7_addStuck 55 = .ok (.return_, 1) := by decide +kernel
theorem dX7_addStuck_30 : decode cX7_addStuck 30 = .ok (.getfield 32, 3) := dX7_addStuck_30_k.1
theorem dX7_addStuck_33 : decode cX7_addStuck 33 = .ok (.iload_n 2, 1) := dX7_addStuck_30_k.2.1
theorem dX7_addStuck_34 : decode cX7_addStuck 34 = .ok (.iastore, 1) := dX7_addStuck_30_k.2.2.1
theorem dX7_addStuck_35 : decode cX7_addStuck 35 = .ok (.aload_n 0, 1) := dX7_addStuck_30_k.2.2.2.1
theorem dX7_addStuck_36 : decode cX7_addStuck 36 = .ok (.getfield 29, 3) := dX7_addStuck_30_k.2.2.2.2.1
theorem dX7_addStuck_39 : decode cX7_addStuck 39 = .ok (.aload_n 0, 1) := dX7_addStuck_30_k.2.2.2.2.2.1
theorem dX7_addStuck_40 : decode cX7_addStuck 40 = .ok (.getfield 32, 3) := dX7_addStuck_30_k.2.2.2.2.2.2.1
theorem dX7_addStuck_43 : decode cX7_addStuck 43 = .ok (.iload_n 3, 1) := dX7_addStuck_30_k.2.2.2.2.2.2.2.1
theorem dX7_addStuck_44 : decode cX7_addStuck 44 = .ok (.iastore, 1) := dX7_addStuck_30_k.2.2.2.2.2.2.2.2.1
theorem dX7_addStuck_45 : decode cX7_addStuck 45 = .ok (.aload_n 0, 1) := dX7_addStuck_30_k.2.2.2.2.2.2.2.2.2.1
theorem dX7_addStuck_46 : decode cX7_addStuck 46 = .ok (.dup, 1) := dX7_addStuck_30_k.2.2.2.2.2.2.2.2.2.2.1
theorem dX7_addStuck_47 : decode cX7_addStuck 47 = .ok (.getfield 32, 3) := dX7_addStuck_30_k.2.2.2.2.2.2.2.2.2.2.2.1
theorem dX7_addStuck_50 : decode cX7_addStuck 50 = .ok (.iconst 1, 1) := dX7_addStuck_30_k.2.2.2.2.2.2.2.2.2.2.2.2.1
theorem dX7_addStuck_51 : decode cX7_addStuck 51 = .ok (.iadd, 1) := dX7_addStuck_30_k.2.2.2.2.2.2.2.2.2.2.2.2.2.1
theorem dX7_addStuck_52 : decode cX7_addStuck 52 = .ok (.putfield 32, 3) := dX7_addStuck_30_k.2.2.2.2.2.2.2.2.2.2.2.2.2.2.1
theorem dX7_addStuck_55 : decode cX7_addStuck 55 = .ok (.return_, 1) := dX7_addStuck_30_k.2.2.2.2.2.2.2.2.2.2.2.2.2.2.2
theorem dX7_stuckAt_0_k : decode cX7_stuckAt 0 = .ok (.aload_n 0, 1) ∧ decode cX7_stuckAt 1 = .ok (.getfield 32, 3) ∧ decode cX7_stuckAt 4 = .ok (.iconst 4, 1) ∧ decode cX7_stuckAt 5 = .ok (.invokestatic 36, 3) ∧ decode cX7_stuckAt 8 = .ok (.iconst 1, 1) ∧ decode cX7_stuckAt 9 = .ok (.isub, 1) ∧ decode cX7_stuckAt 10 = .ok (.istore_n 3, 1) ∧ decode cX7_stuckAt 11 = .ok (.iload_n 3, 1) ∧ decode cX7_stuckAt 12 = .ok (.ifCond .lt 36, 3) ∧ decode cX7_stuckAt 15 = .ok (.iload_n 1, 1) ∧ decode cX7_stuckAt 16 = .ok (.aload_n 0, 1) ∧ decode cX7_stuckAt 17 = .ok (.getfield 23, 3) ∧ decode cX7_stuckAt 20 = .ok (.iload_n 3, 1) ∧ decode cX7_stuckAt 21 = .ok (.iaload, 1) ∧ decode cX7_stuckAt 22 = .ok (.if_icmp .lt 20, 3) ∧ decode cX7_stuckAt 25 = .ok (.iload_n 1, 1) := by decide +kernel
theorem dX7_stuckAt_0 : decode cX7_stuckAt 0 = .ok (.aload_n 0, 1) := dX7_stuckAt_0_k.1
theorem dX7_stuckAt_1 : decode cX7_stuckAt 1 = .ok (.getfield 32, 3) := dX7_stuckAt_0_k.2.1
theorem dX7_stuckAt_4 : decode cX7_stuckAt 4 = .ok (.iconst 4, 1) := dX7_stuckAt_0_k.2.2.1
theorem dX7_stuckAt_5 : decode cX7_stuckAt 5 = .ok (.invokestatic 36, 3) := dX7_stuckAt_0_k.2.2.2.1
theorem dX7_stuckAt_8 : decode cX7_stuckAt 8 = .ok (.iconst 1, 1) := dX7_stuckAt_0_k.2.2.2.2.1
theorem dX7_stuckAt_9 : decode cX7_stuckAt 9 = .ok (.isub, 1) := dX7_stuckAt_0_k.2.2.2.2.2.1
theorem dX7_stuckAt_10 : decode cX7_stuckAt 10 = .ok (.istore_n 3, 1) := dX7_stuckAt_0_k.2.2.2.2.2.2.1
theorem dX7_stuckAt_11 : decode cX7_stuckAt 11 = .ok (.iload_n 3, 1) := dX7_stuckAt_0_k.2.2.2.2.2.2.2.1
theorem dX7_stuckAt_12 : decode cX7_stuckAt 12 = .ok (.ifCond .lt 36, 3) := dX7_stuckAt_0_k.2.2.2.2.2.2.2.2.1
theorem dX7_stuckAt_15 : decode cX7_stuckAt 15 = .ok (.iload_n 1, 1) := dX7_stuckAt_0_k.2.2.2.2.2.2.2.2.2.1
theorem dX7_stuckAt_16 : decode cX7_stuckAt 16 = .ok (.aload_n 0, 1) := dX7_stuckAt_0_k.2.2.2.2.2.2.2.2.2.2.1
theorem dX7_stuckAt_17 : decode cX7_stuckAt 17 = .ok (.getfield 23, 3) := dX7_stuckAt_0_k.2.2.2.2.2.2.2.2.2.2.2.1
theorem dX7_stuckAt_20 : decode cX7_stuckAt 20 = .ok (.iload_n 3, 1) := dX7_stuckAt_0_k.2.2.2.2.2.2.2.2.2.2.2.2.1
theorem dX7_stuckAt_21 : decode cX7_stuckAt 21 = .ok (.iaload, 1) := dX7_stuckAt_0_k.2.2.2.2.2.2.2.2.2.2.2.2.2.1
theorem dX7_stuckAt_22 : decode cX7_stuckAt 22 = .ok (.if_icmp .lt 20, 3) := dX7_stuckAt_0_k.2.2.2.2.2.2.2.2.2.2.2.2.2.2.1
theorem dX7_stuckAt_25 : decode cX7_stuckAt 25 = .ok (.iload_n 1, 1) := dX7_stuckAt_0_k.2.2.2.2.2.2.2.2.2.2.2.2.2.2.2
theorem dX7_stuckAt_26_k : decode cX7_stuckAt 26 = .ok (.aload_n 0, 1) ∧ decode cX7_stuckAt 27 = .ok (.getfield 26, 3) ∧ decode cX7_stuckAt 30 = .ok (.iload_n 3, 1) ∧ decode cX7_stuckAt 31 = .ok (.iaload, 1) ∧ decode cX7_stuckAt 32 = .ok (.if_icmp .gt 10, 3) ∧ decode cX7_stuckAt 35 = .ok (.aload_n 0, 1) ∧ decode cX7_stuckAt 36 = .ok (.getfield 29, 3) ∧ decode cX7_stuckAt 39 = .ok (.iload_n 3, 1) ∧ decode cX7_stuckAt 40 = .ok (.iaload, 1) ∧ decode cX7_stuckAt 41 = .ok (.ireturn, 1) ∧ decode cX7_stuckAt 42 = .ok (.iinc 3 (-1), 3) ∧ decode cX7_stuckAt 45 = .ok (.goto (-34), 3) ∧ decode cX7_stuckAt 48 = .ok (.iload_n 2, 1) ∧ decode cX7_stuckAt 49 = .ok (.ireturn, 1) := by decide +kernel
theorem dX7_stuckAt_26 : decode cX7_stuckAt 26 = .ok (.aload_n 0, 1) := dX7_stuckAt_26_k.1
theorem dX7_stuckAt_27 : decode cX7_stuckAt 27 = .ok (.getfield 26, 3) := dX7_stuckAt_26_k.2.1
theorem dX7_stuckAt_30 : decode cX7_stuckAt 30 = .ok (.iload_n 3, 1) := dX7_stuckAt_26_k.2.2.1
theorem dX7_stuckAt_31 : decode cX7_stuckAt 31 = .ok (.iaload, 1) := dX7_stuckAt_26_k.2.2.2.1
theorem dX7_stuckAt_32 : decode cX7_stuckAt 32 = .ok (.if_icmp .gt 10, 3) := dX7_stuckAt_26_k.2.2.2.2.1
theorem dX7_stuckAt_35 : decode cX7_stuckAt 35 = .ok (.aload_n 0, 1) := dX7_stuckAt_26_k.2.2.2.2.2.1
theorem dX7_stuckAt_36 : decode cX7_stuckAt 36 = .ok (.getfield 29, 3) := dX7_stuckAt_26_k.2.2.2.2.2.2.1
theorem dX7_stuckAt_39 : decode cX7_stuckAt 39 = .ok (.iload_n 3, 1) := dX7_stuckAt_26_k.2.2.2.2.2.2.2.1
theorem dX7_stuckAt_40 : decode cX7_stuckAt 40 = .ok (.iaload, 1) := dX7_stuckAt_26_k.2.2.2.2.2.2.2.2.1
theorem dX7_stuckAt_41 : decode cX7_stuckAt 41 = .ok (.ireturn, 1) := dX7_stuckAt_26_k.2.2.2.2.2.2.2.2.2.1
theorem dX7_stuckAt_42 : decode cX7_stuckAt 42 = .ok (.iinc 3 (-1), 3) := dX7_stuckAt_26_k.2.2.2.2.2.2.2.2.2.2.1
theorem dX7_stuckAt_45 : decode cX7_stuckAt 45 = .ok (.goto (-34), 3) := dX7_stuckAt_26_k.2.2.2.2.2.2.2.2.2.2.2.1
theorem dX7_stuckAt_48 : decode cX7_stuckAt 48 = .ok (.iload_n 2, 1) := dX7_stuckAt_26_k.2.2.2.2.2.2.2.2.2.2.2.2.1
theorem dX7_stuckAt_49 : decode cX7_stuckAt 49 = .ok (.ireturn, 1) := dX7_stuckAt_26_k.2.2.2.2.2.2.2.2.2.2.2.2.2
theorem dX7_earned_0_k : decode cX7_earned 0 = .ok (.bipush 9, 2) ∧ decode cX7_earned 2 = .ok (.bipush 16, 2) ∧ decode cX7_earned 4 = .ok (.aload_n 0, 1) ∧ decode cX7_earned 5 = .ok (.iconst 0, 1) ∧ decode cX7_earned 6 = .ok (.invokevirtual 48, 3) ∧ decode cX7_earned 9 = .ok (.isub, 1) ∧ decode cX7_earned 10 = .ok (.imul, 1) ∧ decode cX7_earned 11 = .ok (.ireturn, 1) := by decide +kernel
theorem dX7_earned_0 : decode cX7_earned 0 = .ok (.bipush 9, 2) := dX7_earned_0_k.1
theorem dX7_earned_2 : decode cX7_earned 2 = .ok (.bipush 16, 2) := dX7_earned_0_k.2.1
theorem dX7_earned_4 : decode cX7_earned 4 = .ok (.aload_n 0, 1) := dX7_earned_0_k.2.2.1
theorem dX7_earned_5 : decode cX7_earned 5 = .ok (.iconst 0, 1) := dX7_earned_0_k.2.2.2.1
theorem dX7_earned_6 : decode cX7_earned 6 = .ok (.invokevirtual 48, 3) := dX7_earned_0_k.2.2.2.2.1
theorem dX7_earned_9 : decode cX7_earned 9 = .ok (.isub, 1) := dX7_earned_0_k.2.2.2.2.2.1
theorem dX7_earned_10 : decode cX7_earned 10 = .ok (.imul, 1) := dX7_earned_0_k.2.2.2.2.2.2.1
theorem dX7_earned_11 : decode cX7_earned 11 = .ok (.ireturn, 1) := dX7_earned_0_k.2.2.2.2.2.2.2
theorem dX7_yielded_0_k : decode cX7_yielded 0 = .ok (.aload_n 0, 1) ∧ decode cX7_yielded 1 = .ok (.iconst 5, 1) ∧ decode cX7_yielded 2 = .ok (.invokevirtual 48, 3) ∧ decode cX7_yielded 5 = .ok (.aload_n 0, 1) ∧ decode cX7_yielded 6 = .ok (.iconst 4, 1) ∧ decode cX7_yielded 7 = .ok (.invokevirtual 48, 3) ∧ decode cX7_yielded 10 = .ok (.aload_n 0, 1) ∧ decode cX7_yielded 11 = .ok (.invokevirtual 52, 3) ∧ decode cX7_yielded 14 = .ok (.imul, 1) ∧ decode cX7_yielded 15 = .ok (.bipush 100, 2) ∧ decode cX7_yielded 17 = .ok (.idiv, 1) ∧ decode cX7_yielded 18 = .ok (.invokestatic 36, 3) ∧ decode cX7_yielded 21 = .ok (.ireturn, 1) := by decide +kernel
theorem dX7_yielded_0 : decode cX7_yielded 0 = .ok (.aload_n 0, 1) := dX7_yielded_0_k.1
theorem dX7_yielded_1 : decode cX7_yielded 1 = .ok (.iconst 5, 1) := dX7_yielded_0_k.2.1
theorem dX7_yielded_2 : decode cX7_yielded 2 = .ok (.invokevirtual 48, 3) := dX7_yielded_0_k.2.2.1
theorem dX7_yielded_5 : decode cX7_yielded 5 = .ok (.aload_n 0, 1) := dX7_yielded_0_k.2.2.2.1
theorem dX7_yielded_6 : decode cX7_yielded 6 = .ok (.iconst 4, 1) := dX7_yielded_0_k.2.2.2.2.1
theorem dX7_yielded_7 : decode cX7_yielded 7 = .ok (.invokevirtual 48, 3) := dX7_yielded_0_k.2.2.2.2.2.1
theorem dX7_yielded_10 : decode cX7_yielded 10 = .ok (.aload_n 0, 1) := dX7_yielded_0_k.2.2.2.2.2.2.1
theorem dX7_yielded_11 : decode cX7_yielded 11 = .ok (.invokevirtual 52, 3) := dX7_yielded_0_k.2.2.2.2.2.2.2.1
theorem dX7_yielded_14 : decode cX7_yielded 14 = .ok (.imul, 1) := dX7_yielded_0_k.2.2.2.2.2.2.2.2.1
theorem dX7_yielded_15 : decode cX7_yielded 15 = .ok (.bipush 100, 2) := dX7_yielded_0_k.2.2.2.2.2.2.2.2.2.1
theorem dX7_yielded_17 : decode cX7_yielded 17 = .ok (.idiv, 1) := dX7_yielded_0_k.2.2.2.2.2.2.2.2.2.2.1
theorem dX7_yielded_18 : decode cX7_yielded 18 = .ok (.invokestatic 36, 3) := dX7_yielded_0_k.2.2.2.2.2.2.2.2.2.2.2.1
theorem dX7_yielded_21 : decode cX7_yielded 21 = .ok (.ireturn, 1) := dX7_yielded_0_k.2.2.2.2.2.2.2.2.2.2.2.2
theorem dX7_copyFrom_0_k : decode cX7_copyFrom 0 = .ok (.aload_n 1, 1) ∧ decode cX7_copyFrom 1 = .ok (.getfield 18, 3) ∧ decode cX7_copyFrom 4 = .ok (.iconst 0, 1) ∧ decode cX7_copyFrom 5 = .ok (.aload_n 0, 1) ∧ decode cX7_copyFrom 6 = .ok (.getfield 18, 3) ∧ decode cX7_copyFrom 9 = .ok (.iconst 0, 1) ∧ decode cX7_copyFrom 10 = .ok (.aload_n 1, 1) ∧ decode cX7_copyFrom 11 = .ok (.getfield 18, 3) ∧ decode cX7_copyFrom 14 = .ok (.arraylength, 1) ∧ decode cX7_copyFrom 15 = .ok (.aload_n 0, 1) ∧ decode cX7_copyFrom 16 = .ok (.getfield 18, 3) ∧ decode cX7_copyFrom 19 = .ok (.arraylength, 1) ∧ decode cX7_copyFrom 20 = .ok (.invokestatic 36, 3) ∧ decode cX7_copyFrom 23 = .ok (.invokestatic 42, 3) ∧ decode cX7_copyFrom 26 = .ok (.aload_n 1, 1) ∧ decode cX7_copyFrom 27 = .ok (.getfield 23, 3) := by decide +kernel
theorem dX7_copyFrom_0 : decode cX7_copyFrom 0 = .ok (.aload_n 1, 1) := dX7_copyFrom_0_k.1
theorem dX7_copyFrom_1 : decode cX7_copyFrom 1 = .ok (.getfield 18, 3) := dX7_copyFrom_0_k.2.1
theorem dX7_copyFrom_4 : decode cX7_copyFrom 4 = .ok (.iconst 0, 1) := dX7_copyFrom_0_k.2.2.1
theorem dX7_copyFrom_5 : decode cX7_copyFrom 5 = .ok (.aload_n 0, 1) := dX7_copyFrom_0_k.2.2.2.1
theorem dX7_copyFrom_6 : decode cX7_copyFrom 6 = .ok (.getfield 18, 3) := dX7_copyFrom_0_k.2.2.2.2.1
theorem dX7_copyFrom_9 : decode cX7_copyFrom 9 = .ok (.iconst 0, 1) := dX7_copyFrom_0_k.2.2.2.2.2.1
theorem dX7_copyFrom_10 : decode cX7_copyFrom 10 = .ok (.aload_n 1, 1) := dX7_copyFrom_0_k.2.2.2.2.2.2.1
theorem dX7_copyFrom_11 : decode cX7_copyFrom 11 = .ok (.getfield 18, 3) := dX7_copyFrom_0_k.2.2.2.2.2.2.2.1
theorem dX7_copyFrom_14 : decode cX7_copyFrom 14 = .ok (.arraylength, 1) := dX7_copyFrom_0_k.2.2.2.2.2.2.2.2.1
theorem dX7_copyFrom_15 : decode cX7_copyFrom 15 = .ok (.aload_n 0, 1) := dX7_copyFrom_0_k.2.2.2.2.2.2.2.2.2.1
theorem dX7_copyFrom_16 : decode cX7_copyFrom 16 = .ok (.getfield 18, 3) := dX7_copyFrom_0_k.2.2.2.2.2.2.2.2.2.2.1
theorem dX7_copyFrom_19 : decode cX7_copyFrom 19 = .ok (.arraylength, 1) := dX7_copyFrom_0_k.2.2.2.2.2.2.2.2.2.2.2.1
theorem dX7_copyFrom_20 : decode cX7_copyFrom 20 = .ok (.invokestatic 36, 3) := dX7_copyFrom_0_k.2.2.2.2.2.2.2.2.2.2.2.2.1
theorem dX7_copyFrom_23 : decode cX7_copyFrom 23 = .ok (.invokestatic 42, 3) := dX7_copyFrom_0_k.2.2.2.2.2.2.2.2.2.2.2.2.2.1
theorem dX7_copyFrom_26 : decode cX7_copyFrom 26 = .ok (.aload_n 1, 1) := dX7_copyFrom_0_k.2.2.2.2.2.2.2.2.2.2.2.2.2.2.1
theorem dX7_copyFrom_27 : decode cX7_copyFrom 27 = .ok (.getfield 23, 3) := dX7_copyFrom_0_k.2.2.2.2.2.2.2.2.2.2.2.2.2.2.2
theorem dX7_copyFrom_30_k : decode cX7_copyFrom 30 = .ok (.iconst 0, 1) ∧ decode cX7_copyFrom 31 = .ok (.aload_n 0, 1) ∧ decode cX7_copyFrom 32 = .ok (.getfield 23, 3) ∧ decode cX7_copyFrom 35 = .ok (.iconst 0, 1) ∧ decode cX7_copyFrom 36 = .ok (.iconst 4, 1) ∧ decode cX7_copyFrom 37 = .ok (.invokestatic 42, 3) ∧ decode cX7_copyFrom 40 = .ok (.aload_n 1, 1) ∧ decode cX7_copyFrom 41 = .ok (.getfield 26, 3) ∧ decode cX7_copyFrom 44 = .ok (.iconst 0, 1) ∧ decode cX7_copyFrom 45 = .ok (.aload_n 0, 1) ∧ decode cX7_copyFrom 46 = .ok (.getfield 26, 3) ∧ decode cX7_copyFrom 49 = .ok (.iconst 0, 1) ∧ decode cX7_copyFrom 50 = .ok (.iconst 4, 1) ∧ decode cX7_copyFrom 51 = .ok (.invokestatic 42, 3) ∧ decode cX7_copyFrom 54 = .ok (.aload_n 1, 1) ∧ decode cX7_copyFrom 55 = .ok (.getfield 29, 3) := by decide +kernel
theorem dX7_copyFrom_30 : decode cX7_copyFrom 30 = .ok (.iconst 0, 1) := dX7_copyFrom_30_k.1
theorem dX7_copyFrom_31 : decode cX7_copyFrom 31 = .ok (.aload_n 0, 1) := dX7_copyFrom_30_k.2.1
theorem dX7_copyFrom_32 : decode cX7_copyFrom 32 = .ok (.getfield 23, 3) := dX7_copyFrom_30_k.2.2.1
theorem dX7_copyFrom_35 : decode cX7_copyFrom 35 = .ok (.iconst 0, 1) := dX7_copyFrom_30_k.2.2.2.1
theorem dX7_copyFrom_36 : decode cX7_copyFrom 36 = .ok (.iconst 4, 1) := dX7_copyFrom_30_k.2.2.2.2.1
theorem dX7_copyFrom_37 : decode cX7_copyFrom 37 = .ok (.invokestatic 42, 3) := dX7_copyFrom_30_k.2.2.2.2.2.1
theorem dX7_copyFrom_40 : decode cX7_copyFrom 40 = .ok (.aload_n 1, 1) := dX7_copyFrom_30_k.2.2.2.2.2.2.1
theorem dX7_copyFrom_41 : decode cX7_copyFrom 41 = .ok (.getfield 26, 3) := dX7_copyFrom_30_k.2.2.2.2.2.2.2.1
theorem dX7_copyFrom_44 : decode cX7_copyFrom 44 = .ok (.iconst 0, 1) := dX7_copyFrom_30_k.2.2.2.2.2.2.2.2.1
theorem dX7_copyFrom_45 : decode cX7_copyFrom 45 = .ok (.aload_n 0, 1) := dX7_copyFrom_30_k.2.2.2.2.2.2.2.2.2.1
theorem dX7_copyFrom_46 : decode cX7_copyFrom 46 = .ok (.getfield 26, 3) := dX7_copyFrom_30_k.2.2.2.2.2.2.2.2.2.2.1
theorem dX7_copyFrom_49 : decode cX7_copyFrom 49 = .ok (.iconst 0, 1) := dX7_copyFrom_30_k.2.2.2.2.2.2.2.2.2.2.2.1
theorem dX7_copyFrom_50 : decode cX7_copyFrom 50 = .ok (.iconst 4, 1) := dX7_copyFrom_30_k.2.2.2.2.2.2.2.2.2.2.2.2.1
theorem dX7_copyFrom_51 : decode cX7_copyFrom 51 = .ok (.invokestatic 42, 3) := dX7_copyFrom_30_k.2.2.2.2.2.2.2.2.2.2.2.2.2.1
theorem dX7_copyFrom_54 : decode cX7_copyFrom 54 = .ok (.aload_n 1, 1) := dX7_copyFrom_30_k.2.2.2.2.2.2.2.2.2.2.2.2.2.2.1
theorem dX7_copyFrom_55 : decode cX7_copyFrom 55 = .ok (.getfield 29, 3) := dX7_copyFrom_30_k.2.2.2.2.2.2.2.2.2.2.2.2.2.2.2
theorem dX7_copyFrom_58_k : decode cX7_copyFrom 58 = .ok (.iconst 0, 1) ∧ decode cX7_copyFrom 59 = .ok (.aload_n 0, 1) ∧ decode cX7_copyFrom 60 = .ok (.getfield 29, 3) ∧ decode cX7_copyFrom 63 = .ok (.iconst 0, 1) ∧ decode cX7_copyFrom 64 = .ok (.iconst 4, 1) ∧ decode cX7_copyFrom 65 = .ok (.invokestatic 42, 3) ∧ decode cX7_copyFrom 68 = .ok (.aload_n 0, 1) ∧ decode cX7_copyFrom 69 = .ok (.aload_n 1, 1) ∧ decode cX7_copyFrom 70 = .ok (.getfield 32, 3) ∧ decode cX7_copyFrom 73 = .ok (.putfield 32, 3) ∧ decode cX7_copyFrom 76 = .ok (.return_, 1) := by decide +kernel
theorem dX7_copyFrom_58 : decode cX7_copyFrom 58 = .ok (.iconst 0, 1) := dX7_copyFrom_58_k.1
theorem dX7_copyFrom_59 : decode cX7_copyFrom 59 = .ok (.aload_n 0, 1) := dX7_copyFrom_58_k.2.1
theorem dX7_copyFrom_60 : decode cX7_copyFrom 60 = .ok (.getfield 29, 3) := dX7_copyFrom_58_k.2.2.1
theorem dX7_copyFrom_63 : decode cX7_copyFrom 63 = .ok (.iconst 0, 1) := dX7_copyFrom_58_k.2.2.2.1
theorem dX7_copyFrom_64 : decode cX7_copyFrom 64 = .ok (.iconst 4, 1) := dX7_copyFrom_58_k.2.2.2.2.1
theorem dX7_copyFrom_65 : decode cX7_copyFrom 65 = .ok (.invokestatic 42, 3) := dX7_copyFrom_58_k.2.2.2.2.2.1
theorem dX7_copyFrom_68 : decode cX7_copyFrom 68 = .ok (.aload_n 0, 1) := dX7_copyFrom_58_k.2.2.2.2.2.2.1
theorem dX7_copyFrom_69 : decode cX7_copyFrom 69 = .ok (.aload_n 1, 1) := dX7_copyFrom_58_k.2.2.2.2.2.2.2.1
theorem dX7_copyFrom_70 : decode cX7_copyFrom 70 = .ok (.getfield 32, 3) := dX7_copyFrom_58_k.2.2.2.2.2.2.2.2.1
theorem dX7_copyFrom_73 : decode cX7_copyFrom 73 = .ok (.putfield 32, 3) := dX7_copyFrom_58_k.2.2.2.2.2.2.2.2.2.1
theorem dX7_copyFrom_76 : decode cX7_copyFrom 76 = .ok (.return_, 1) := dX7_copyFrom_58_k.2.2.2.2.2.2.2.2.2.2
theorem dX8_init_0_k : decode cX8_init 0 = .ok (.aload_n 0, 1) ∧ decode cX8_init 1 = .ok (.invokespecial 3, 3) ∧ decode cX8_init 4 = .ok (.aload_n 0, 1) ∧ decode cX8_init 5 = .ok (.iconst 0, 1) ∧ decode cX8_init 6 = .ok (.putfield 9, 3) ∧ decode cX8_init 9 = .ok (.aload_n 0, 1) ∧ decode cX8_init 10 = .ok (.iconst 0, 1) ∧ decode cX8_init 11 = .ok (.putfield 15, 3) ∧ decode cX8_init 14 = .ok (.aload_n 0, 1) ∧ decode cX8_init 15 = .ok (.iconst 0, 1) ∧ decode cX8_init 16 = .ok (.putfield 18, 3) ∧ decode cX8_init 19 = .ok (.return_, 1) := by decide +kernel
theorem dX8_init_0 : decode cX8_init 0 = .ok (.aload_n 0, 1) := dX8_init_0_k.1
theorem dX8_init_1 : decode cX8_init 1 = .ok (.invokespecial 3, 3) := dX8_init_0_k.2.1
theorem dX8_init_4 : decode cX8_init 4 = .ok (.aload_n 0, 1) := dX8_init_0_k.2.2.1
theorem dX8_init_5 : decode cX8_init 5 = .ok (.iconst 0, 1) := dX8_init_0_k.2.2.2.1
theorem dX8_init_6 : decode cX8_init 6 = .ok (.putfield 9, 3) := dX8_init_0_k.2.2.2.2.1
theorem dX8_init_9 : decode cX8_init 9 = .ok (.aload_n 0, 1) := dX8_init_0_k.2.2.2.2.2.1
theorem dX8_init_10 : decode cX8_init 10 = .ok (.iconst 0, 1) := dX8_init_0_k.2.2.2.2.2.2.1
theorem dX8_init_11 : decode cX8_init 11 = .ok (.putfield 15, 3) := dX8_init_0_k.2.2.2.2.2.2.2.1
theorem dX8_init_14 : decode cX8_init 14 = .ok (.aload_n 0, 1) := dX8_init_0_k.2.2.2.2.2.2.2.2.1
theorem dX8_init_15 : decode cX8_init 15 = .ok (.iconst 0, 1) := dX8_init_0_k.2.2.2.2.2.2.2.2.2.1
theorem dX8_init_16 : decode cX8_init 16 = .ok (.putfield 18, 3) := dX8_init_0_k.2.2.2.2.2.2.2.2.2.2.1
theorem dX8_init_19 : decode cX8_init 19 = .ok (.return_, 1) := dX8_init_0_k.2.2.2.2.2.2.2.2.2.2.2
theorem dX8_begin_0_k : decode cX8_begin 0 = .ok (.aload_n 0, 1) ∧ decode cX8_begin 1 = .ok (.iload_n 1, 1) ∧ decode cX8_begin 2 = .ok (.putfield 9, 3) ∧ decode cX8_begin 5 = .ok (.aload_n 0, 1) ∧ decode cX8_begin 6 = .ok (.iconst 0, 1) ∧ decode cX8_begin 7 = .ok (.putfield 15, 3) ∧ decode cX8_begin 10 = .ok (.aload_n 0, 1) ∧ decode cX8_begin 11 = .ok (.iconst 0, 1) ∧ decode cX8_begin 12 = .ok (.putfield 18, 3) ∧ decode cX8_begin 15 = .ok (.return_, 1) := by decide +kernel
theorem dX8_begin_0 : decode cX8_begin 0 = .ok (.aload_n 0, 1) := dX8_begin_0_k.1
theorem dX8_begin_1 : decode cX8_begin 1 = .ok (.iload_n 1, 1) := dX8_begin_0_k.2.1
theorem dX8_begin_2 : decode cX8_begin 2 = .ok (.putfield 9, 3) := dX8_begin_0_k.2.2.1
theorem dX8_begin_5 : decode cX8_begin 5 = .ok (.aload_n 0, 1) := dX8_begin_0_k.2.2.2.1
theorem dX8_begin_6 : decode cX8_begin 6 = .ok (.iconst 0, 1) := dX8_begin_0_k.2.2.2.2.1
theorem dX8_begin_7 : decode cX8_begin 7 = .ok (.putfield 15, 3) := dX8_begin_0_k.2.2.2.2.2.1
theorem dX8_begin_10 : decode cX8_begin 10 = .ok (.aload_n 0, 1) := dX8_begin_0_k.2.2.2.2.2.2.1
theorem dX8_begin_11 : decode cX8_begin 11 = .ok (.iconst 0, 1) := dX8_begin_0_k.2.2.2.2.2.2.2.1
theorem dX8_begin_12 : decode cX8_begin 12 = .ok (.putfield 18, 3) := dX8_begin_0_k.2.2.2.2.2.2.2.2.1
theorem dX8_begin_15 : decode cX8_begin 15 = .ok (.return_, 1) := dX8_begin_0_k.2.2.2.2.2.2.2.2.2
theorem dX8_next_0_k : decode cX8_next 0 = .ok (.aload_n 0, 1) ∧ decode cX8_next 1 = .ok (.getfield 18, 3) ∧ decode cX8_next 4 = .ok (.istore_n 2, 1) ∧ decode cX8_next 5 = .ok (.aload_n 0, 1) ∧ decode cX8_next 6 = .ok (.invokevirtual 21, 3) ∧ decode cX8_next 9 = .ok (.aload_n 1, 1) ∧ decode cX8_next 10 = .ok (.bipush 7, 2) ∧ decode cX8_next 12 = .ok (.invokevirtual 25, 3) ∧ decode cX8_next 15 = .ok (.if_icmp .lt 22, 3) ∧ decode cX8_next 18 = .ok (.aload_n 0, 1) ∧ decode cX8_next 19 = .ok (.invokevirtual 21, 3) ∧ decode cX8_next 22 = .ok (.aload_n 1, 1) ∧ decode cX8_next 23 = .ok (.bipush 6, 2) ∧ decode cX8_next 25 = .ok (.invokevirtual 25, 3) ∧ decode cX8_next 28 = .ok (.if_icmp .ge 7, 3) ∧ decode cX8_next 31 = .ok (.iconst 1, 1) := by decide +kernel
theorem dX8_next_0 : decode cX8_next 0 = .ok (.aload_n 0, 1) := dX8_next_0_k.1
theorem dX8_next_1 : decode cX8_next 1 = .ok (.getfield 18, 3) := dX8_next_0_k.2.1
theorem dX8_next_4 : decode cX8_next 4 = .ok (.istore_n 2, 1) := dX8_next_0_k.2.2.1
theorem dX8_next_5 : decode cX8_next 5 = .ok (.aload_n 0, 1) := dX8_next_0_k.2.2.2.1
theorem dX8_next_6 : decode cX8_next 6 = .ok (.invokevirtual 21, 3) := dX8_next_0_k.2.2.2.2.1
theorem dX8_next_9 : decode cX8_next 9 = .ok (.aload_n 1, 1) := dX8_next_0_k.2.2.2.2.2.1
theorem dX8_next_10 : decode cX8_next 10 = .ok (.bipush 7, 2) := dX8_next_0_k.2.2.2.2.2.2.1
theorem dX8_next_12 : decode cX8_next 12 = .ok (.invokevirtual 25, 3) := dX8_next_0_k.2.2.2.2.2.2.2.1
theorem dX8_next_15 : decode cX8_next 15 = .ok (.if_icmp .lt 22, 3) := dX8_next_0_k.2.2.2.2.2.2.2.2.1
theorem dX8_next_18 : decode cX8_next 18 = .ok (.aload_n 0, 1) := dX8_next_0_k.2.2.2.2.2.2.2.2.2.1
theorem dX8_next_19 : decode cX8_next 19 = .ok (.invokevirtual 21, 3) := dX8_next_0_k.2.2.2.2.2.2.2.2.2.2.1
theorem dX8_next_22 : decode cX8_next 22 = .ok (.aload_n 1, 1) := dX8_next_0_k.2.2.2.2.2.2.2.2.2.2.2.1
theorem dX8_next_23 : decode cX8_next 23 = .ok (.bipush 6, 2) := dX8_next_0_k.2.2.2.2.2.2.2.2.2.2.2.2.1
theorem dX8_next_25 : decode cX8_next 25 = .ok (.invokevirtual 25, 3) := dX8_next_0_k.2.2.2.2.2.2.2.2.2.2.2.2.2.1
theorem dX8_next_28 : decode cX8_next 28 = .ok (.if_icmp .ge 7, 3) := dX8_next_0_k.2.2.2.2.2.2.2.2.2.2.2.2.2.2.1
theorem dX8_next_31 : decode cX8_next 31 = .ok (.iconst 1, 1) := dX8_next_0_k.2.2.2.2.2.2.2.2.2.2.2.2.2.2.2
theorem dX8_next_32_k : decode cX8_next 32 = .ok (.goto 4, 3) ∧ decode cX8_next 35 = .ok (.iconst 0, 1) ∧ decode cX8_next 36 = .ok (.istore_n 2, 1) ∧ decode cX8_next 37 = .ok (.aload_n 0, 1) ∧ decode cX8_next 38 = .ok (.aload_n 1, 1) ∧ decode cX8_next 39 = .ok (.aload_n 0, 1) ∧ decode cX8_next 40 = .ok (.getfield 15, 3) ∧ decode cX8_next 43 = .ok (.iload_n 2, 1) ∧ decode cX8_next 44 = .ok (.invokevirtual 31, 3) ∧ decode cX8_next 47 = .ok (.putfield 18, 3) ∧ decode cX8_next 50 = .ok (.aload_n 0, 1) ∧ decode cX8_next 51 = .ok (.dup, 1) ∧ decode cX8_next 52 = .ok (.getfield 15, 3) ∧ decode cX8_next 55 = .ok (.iconst 1, 1) ∧ decode cX8_next 56 = .ok (.iadd, 1) ∧ decode cX8_next 57 = .ok (.putfield 15, 3) := by decide +kernel
theorem dX8_next_32 : decode cX8_next 32 = .ok (.goto 4, 3) := dX8_next_32_k.1
theorem dX8_next_35 : decode cX8_next 35 = .ok (.iconst 0, 1) := dX8_next_32_k.2.1
theorem dX8_next_36 : decode cX8_next 36 = .ok (.istore_n 2, 1) := dX8_next_32_k.2.2.1
theorem dX8_next_37 : decode cX8_next 37 = .ok (.aload_n 0, 1) := dX8_next_32_k.2.2.2.1
theorem dX8_next_38 : decode cX8_next 38 = .ok (.aload_n 1, 1) := dX8_next_32_k.2.2.2.2.1
theorem dX8_next_39 : decode cX8_next 39 = .ok (.aload_n 0, 1) := dX8_next_32_k.2.2.2.2.2.1
theorem dX8_next_40 : decode cX8_next 40 = .ok (.getfield 15, 3) := dX8_next_32_k.2.2.2.2.2.2.1
theorem dX8_next_43 : decode cX8_next 43 = .ok (.iload_n 2, 1) := dX8_next_32_k.2.2.2.2.2.2.2.1
theorem dX8_next_44 : decode cX8_next 44 = .ok (.invokevirtual 31, 3) := dX8_next_32_k.2.2.2.2.2.2.2.2.1
theorem dX8_next_47 : decode cX8_next 47 = .ok (.putfield 18, 3) := dX8_next_32_k.2.2.2.2.2.2.2.2.2.1
theorem dX8_next_50 : decode cX8_next 50 = .ok (.aload_n 0, 1) := dX8_next_32_k.2.2.2.2.2.2.2.2.2.2.1
theorem dX8_next_51 : decode cX8_next 51 = .ok (.dup, 1) := dX8_next_32_k.2.2.2.2.2.2.2.2.2.2.2.1
theorem dX8_next_52 : decode cX8_next 52 = .ok (.getfield 15, 3) := dX8_next_32_k.2.2.2.2.2.2.2.2.2.2.2.2.1
theorem dX8_next_55 : decode cX8_next 55 = .ok (.iconst 1, 1) := dX8_next_32_k.2.2.2.2.2.2.2.2.2.2.2.2.2.1
theorem dX8_next_56 : decode cX8_next 56 = .ok (.iadd, 1) := dX8_next_32_k.2.2.2.2.2.2.2.2.2.2.2.2.2.2.1
theorem dX8_next_57 : decode cX8_next 57 = .ok (.putfield 15, 3) := dX8_next_32_k.2.2.2.2.2.2.2.2.2.2.2.2.2.2.2
theorem dX8_next_60_k : decode cX8_next 60 = .ok (.aload_n 0, 1) ∧ decode cX8_next 61 = .ok (.getfield 18, 3) ∧ decode cX8_next 64 = .ok (.ireturn, 1) := by decide +kernel
theorem dX8_next_60 : decode cX8_next 60 = .ok (.aload_n 0, 1) := dX8_next_60_k.1
theorem dX8_next_61 : decode cX8_next 61 = .ok (.getfield 18, 3) := dX8_next_60_k.2.1
theorem dX8_next_64 : decode cX8_next 64 = .ok (.ireturn, 1) := dX8_next_60_k.2.2
theorem dX8_belowSixteen_0_k : decode cX8_belowSixteen 0 = .ok (.aload_n 0, 1) ∧ decode cX8_belowSixteen 1 = .ok (.aload_n 0, 1) ∧ decode cX8_belowSixteen 2 = .ok (.getfield 9, 3) ∧ decode cX8_belowSixteen 5 = .ok (.ldc 35, 2) ∧ decode cX8_belowSixteen 7 = .ok (.imul, 1) ∧ decode cX8_belowSixteen 8 = .ok (.sipush 12345, 3) ∧ decode cX8_belowSixteen 11 = .ok (.iadd, 1) ∧ decode cX8_belowSixteen 12 = .ok (.putfield 9, 3) ∧ decode cX8_belowSixteen 15 = .ok (.aload_n 0, 1) ∧ decode cX8_belowSixteen 16 = .ok (.getfield 9, 3) ∧ decode cX8_belowSixteen 19 = .ok (.bipush 16, 2) ∧ decode cX8_belowSixteen 21 = .ok (.iushr, 1) ∧ decode cX8_belowSixteen 22 = .ok (.bipush 16, 2) ∧ decode cX8_belowSixteen 24 = .ok (.irem, 1) ∧ decode cX8_belowSixteen 25 = .ok (.ireturn, 1) := by decide +kernel
theorem dX8_belowSixteen_0 : decode cX8_belowSixteen 0 = .ok (.aload_n 0, 1) := dX8_belowSixteen_0_k.1
theorem dX8_belowSixteen_1 : decode cX8_belowSixteen 1 = .ok (.aload_n 0, 1) := dX8_belowSixteen_0_k.2.1
theorem dX8_belowSixteen_2 : decode cX8_belowSixteen 2 = .ok (.getfield 9, 3) := dX8_belowSixteen_0_k.2.2.1
theorem dX8_belowSixteen_5 : decode cX8_belowSixteen 5 = .ok (.ldc 35, 2) := dX8_belowSixteen_0_k.2.2.2.1
theorem dX8_belowSixteen_7 : decode cX8_belowSixteen 7 = .ok (.imul, 1) := dX8_belowSixteen_0_k.2.2.2.2.1
theorem dX8_belowSixteen_8 : decode cX8_belowSixteen 8 = .ok (.sipush 12345, 3) := dX8_belowSixteen_0_k.2.2.2.2.2.1
theorem dX8_belowSixteen_11 : decode cX8_belowSixteen 11 = .ok (.iadd, 1) := dX8_belowSixteen_0_k.2.2.2.2.2.2.1
theorem dX8_belowSixteen_12 : decode cX8_belowSixteen 12 = .ok (.putfield 9, 3) := dX8_belowSixteen_0_k.2.2.2.2.2.2.2.1
theorem dX8_belowSixteen_15 : decode cX8_belowSixteen 15 = .ok (.aload_n 0, 1) := dX8_belowSixteen_0_k.2.2.2.2.2.2.2.2.1
theorem dX8_belowSixteen_16 : decode cX8_belowSixteen 16 = .ok (.getfield 9, 3) := dX8_belowSixteen_0_k.2.2.2.2.2.2.2.2.2.1
theorem dX8_belowSixteen_19 : decode cX8_belowSixteen 19 = .ok (.bipush 16, 2) := dX8_belowSixteen_0_k.2.2.2.2.2.2.2.2.2.2.1
theorem dX8_belowSixteen_21 : decode cX8_belowSixteen 21 = .ok (.iushr, 1) := dX8_belowSixteen_0_k.2.2.2.2.2.2.2.2.2.2.2.1
theorem dX8_belowSixteen_22 : decode cX8_belowSixteen 22 = .ok (.bipush 16, 2) := dX8_belowSixteen_0_k.2.2.2.2.2.2.2.2.2.2.2.2.1
theorem dX8_belowSixteen_24 : decode cX8_belowSixteen 24 = .ok (.irem, 1) := dX8_belowSixteen_0_k.2.2.2.2.2.2.2.2.2.2.2.2.2.1
theorem dX8_belowSixteen_25 : decode cX8_belowSixteen 25 = .ok (.ireturn, 1) := dX8_belowSixteen_0_k.2.2.2.2.2.2.2.2.2.2.2.2.2.2
theorem dX8_copyFrom_0_k : decode cX8_copyFrom 0 = .ok (.aload_n 0, 1) ∧ decode cX8_copyFrom 1 = .ok (.aload_n 1, 1) ∧ decode cX8_copyFrom 2 = .ok (.getfield 9, 3) ∧ decode cX8_copyFrom 5 = .ok (.putfield 9, 3) ∧ decode cX8_copyFrom 8 = .ok (.aload_n 0, 1) ∧ decode cX8_copyFrom 9 = .ok (.aload_n 1, 1) ∧ decode cX8_copyFrom 10 = .ok (.getfield 15, 3) ∧ decode cX8_copyFrom 13 = .ok (.putfield 15, 3) ∧ decode cX8_copyFrom 16 = .ok (.aload_n 0, 1) ∧ decode cX8_copyFrom 17 = .ok (.aload_n 1, 1) ∧ decode cX8_copyFrom 18 = .ok (.getfield 18, 3) ∧ decode cX8_copyFrom 21 = .ok (.putfield 18, 3) ∧ decode cX8_copyFrom 24 = .ok (.return_, 1) := by decide +kernel
theorem dX8_copyFrom_0 : decode cX8_copyFrom 0 = .ok (.aload_n 0, 1) := dX8_copyFrom_0_k.1
theorem dX8_copyFrom_1 : decode cX8_copyFrom 1 = .ok (.aload_n 1, 1) := dX8_copyFrom_0_k.2.1
theorem dX8_copyFrom_2 : decode cX8_copyFrom 2 = .ok (.getfield 9, 3) := dX8_copyFrom_0_k.2.2.1
theorem dX8_copyFrom_5 : decode cX8_copyFrom 5 = .ok (.putfield 9, 3) := dX8_copyFrom_0_k.2.2.2.1
theorem dX8_copyFrom_8 : decode cX8_copyFrom 8 = .ok (.aload_n 0, 1) := dX8_copyFrom_0_k.2.2.2.2.1
theorem dX8_copyFrom_9 : decode cX8_copyFrom 9 = .ok (.aload_n 1, 1) := dX8_copyFrom_0_k.2.2.2.2.2.1
theorem dX8_copyFrom_10 : decode cX8_copyFrom 10 = .ok (.getfield 15, 3) := dX8_copyFrom_0_k.2.2.2.2.2.2.1
theorem dX8_copyFrom_13 : decode cX8_copyFrom 13 = .ok (.putfield 15, 3) := dX8_copyFrom_0_k.2.2.2.2.2.2.2.1
theorem dX8_copyFrom_16 : decode cX8_copyFrom 16 = .ok (.aload_n 0, 1) := dX8_copyFrom_0_k.2.2.2.2.2.2.2.2.1
theorem dX8_copyFrom_17 : decode cX8_copyFrom 17 = .ok (.aload_n 1, 1) := dX8_copyFrom_0_k.2.2.2.2.2.2.2.2.2.1
theorem dX8_copyFrom_18 : decode cX8_copyFrom 18 = .ok (.getfield 18, 3) := dX8_copyFrom_0_k.2.2.2.2.2.2.2.2.2.2.1
theorem dX8_copyFrom_21 : decode cX8_copyFrom 21 = .ok (.putfield 18, 3) := dX8_copyFrom_0_k.2.2.2.2.2.2.2.2.2.2.2.1
theorem dX8_copyFrom_24 : decode cX8_copyFrom 24 = .ok (.return_, 1) := dX8_copyFrom_0_k.2.2.2.2.2.2.2.2.2.2.2.2
theorem dX9_init_0_k : decode cX9_init 0 = .ok (.aload_n 0, 1) ∧ decode cX9_init 1 = .ok (.invokespecial 3, 3) ∧ decode cX9_init 4 = .ok (.aload_n 0, 1) ∧ decode cX9_init 5 = .ok (.sipush 300, 3) ∧ decode cX9_init 8 = .ok (.newarray .int, 2) ∧ decode cX9_init 10 = .ok (.putfield 9, 3) ∧ decode cX9_init 13 = .ok (.aload_n 0, 1) ∧ decode cX9_init 14 = .ok (.iconst 0, 1) ∧ decode cX9_init 15 = .ok (.putfield 15, 3) ∧ decode cX9_init 18 = .ok (.aload_n 0, 1) ∧ decode cX9_init 19 = .ok (.iconst 0, 1) ∧ decode cX9_init 20 = .ok (.putfield 19, 3) ∧ decode cX9_init 23 = .ok (.aload_n 0, 1) ∧ decode cX9_init 24 = .ok (.iconst (-1), 1) ∧ decode cX9_init 25 = .ok (.putfield 22, 3) ∧ decode cX9_init 28 = .ok (.return_, 1) := by decide +kernel
theorem dX9_init_0 : decode cX9_init 0 = .ok (.aload_n 0, 1) := dX9_init_0_k.1
theorem dX9_init_1 : decode cX9_init 1 = .ok (.invokespecial 3, 3) := dX9_init_0_k.2.1
theorem dX9_init_4 : decode cX9_init 4 = .ok (.aload_n 0, 1) := dX9_init_0_k.2.2.1
theorem dX9_init_5 : decode cX9_init 5 = .ok (.sipush 300, 3) := dX9_init_0_k.2.2.2.1
theorem dX9_init_8 : decode cX9_init 8 = .ok (.newarray .int, 2) := dX9_init_0_k.2.2.2.2.1
theorem dX9_init_10 : decode cX9_init 10 = .ok (.putfield 9, 3) := dX9_init_0_k.2.2.2.2.2.1
theorem dX9_init_13 : decode cX9_init 13 = .ok (.aload_n 0, 1) := dX9_init_0_k.2.2.2.2.2.2.1
theorem dX9_init_14 : decode cX9_init 14 = .ok (.iconst 0, 1) := dX9_init_0_k.2.2.2.2.2.2.2.1
theorem dX9_init_15 : decode cX9_init 15 = .ok (.putfield 15, 3) := dX9_init_0_k.2.2.2.2.2.2.2.2.1
theorem dX9_init_18 : decode cX9_init 18 = .ok (.aload_n 0, 1) := dX9_init_0_k.2.2.2.2.2.2.2.2.2.1
theorem dX9_init_19 : decode cX9_init 19 = .ok (.iconst 0, 1) := dX9_init_0_k.2.2.2.2.2.2.2.2.2.2.1
theorem dX9_init_20 : decode cX9_init 20 = .ok (.putfield 19, 3) := dX9_init_0_k.2.2.2.2.2.2.2.2.2.2.2.1
theorem dX9_init_23 : decode cX9_init 23 = .ok (.aload_n 0, 1) := dX9_init_0_k.2.2.2.2.2.2.2.2.2.2.2.2.1
theorem dX9_init_24 : decode cX9_init 24 = .ok (.iconst (-1), 1) := dX9_init_0_k.2.2.2.2.2.2.2.2.2.2.2.2.2.1
theorem dX9_init_25 : decode cX9_init 25 = .ok (.putfield 22, 3) := dX9_init_0_k.2.2.2.2.2.2.2.2.2.2.2.2.2.2.1
theorem dX9_init_28 : decode cX9_init 28 = .ok (.return_, 1) := dX9_init_0_k.2.2.2.2.2.2.2.2.2.2.2.2.2.2.2
theorem dX9_begin_0_k : decode cX9_begin 0 = .ok (.aload_n 0, 1) ∧ decode cX9_begin 1 = .ok (.iconst 0, 1) ∧ decode cX9_begin 2 = .ok (.iconst (-1), 1) ∧ decode cX9_begin 3 = .ok (.invokevirtual 25, 3) ∧ decode cX9_begin 6 = .ok (.return_, 1) := by decide +kernel
theorem dX9_begin_0 : decode cX9_begin 0 = .ok (.aload_n 0, 1) := dX9_begin_0_k.1
theorem dX9_begin_1 : decode cX9_begin 1 = .ok (.iconst 0, 1) := dX9_begin_0_k.2.1
theorem dX9_begin_2 : decode cX9_begin 2 = .ok (.iconst (-1), 1) := dX9_begin_0_k.2.2.1
theorem dX9_begin_3 : decode cX9_begin 3 = .ok (.invokevirtual 25, 3) := dX9_begin_0_k.2.2.2.1
theorem dX9_begin_6 : decode cX9_begin 6 = .ok (.return_, 1) := dX9_begin_0_k.2.2.2.2
theorem dX9_refuse_0_k : decode cX9_refuse 0 = .ok (.aload_n 0, 1) ∧ decode cX9_refuse 1 = .ok (.iconst 0, 1) ∧ decode cX9_refuse 2 = .ok (.putfield 15, 3) ∧ decode cX9_refuse 5 = .ok (.aload_n 0, 1) ∧ decode cX9_refuse 6 = .ok (.iload_n 1, 1) ∧ decode cX9_refuse 7 = .ok (.putfield 19, 3) ∧ decode cX9_refuse 10 = .ok (.aload_n 0, 1) ∧ decode cX9_refuse 11 = .ok (.iload_n 2, 1) ∧ decode cX9_refuse 12 = .ok (.putfield 22, 3) ∧ decode cX9_refuse 15 = .ok (.return_, 1) := by decide +kernel
theorem dX9_refuse_0 : decode cX9_refuse 0 = .ok (.aload_n 0, 1) := dX9_refuse_0_k.1
theorem dX9_refuse_1 : decode cX9_refuse 1 = .ok (.iconst 0, 1) := dX9_refuse_0_k.2.1
theorem dX9_refuse_2 : decode cX9_refuse 2 = .ok (.putfield 15, 3) := dX9_refuse_0_k.2.2.1
theorem dX9_refuse_5 : decode cX9_refuse 5 = .ok (.aload_n 0, 1) := dX9_refuse_0_k.2.2.2.1
theorem dX9_refuse_6 : decode cX9_refuse 6 = .ok (.iload_n 1, 1) := dX9_refuse_0_k.2.2.2.2.1
theorem dX9_refuse_7 : decode cX9_refuse 7 = .ok (.putfield 19, 3) := dX9_refuse_0_k.2.2.2.2.2.1
theorem dX9_refuse_10 : decode cX9_refuse 10 = .ok (.aload_n 0, 1) := dX9_refuse_0_k.2.2.2.2.2.2.1
theorem dX9_refuse_11 : decode cX9_refuse 11 = .ok (.iload_n 2, 1) := dX9_refuse_0_k.2.2.2.2.2.2.2.1
theorem dX9_refuse_12 : decode cX9_refuse 12 = .ok (.putfield 22, 3) := dX9_refuse_0_k.2.2.2.2.2.2.2.2.1
theorem dX9_refuse_15 : decode cX9_refuse 15 = .ok (.return_, 1) := dX9_refuse_0_k.2.2.2.2.2.2.2.2.2
theorem dX9_append_0_k : decode cX9_append 0 = .ok (.iconst 0, 1) ∧ decode cX9_append 1 = .ok (.istore_n 3, 1) ∧ decode cX9_append 2 = .ok (.iload_n 3, 1) ∧ decode cX9_append 3 = .ok (.bipush 8, 2) ∧ decode cX9_append 5 = .ok (.if_icmp .ge 17, 3) ∧ decode cX9_append 8 = .ok (.lload_n 1, 1) ∧ decode cX9_append 9 = .ok (.iload_n 3, 1) ∧ decode cX9_append 10 = .ok (.invokestatic 29, 3) ∧ decode cX9_append 13 = .ok (.ifCond .eq 9, 3) ∧ decode cX9_append 16 = .ok (.iinc 3 1, 3) ∧ decode cX9_append 19 = .ok (.goto (-17), 3) ∧ decode cX9_append 22 = .ok (.aload_n 0, 1) ∧ decode cX9_append 23 = .ok (.getfield 15, 3) ∧ decode cX9_append 26 = .ok (.ifCond .lt 15, 3) ∧ decode cX9_append 29 = .ok (.aload_n 0, 1) ∧ decode cX9_append 30 = .ok (.getfield 15, 3) := by decide +kernel
theorem dX9_append_0 : decode cX9_append 0 = .ok (.iconst 0, 1) := dX9_append_0_k.1
theorem dX9_append_1 : decode cX9_append 1 = .ok (.istore_n 3, 1) := dX9_append_0_k.2.1
theorem dX9_append_2 : decode cX9_append 2 = .ok (.iload_n 3, 1) := dX9_append_0_k.2.2.1
theorem dX9_append_3 : decode cX9_append 3 = .ok (.bipush 8, 2) := dX9_append_0_k.2.2.2.1
theorem dX9_append_5 : decode cX9_append 5 = .ok (.if_icmp .ge 17, 3) := dX9_append_0_k.2.2.2.2.1
theorem dX9_append_8 : decode cX9_append 8 = .ok (.lload_n 1, 1) := dX9_append_0_k.2.2.2.2.2.1
theorem dX9_append_9 : decode cX9_append 9 = .ok (.iload_n 3, 1) := dX9_append_0_k.2.2.2.2.2.2.1
theorem dX9_append_10 : decode cX9_append 10 = .ok (.invokestatic 29, 3) := dX9_append_0_k.2.2.2.2.2.2.2.1
theorem dX9_append_13 : decode cX9_append 13 = .ok (.ifCond .eq 9, 3) := dX9_append_0_k.2.2.2.2.2.2.2.2.1
theorem dX9_append_16 : decode cX9_append 16 = .ok (.iinc 3 1, 3) := dX9_append_0_k.2.2.2.2.2.2.2.2.2.1
theorem dX9_append_19 : decode cX9_append 19 = .ok (.goto (-17), 3) := dX9_append_0_k.2.2.2.2.2.2.2.2.2.2.1
theorem dX9_append_22 : decode cX9_append 22 = .ok (.aload_n 0, 1) := dX9_append_0_k.2.2.2.2.2.2.2.2.2.2.2.1
theorem dX9_append_23 : decode cX9_append 23 = .ok (.getfield 15, 3) := dX9_append_0_k.2.2.2.2.2.2.2.2.2.2.2.2.1
theorem dX9_append_26 : decode cX9_append 26 = .ok (.ifCond .lt 15, 3) := dX9_append_0_k.2.2.2.2.2.2.2.2.2.2.2.2.2.1
theorem dX9_append_29 : decode cX9_append 29 = .ok (.aload_n 0, 1) := dX9_append_0_k.2.2.2.2.2.2.2.2.2.2.2.2.2.2.1
theorem dX9_append_30 : decode cX9_append 30 = .ok (.getfield 15, 3) := dX9_append_0_k.2.2.2.2.2.2.2.2.2.2.2.2.2.2.2
theorem dX9_append_33_k : decode cX9_append 33 = .ok (.iload_n 3, 1) ∧ decode cX9_append 34 = .ok (.iadd, 1) ∧ decode cX9_append 35 = .ok (.sipush 300, 3) ∧ decode cX9_append 38 = .ok (.if_icmp .le 5, 3) ∧ decode cX9_append 41 = .ok (.iconst (-1), 1) ∧ decode cX9_append 42 = .ok (.ireturn, 1) ∧ decode cX9_append 43 = .ok (.iconst 0, 1) ∧ decode cX9_append 44 = .ok (.istore 4, 2) ∧ decode cX9_append 46 = .ok (.iload 4, 2) ∧ decode cX9_append 48 = .ok (.iload_n 3, 1) ∧ decode cX9_append 49 = .ok (.if_icmp .ge 27, 3) ∧ decode cX9_append 52 = .ok (.aload_n 0, 1) ∧ decode cX9_append 53 = .ok (.getfield 9, 3) ∧ decode cX9_append 56 = .ok (.aload_n 0, 1) ∧ decode cX9_append 57 = .ok (.getfield 15, 3) ∧ decode cX9_append 60 = .ok (.iload 4, 2) := by decide +kernel
theorem dX9_append_33 : decode cX9_append 33 = .ok (.iload_n 3, 1) := dX9_append_33_k.1
theorem dX9_append_34 : decode cX9_append 34 = .ok (.iadd, 1) := dX9_append_33_k.2.1
theorem dX9_append_35 : decode cX9_append 35 = .ok (.sipush 300, 3) := dX9_append_33_k.2.2.1
theorem dX9_append_38 : decode cX9_append 38 = .ok (.if_icmp .le 5, 3) := dX9_append_33_k.2.2.2.1
theorem dX9_append_41 : decode cX9_append 41 = .ok (.iconst (-1), 1) := dX9_append_33_k.2.2.2.2.1
theorem dX9_append_42 : decode cX9_append 42 = .ok (.ireturn, 1) := dX9_append_33_k.2.2.2.2.2.1
theorem dX9_append_43 : decode cX9_append 43 = .ok (.iconst 0, 1) := dX9_append_33_k.2.2.2.2.2.2.1
theorem dX9_append_44 : decode cX9_append 44 = .ok (.istore 4, 2) := dX9_append_33_k.2.2.2.2.2.2.2.1
theorem dX9_append_46 : decode cX9_append 46 = .ok (.iload 4, 2) := dX9_append_33_k.2.2.2.2.2.2.2.2.1
theorem dX9_append_48 : decode cX9_append 48 = .ok (.iload_n 3, 1) := dX9_append_33_k.2.2.2.2.2.2.2.2.2.1
theorem dX9_append_49 : decode cX9_append 49 = .ok (.if_icmp .ge 27, 3) := dX9_append_33_k.2.2.2.2.2.2.2.2.2.2.1
theorem dX9_append_52 : decode cX9_append 52 = .ok (.aload_n 0, 1) := dX9_append_33_k.2.2.2.2.2.2.2.2.2.2.2.1
theorem dX9_append_53 : decode cX9_append 53 = .ok (.getfield 9, 3) := dX9_append_33_k.2.2.2.2.2.2.2.2.2.2.2.2.1
theorem dX9_append_56 : decode cX9_append 56 = .ok (.aload_n 0, 1) := dX9_append_33_k.2.2.2.2.2.2.2.2.2.2.2.2.2.1
theorem dX9_append_57 : decode cX9_append 57 = .ok (.getfield 15, 3) := dX9_append_33_k.2.2.2.2.2.2.2.2.2.2.2.2.2.2.1
theorem dX9_append_60 : decode cX9_append 60 = .ok (.iload 4, 2) := dX9_append_33_k.2.2.2.2.2.2.2.2.2.2.2.2.2.2.2
theorem dX9_append_62_k : decode cX9_append 62 = .ok (.iadd, 1) ∧ decode cX9_append 63 = .ok (.lload_n 1, 1) ∧ decode cX9_append 64 = .ok (.iload 4, 2) ∧ decode cX9_append 66 = .ok (.invokestatic 29, 3) ∧ decode cX9_append 69 = .ok (.iastore, 1) ∧ decode cX9_append 70 = .ok (.iinc 4 1, 3) ∧ decode cX9_append 73 = .ok (.goto (-27), 3) ∧ decode cX9_append 76 = .ok (.aload_n 0, 1) ∧ decode cX9_append 77 = .ok (.dup, 1) ∧ decode cX9_append 78 = .ok (.getfield 15, 3) ∧ decode cX9_append 81 = .ok (.iload_n 3, 1) ∧ decode cX9_append 82 = .ok (.iadd, 1) ∧ decode cX9_append 83 = .ok (.putfield 15, 3) ∧ decode cX9_append 86 = .ok (.aload_n 0, 1) ∧ decode cX9_append 87 = .ok (.getfield 15, 3) ∧ decode cX9_append 90 = .ok (.ireturn, 1) := by decide +kernel
theorem dX9_append_62 : decode cX9_append 62 = .ok (.iadd, 1) := dX9_append_62_k.1
theorem dX9_append_63 : decode cX9_append 63 = .ok (.lload_n 1, 1) := dX9_append_62_k.2.1
theorem dX9_append_64 : decode cX9_append 64 = .ok (.iload 4, 2) := dX9_append_62_k.2.2.1
theorem dX9_append_66 : decode cX9_append 66 = .ok (.invokestatic 29, 3) := dX9_append_62_k.2.2.2.1
theorem dX9_append_69 : decode cX9_append 69 = .ok (.iastore, 1) := dX9_append_62_k.2.2.2.2.1
theorem dX9_append_70 : decode cX9_append 70 = .ok (.iinc 4 1, 3) := dX9_append_62_k.2.2.2.2.2.1
theorem dX9_append_73 : decode cX9_append 73 = .ok (.goto (-27), 3) := dX9_append_62_k.2.2.2.2.2.2.1
theorem dX9_append_76 : decode cX9_append 76 = .ok (.aload_n 0, 1) := dX9_append_62_k.2.2.2.2.2.2.2.1
theorem dX9_append_77 : decode cX9_append 77 = .ok (.dup, 1) := dX9_append_62_k.2.2.2.2.2.2.2.2.1
theorem dX9_append_78 : decode cX9_append 78 = .ok (.getfield 15, 3) := dX9_append_62_k.2.2.2.2.2.2.2.2.2.1
theorem dX9_append_81 : decode cX9_append 81 = .ok (.iload_n 3, 1) := dX9_append_62_k.2.2.2.2.2.2.2.2.2.2.1
theorem dX9_append_82 : decode cX9_append 82 = .ok (.iadd, 1) := dX9_append_62_k.2.2.2.2.2.2.2.2.2.2.2.1
theorem dX9_append_83 : decode cX9_append 83 = .ok (.putfield 15, 3) := dX9_append_62_k.2.2.2.2.2.2.2.2.2.2.2.2.1
theorem dX9_append_86 : decode cX9_append 86 = .ok (.aload_n 0, 1) := dX9_append_62_k.2.2.2.2.2.2.2.2.2.2.2.2.2.1
theorem dX9_append_87 : decode cX9_append 87 = .ok (.getfield 15, 3) := dX9_append_62_k.2.2.2.2.2.2.2.2.2.2.2.2.2.2.1
theorem dX9_append_90 : decode cX9_append 90 = .ok (.ireturn, 1) := dX9_append_62_k.2.2.2.2.2.2.2.2.2.2.2.2.2.2.2
theorem dX9_byteOf_0_k : decode cX9_byteOf 0 = .ok (.lload_n 0, 1) ∧ decode cX9_byteOf 1 = .ok (.bipush 56, 2) ∧ decode cX9_byteOf 3 = .ok (.bipush 8, 2) ∧ decode cX9_byteOf 5 = .ok (.iload_n 2, 1) ∧ decode cX9_byteOf 6 = .ok (.imul, 1) ∧ decode cX9_byteOf 7 = .ok (.isub, 1) ∧ decode cX9_byteOf 8 = .ok (.lushr, 1) ∧ decode cX9_byteOf 9 = .ok (.l2i, 1) ∧ decode cX9_byteOf 10 = .ok (.sipush 255, 3) ∧ decode cX9_byteOf 13 = .ok (.iand, 1) ∧ decode cX9_byteOf 14 = .ok (.ireturn, 1) := by decide +kernel
theorem dX9_byteOf_0 : decode cX9_byteOf 0 = .ok (.lload_n 0, 1) := dX9_byteOf_0_k.1
theorem dX9_byteOf_1 : decode cX9_byteOf 1 = .ok (.bipush 56, 2) := dX9_byteOf_0_k.2.1
theorem dX9_byteOf_3 : decode cX9_byteOf 3 = .ok (.bipush 8, 2) := dX9_byteOf_0_k.2.2.1
theorem dX9_byteOf_5 : decode cX9_byteOf 5 = .ok (.iload_n 2, 1) := dX9_byteOf_0_k.2.2.2.1
theorem dX9_byteOf_6 : decode cX9_byteOf 6 = .ok (.imul, 1) := dX9_byteOf_0_k.2.2.2.2.1
theorem dX9_byteOf_7 : decode cX9_byteOf 7 = .ok (.isub, 1) := dX9_byteOf_0_k.2.2.2.2.2.1
theorem dX9_byteOf_8 : decode cX9_byteOf 8 = .ok (.lushr, 1) := dX9_byteOf_0_k.2.2.2.2.2.2.1
theorem dX9_byteOf_9 : decode cX9_byteOf 9 = .ok (.l2i, 1) := dX9_byteOf_0_k.2.2.2.2.2.2.2.1
theorem dX9_byteOf_10 : decode cX9_byteOf 10 = .ok (.sipush 255, 3) := dX9_byteOf_0_k.2.2.2.2.2.2.2.2.1
theorem dX9_byteOf_13 : decode cX9_byteOf 13 = .ok (.iand, 1) := dX9_byteOf_0_k.2.2.2.2.2.2.2.2.2.1
theorem dX9_byteOf_14 : decode cX9_byteOf 14 = .ok (.ireturn, 1) := dX9_byteOf_0_k.2.2.2.2.2.2.2.2.2.2
theorem dX9_byteAt_0_k : decode cX9_byteAt 0 = .ok (.iload_n 1, 1) ∧ decode cX9_byteAt 1 = .ok (.ifCond .lt 18, 3) ∧ decode cX9_byteAt 4 = .ok (.iload_n 1, 1) ∧ decode cX9_byteAt 5 = .ok (.aload_n 0, 1) ∧ decode cX9_byteAt 6 = .ok (.getfield 15, 3) ∧ decode cX9_byteAt 9 = .ok (.if_icmp .ge 10, 3) ∧ decode cX9_byteAt 12 = .ok (.iload_n 1, 1) ∧ decode cX9_byteAt 13 = .ok (.sipush 300, 3) ∧ decode cX9_byteAt 16 = .ok (.if_icmp .lt 7, 3) ∧ decode cX9_byteAt 19 = .ok (.iconst (-1), 1) ∧ decode cX9_byteAt 20 = .ok (.goto 9, 3) ∧ decode cX9_byteAt 23 = .ok (.aload_n 0, 1) ∧ decode cX9_byteAt 24 = .ok (.getfield 9, 3) ∧ decode cX9_byteAt 27 = .ok (.iload_n 1, 1) ∧ decode cX9_byteAt 28 = .ok (.iaload, 1) ∧ decode cX9_byteAt 29 = .ok (.ireturn, 1) := by decide +kernel
theorem dX9_byteAt_0 : decode cX9_byteAt 0 = .ok (.iload_n 1, 1) := dX9_byteAt_0_k.1
theorem dX9_byteAt_1 : decode cX9_byteAt 1 = .ok (.ifCond .lt 18, 3) := dX9_byteAt_0_k.2.1
theorem dX9_byteAt_4 : decode cX9_byteAt 4 = .ok (.iload_n 1, 1) := dX9_byteAt_0_k.2.2.1
theorem dX9_byteAt_5 : decode cX9_byteAt 5 = .ok (.aload_n 0, 1) := dX9_byteAt_0_k.2.2.2.1
theorem dX9_byteAt_6 : decode cX9_byteAt 6 = .ok (.getfield 15, 3) := dX9_byteAt_0_k.2.2.2.2.1
theorem dX9_byteAt_9 : decode cX9_byteAt 9 = .ok (.if_icmp .ge 10, 3) := dX9_byteAt_0_k.2.2.2.2.2.1
theorem dX9_byteAt_12 : decode cX9_byteAt 12 = .ok (.iload_n 1, 1) := dX9_byteAt_0_k.2.2.2.2.2.2.1
theorem dX9_byteAt_13 : decode cX9_byteAt 13 = .ok (.sipush 300, 3) := dX9_byteAt_0_k.2.2.2.2.2.2.2.1
theorem dX9_byteAt_16 : decode cX9_byteAt 16 = .ok (.if_icmp .lt 7, 3) := dX9_byteAt_0_k.2.2.2.2.2.2.2.2.1
theorem dX9_byteAt_19 : decode cX9_byteAt 19 = .ok (.iconst (-1), 1) := dX9_byteAt_0_k.2.2.2.2.2.2.2.2.2.1
theorem dX9_byteAt_20 : decode cX9_byteAt 20 = .ok (.goto 9, 3) := dX9_byteAt_0_k.2.2.2.2.2.2.2.2.2.2.1
theorem dX9_byteAt_23 : decode cX9_byteAt 23 = .ok (.aload_n 0, 1) := dX9_byteAt_0_k.2.2.2.2.2.2.2.2.2.2.2.1
theorem dX9_byteAt_24 : decode cX9_byteAt 24 = .ok (.getfield 9, 3) := dX9_byteAt_0_k.2.2.2.2.2.2.2.2.2.2.2.2.1
theorem dX9_byteAt_27 : decode cX9_byteAt 27 = .ok (.iload_n 1, 1) := dX9_byteAt_0_k.2.2.2.2.2.2.2.2.2.2.2.2.2.1
theorem dX9_byteAt_28 : decode cX9_byteAt 28 = .ok (.iaload, 1) := dX9_byteAt_0_k.2.2.2.2.2.2.2.2.2.2.2.2.2.2.1
theorem dX9_byteAt_29 : decode cX9_byteAt 29 = .ok (.ireturn, 1) := dX9_byteAt_0_k.2.2.2.2.2.2.2.2.2.2.2.2.2.2.2
theorem dX9_hasWord_0_k : decode cX9_hasWord 0 = .ok (.iload_n 2, 1) ∧ decode cX9_hasWord 1 = .ok (.iload_n 1, 1) ∧ decode cX9_hasWord 2 = .ok (.isub, 1) ∧ decode cX9_hasWord 3 = .ok (.aload_n 3, 1) ∧ decode cX9_hasWord 4 = .ok (.invokevirtual 33, 3) ∧ decode cX9_hasWord 7 = .ok (.if_icmp .eq 5, 3) ∧ decode cX9_hasWord 10 = .ok (.iconst 0, 1) ∧ decode cX9_hasWord 11 = .ok (.ireturn, 1) ∧ decode cX9_hasWord 12 = .ok (.iconst 0, 1) ∧ decode cX9_hasWord 13 = .ok (.istore 4, 2) ∧ decode cX9_hasWord 15 = .ok (.iload 4, 2) ∧ decode cX9_hasWord 17 = .ok (.aload_n 3, 1) ∧ decode cX9_hasWord 18 = .ok (.invokevirtual 33, 3) ∧ decode cX9_hasWord 21 = .ok (.if_icmp .ge 28, 3) ∧ decode cX9_hasWord 24 = .ok (.aload_n 0, 1) ∧ decode cX9_hasWord 25 = .ok (.iload_n 1, 1) := by decide +kernel
theorem dX9_hasWord_0 : decode cX9_hasWord 0 = .ok (.iload_n 2, 1) := dX9_hasWord_0_k.1
theorem dX9_hasWord_1 : decode cX9_hasWord 1 = .ok (.iload_n 1, 1) := dX9_hasWord_0_k.2.1
theorem dX9_hasWord_2 : decode cX9_hasWord 2 = .ok (.isub, 1) := dX9_hasWord_0_k.2.2.1
theorem dX9_hasWord_3 : decode cX9_hasWord 3 = .ok (.aload_n 3, 1) := dX9_hasWord_0_k.2.2.2.1
theorem dX9_hasWord_4 : decode cX9_hasWord 4 = .ok (.invokevirtual 33, 3) := dX9_hasWord_0_k.2.2.2.2.1
theorem dX9_hasWord_7 : decode cX9_hasWord 7 = .ok (.if_icmp .eq 5, 3) := dX9_hasWord_0_k.2.2.2.2.2.1
theorem dX9_hasWord_10 : decode cX9_hasWord 10 = .ok (.iconst 0, 1) := dX9_hasWord_0_k.2.2.2.2.2.2.1
theorem dX9_hasWord_11 : decode cX9_hasWord 11 = .ok (.ireturn, 1) := dX9_hasWord_0_k.2.2.2.2.2.2.2.1
theorem dX9_hasWord_12 : decode cX9_hasWord 12 = .ok (.iconst 0, 1) := dX9_hasWord_0_k.2.2.2.2.2.2.2.2.1
theorem dX9_hasWord_13 : decode cX9_hasWord 13 = .ok (.istore 4, 2) := dX9_hasWord_0_k.2.2.2.2.2.2.2.2.2.1
theorem dX9_hasWord_15 : decode cX9_hasWord 15 = .ok (.iload 4, 2) := dX9_hasWord_0_k.2.2.2.2.2.2.2.2.2.2.1
theorem dX9_hasWord_17 : decode cX9_hasWord 17 = .ok (.aload_n 3, 1) := dX9_hasWord_0_k.2.2.2.2.2.2.2.2.2.2.2.1
theorem dX9_hasWord_18 : decode cX9_hasWord 18 = .ok (.invokevirtual 33, 3) := dX9_hasWord_0_k.2.2.2.2.2.2.2.2.2.2.2.2.1
theorem dX9_hasWord_21 : decode cX9_hasWord 21 = .ok (.if_icmp .ge 28, 3) := dX9_hasWord_0_k.2.2.2.2.2.2.2.2.2.2.2.2.2.1
theorem dX9_hasWord_24 : decode cX9_hasWord 24 = .ok (.aload_n 0, 1) := dX9_hasWord_0_k.2.2.2.2.2.2.2.2.2.2.2.2.2.2.1
theorem dX9_hasWord_25 : decode cX9_hasWord 25 = .ok (.iload_n 1, 1) := dX9_hasWord_0_k.2.2.2.2.2.2.2.2.2.2.2.2.2.2.2
theorem dX9_hasWord_26_k : decode cX9_hasWord 26 = .ok (.iload 4, 2) ∧ decode cX9_hasWord 28 = .ok (.iadd, 1) ∧ decode cX9_hasWord 29 = .ok (.invokevirtual 39, 3) ∧ decode cX9_hasWord 32 = .ok (.aload_n 3, 1) ∧ decode cX9_hasWord 33 = .ok (.iload 4, 2) ∧ decode cX9_hasWord 35 = .ok (.invokevirtual 43, 3) ∧ decode cX9_hasWord 38 = .ok (.if_icmp .eq 5, 3) ∧ decode cX9_hasWord 41 = .ok (.iconst 0, 1) ∧ decode cX9_hasWord 42 = .ok (.ireturn, 1) ∧ decode cX9_hasWord 43 = .ok (.iinc 4 1, 3) ∧ decode cX9_hasWord 46 = .ok (.goto (-31), 3) ∧ decode cX9_hasWord 49 = .ok (.iconst 1, 1) ∧ decode cX9_hasWord 50 = .ok (.ireturn, 1) := by decide +kernel
theorem dX9_hasWord_26 : decode cX9_hasWord 26 = .ok (.iload 4, 2) := dX9_hasWord_26_k.1
theorem dX9_hasWord_28 : decode cX9_hasWord 28 = .ok (.iadd, 1) := dX9_hasWord_26_k.2.1
theorem dX9_hasWord_29 : decode cX9_hasWord 29 = .ok (.invokevirtual 39, 3) := dX9_hasWord_26_k.2.2.1
theorem dX9_hasWord_32 : decode cX9_hasWord 32 = .ok (.aload_n 3, 1) := dX9_hasWord_26_k.2.2.2.1
theorem dX9_hasWord_33 : decode cX9_hasWord 33 = .ok (.iload 4, 2) := dX9_hasWord_26_k.2.2.2.2.1
theorem dX9_hasWord_35 : decode cX9_hasWord 35 = .ok (.invokevirtual 43, 3) := dX9_hasWord_26_k.2.2.2.2.2.1
theorem dX9_hasWord_38 : decode cX9_hasWord 38 = .ok (.if_icmp .eq 5, 3) := dX9_hasWord_26_k.2.2.2.2.2.2.1
theorem dX9_hasWord_41 : decode cX9_hasWord 41 = .ok (.iconst 0, 1) := dX9_hasWord_26_k.2.2.2.2.2.2.2.1
theorem dX9_hasWord_42 : decode cX9_hasWord 42 = .ok (.ireturn, 1) := dX9_hasWord_26_k.2.2.2.2.2.2.2.2.1
theorem dX9_hasWord_43 : decode cX9_hasWord 43 = .ok (.iinc 4 1, 3) := dX9_hasWord_26_k.2.2.2.2.2.2.2.2.2.1
theorem dX9_hasWord_46 : decode cX9_hasWord 46 = .ok (.goto (-31), 3) := dX9_hasWord_26_k.2.2.2.2.2.2.2.2.2.2.1
theorem dX9_hasWord_49 : decode cX9_hasWord 49 = .ok (.iconst 1, 1) := dX9_hasWord_26_k.2.2.2.2.2.2.2.2.2.2.2.1
theorem dX9_hasWord_50 : decode cX9_hasWord 50 = .ok (.ireturn, 1) := dX9_hasWord_26_k.2.2.2.2.2.2.2.2.2.2.2.2
theorem dX9_copyFrom_0_k : decode cX9_copyFrom 0 = .ok (.aload_n 1, 1) ∧ decode cX9_copyFrom 1 = .ok (.getfield 9, 3) ∧ decode cX9_copyFrom 4 = .ok (.iconst 0, 1) ∧ decode cX9_copyFrom 5 = .ok (.aload_n 0, 1) ∧ decode cX9_copyFrom 6 = .ok (.getfield 9, 3) ∧ decode cX9_copyFrom 9 = .ok (.iconst 0, 1) ∧ decode cX9_copyFrom 10 = .ok (.sipush 300, 3) ∧ decode cX9_copyFrom 13 = .ok (.invokestatic 47, 3) ∧ decode cX9_copyFrom 16 = .ok (.aload_n 0, 1) ∧ decode cX9_copyFrom 17 = .ok (.aload_n 1, 1) ∧ decode cX9_copyFrom 18 = .ok (.getfield 15, 3) ∧ decode cX9_copyFrom 21 = .ok (.putfield 15, 3) ∧ decode cX9_copyFrom 24 = .ok (.aload_n 0, 1) ∧ decode cX9_copyFrom 25 = .ok (.aload_n 1, 1) ∧ decode cX9_copyFrom 26 = .ok (.getfield 19, 3) ∧ decode cX9_copyFrom 29 = .ok (.putfield 19, 3) := by decide +kernel
theorem dX9_copyFrom_0 : decode cX9_copyFrom 0 = .ok (.aload_n 1, 1) := dX9_copyFrom_0_k.1
theorem dX9_copyFrom_1 : decode cX9_copyFrom 1 = .ok (.getfield 9, 3) := dX9_copyFrom_0_k.2.1
theorem dX9_copyFrom_4 : decode cX9_copyFrom 4 = .ok (.iconst 0, 1) := dX9_copyFrom_0_k.2.2.1
theorem dX9_copyFrom_5 : decode cX9_copyFrom 5 = .ok (.aload_n 0, 1) := dX9_copyFrom_0_k.2.2.2.1
theorem dX9_copyFrom_6 : decode cX9_copyFrom 6 = .ok (.getfield 9, 3) := dX9_copyFrom_0_k.2.2.2.2.1
theorem dX9_copyFrom_9 : decode cX9_copyFrom 9 = .ok (.iconst 0, 1) := dX9_copyFrom_0_k.2.2.2.2.2.1
theorem dX9_copyFrom_10 : decode cX9_copyFrom 10 = .ok (.sipush 300, 3) := dX9_copyFrom_0_k.2.2.2.2.2.2.1
theorem dX9_copyFrom_13 : decode cX9_copyFrom 13 = .ok (.invokestatic 47, 3) := dX9_copyFrom_0_k.2.2.2.2.2.2.2.1
theorem dX9_copyFrom_16 : decode cX9_copyFrom 16 = .ok (.aload_n 0, 1) := dX9_copyFrom_0_k.2.2.2.2.2.2.2.2.1
theorem dX9_copyFrom_17 : decode cX9_copyFrom 17 = .ok (.aload_n 1, 1) := dX9_copyFrom_0_k.2.2.2.2.2.2.2.2.2.1
theorem dX9_copyFrom_18 : decode cX9_copyFrom 18 = .ok (.getfield 15, 3) := dX9_copyFrom_0_k.2.2.2.2.2.2.2.2.2.2.1
theorem dX9_copyFrom_21 : decode cX9_copyFrom 21 = .ok (.putfield 15, 3) := dX9_copyFrom_0_k.2.2.2.2.2.2.2.2.2.2.2.1
theorem dX9_copyFrom_24 : decode cX9_copyFrom 24 = .ok (.aload_n 0, 1) := dX9_copyFrom_0_k.2.2.2.2.2.2.2.2.2.2.2.2.1
theorem dX9_copyFrom_25 : decode cX9_copyFrom 25 = .ok (.aload_n 1, 1) := dX9_copyFrom_0_k.2.2.2.2.2.2.2.2.2.2.2.2.2.1
theorem dX9_copyFrom_26 : decode cX9_copyFrom 26 = .ok (.getfield 19, 3) := dX9_copyFrom_0_k.2.2.2.2.2.2.2.2.2.2.2.2.2.2.1
theorem dX9_copyFrom_29 : decode cX9_copyFrom 29 = .ok (.putfield 19, 3) := dX9_copyFrom_0_k.2.2.2.2.2.2.2.2.2.2.2.2.2.2.2
theorem dX9_copyFrom_32_k : decode cX9_copyFrom 32 = .ok (.aload_n 0, 1) ∧ decode cX9_copyFrom 33 = .ok (.aload_n 1, 1) ∧ decode cX9_copyFrom 34 = .ok (.getfield 22, 3) ∧ decode cX9_copyFrom 37 = .ok (.putfield 22, 3) ∧ decode cX9_copyFrom 40 = .ok (.return_, 1) := by decide +kernel
theorem dX9_copyFrom_32 : decode cX9_copyFrom 32 = .ok (.aload_n 0, 1) := dX9_copyFrom_32_k.1
theorem dX9_copyFrom_33 : decode cX9_copyFrom 33 = .ok (.aload_n 1, 1) := dX9_copyFrom_32_k.2.1
theorem dX9_copyFrom_34 : decode cX9_copyFrom 34 = .ok (.getfield 22, 3) := dX9_copyFrom_32_k.2.2.1
theorem dX9_copyFrom_37 : decode cX9_copyFrom 37 = .ok (.putfield 22, 3) := dX9_copyFrom_32_k.2.2.2.1
theorem dX9_copyFrom_40 : decode cX9_copyFrom 40 = .ok (.return_, 1) := dX9_copyFrom_32_k.2.2.2.2
theorem dX10_init_0_k : decode cX10_init 0 = .ok (.aload_n 0, 1) ∧ decode cX10_init 1 = .ok (.invokespecial 3, 3) ∧ decode cX10_init 4 = .ok (.aload_n 0, 1) ∧ decode cX10_init 5 = .ok (.new 9, 3) ∧ decode cX10_init 8 = .ok (.dup, 1) ∧ decode cX10_init 9 = .ok (.invokespecial 11, 3) ∧ decode cX10_init 12 = .ok (.putfield 12, 3) ∧ decode cX10_init 15 = .ok (.aload_n 0, 1) ∧ decode cX10_init 16 = .ok (.new 18, 3) ∧ decode cX10_init 19 = .ok (.dup, 1) ∧ decode cX10_init 20 = .ok (.invokespecial 20, 3) ∧ decode cX10_init 23 = .ok (.putfield 21, 3) ∧ decode cX10_init 26 = .ok (.aload_n 0, 1) ∧ decode cX10_init 27 = .ok (.new 25, 3) ∧ decode cX10_init 30 = .ok (.dup, 1) ∧ decode cX10_init 31 = .ok (.invokespecial 27, 3) := by decide +kernel
theorem dX10_init_0 : decode cX10_init 0 = .ok (.aload_n 0, 1) := dX10_init_0_k.1
theorem dX10_init_1 : decode cX10_init 1 = .ok (.invokespecial 3, 3) := dX10_init_0_k.2.1
theorem dX10_init_4 : decode cX10_init 4 = .ok (.aload_n 0, 1) := dX10_init_0_k.2.2.1
theorem dX10_init_5 : decode cX10_init 5 = .ok (.new 9, 3) := dX10_init_0_k.2.2.2.1
theorem dX10_init_8 : decode cX10_init 8 = .ok (.dup, 1) := dX10_init_0_k.2.2.2.2.1
theorem dX10_init_9 : decode cX10_init 9 = .ok (.invokespecial 11, 3) := dX10_init_0_k.2.2.2.2.2.1
theorem dX10_init_12 : decode cX10_init 12 = .ok (.putfield 12, 3) := dX10_init_0_k.2.2.2.2.2.2.1
theorem dX10_init_15 : decode cX10_init 15 = .ok (.aload_n 0, 1) := dX10_init_0_k.2.2.2.2.2.2.2.1
theorem dX10_init_16 : decode cX10_init 16 = .ok (.new 18, 3) := dX10_init_0_k.2.2.2.2.2.2.2.2.1
theorem dX10_init_19 : decode cX10_init 19 = .ok (.dup, 1) := dX10_init_0_k.2.2.2.2.2.2.2.2.2.1
theorem dX10_init_20 : decode cX10_init 20 = .ok (.invokespecial 20, 3) := dX10_init_0_k.2.2.2.2.2.2.2.2.2.2.1
theorem dX10_init_23 : decode cX10_init 23 = .ok (.putfield 21, 3) := dX10_init_0_k.2.2.2.2.2.2.2.2.2.2.2.1
theorem dX10_init_26 : decode cX10_init 26 = .ok (.aload_n 0, 1) := dX10_init_0_k.2.2.2.2.2.2.2.2.2.2.2.2.1
theorem dX10_init_27 : decode cX10_init 27 = .ok (.new 25, 3) := dX10_init_0_k.2.2.2.2.2.2.2.2.2.2.2.2.2.1
theorem dX10_init_30 : decode cX10_init 30 = .ok (.dup, 1) := dX10_init_0_k.2.2.2.2.2.2.2.2.2.2.2.2.2.2.1
theorem dX10_init_31 : decode cX10_init 31 = .ok (.invokespecial 27, 3) := dX10_init_0_k.2.2.2.2.2.2.2.2.2.2.2.2.2.2.2
theorem dX10_init_34_k : decode cX10_init 34 = .ok (.putfield 28, 3) ∧ decode cX10_init 37 = .ok (.aload_n 0, 1) ∧ decode cX10_init 38 = .ok (.new 32, 3) ∧ decode cX10_init 41 = .ok (.dup, 1) ∧ decode cX10_init 42 = .ok (.invokespecial 34, 3) ∧ decode cX10_init 45 = .ok (.putfield 35, 3) ∧ decode cX10_init 48 = .ok (.aload_n 0, 1) ∧ decode cX10_init 49 = .ok (.new 39, 3) ∧ decode cX10_init 52 = .ok (.dup, 1) ∧ decode cX10_init 53 = .ok (.invokespecial 41, 3) ∧ decode cX10_init 56 = .ok (.putfield 42, 3) ∧ decode cX10_init 59 = .ok (.aload_n 0, 1) ∧ decode cX10_init 60 = .ok (.new 46, 3) ∧ decode cX10_init 63 = .ok (.dup, 1) ∧ decode cX10_init 64 = .ok (.invokespecial 48, 3) ∧ decode cX10_init 67 = .ok (.putfield 49, 3) := by decide +kernel
theorem dX10_init_34 : decode cX10_init 34 = .ok (.putfield 28, 3) := dX10_init_34_k.1
theorem dX10_init_37 : decode cX10_init 37 = .ok (.aload_n 0, 1) := dX10_init_34_k.2.1
theorem dX10_init_38 : decode cX10_init 38 = .ok (.new 32, 3) := dX10_init_34_k.2.2.1
theorem dX10_init_41 : decode cX10_init 41 = .ok (.dup, 1) := dX10_init_34_k.2.2.2.1
theorem dX10_init_42 : decode cX10_init 42 = .ok (.invokespecial 34, 3) := dX10_init_34_k.2.2.2.2.1
theorem dX10_init_45 : decode cX10_init 45 = .ok (.putfield 35, 3) := dX10_init_34_k.2.2.2.2.2.1
theorem dX10_init_48 : decode cX10_init 48 = .ok (.aload_n 0, 1) := dX10_init_34_k.2.2.2.2.2.2.1
theorem dX10_init_49 : decode cX10_init 49 = .ok (.new 39, 3) := dX10_init_34_k.2.2.2.2.2.2.2.1
theorem dX10_init_52 : decode cX10_init 52 = .ok (.dup, 1) := dX10_init_34_k.2.2.2.2.2.2.2.2.1
theorem dX10_init_53 : decode cX10_init 53 = .ok (.invokespecial 41, 3) := dX10_init_34_k.2.2.2.2.2.2.2.2.2.1
theorem dX10_init_56 : decode cX10_init 56 = .ok (.putfield 42, 3) := dX10_init_34_k.2.2.2.2.2.2.2.2.2.2.1
theorem dX10_init_59 : decode cX10_init 59 = .ok (.aload_n 0, 1) := dX10_init_34_k.2.2.2.2.2.2.2.2.2.2.2.1
theorem dX10_init_60 : decode cX10_init 60 = .ok (.new 46, 3) := dX10_init_34_k.2.2.2.2.2.2.2.2.2.2.2.2.1
theorem dX10_init_63 : decode cX10_init 63 = .ok (.dup, 1) := dX10_init_34_k.2.2.2.2.2.2.2.2.2.2.2.2.2.1
theorem dX10_init_64 : decode cX10_init 64 = .ok (.invokespecial 48, 3) := dX10_init_34_k.2.2.2.2.2.2.2.2.2.2.2.2.2.2.1
theorem dX10_init_67 : decode cX10_init 67 = .ok (.putfield 49, 3) := dX10_init_34_k.2.2.2.2.2.2.2.2.2.2.2.2.2.2.2
theorem dX10_init_70_k : decode cX10_init 70 = .ok (.aload_n 0, 1) ∧ decode cX10_init 71 = .ok (.new 53, 3) ∧ decode cX10_init 74 = .ok (.dup, 1) ∧ decode cX10_init 75 = .ok (.invokespecial 55, 3) ∧ decode cX10_init 78 = .ok (.putfield 56, 3) ∧ decode cX10_init 81 = .ok (.aload_n 0, 1) ∧ decode cX10_init 82 = .ok (.new 60, 3) ∧ decode cX10_init 85 = .ok (.dup, 1) ∧ decode cX10_init 86 = .ok (.invokespecial 62, 3) ∧ decode cX10_init 89 = .ok (.putfield 63, 3) ∧ decode cX10_init 92 = .ok (.aload_n 0, 1) ∧ decode cX10_init 93 = .ok (.iconst 0, 1) ∧ decode cX10_init 94 = .ok (.putfield 67, 3) ∧ decode cX10_init 97 = .ok (.aload_n 0, 1) ∧ decode cX10_init 98 = .ok (.iconst 0, 1) ∧ decode cX10_init 99 = .ok (.putfield 71, 3) := by decide +kernel
theorem dX10_init_70 : decode cX10_init 70 = .ok (.aload_n 0, 1) := dX10_init_70_k.1
theorem dX10_init_71 : decode cX10_init 71 = .ok (.new 53, 3) := dX10_init_70_k.2.1
theorem dX10_init_74 : decode cX10_init 74 = .ok (.dup, 1) := dX10_init_70_k.2.2.1
theorem dX10_init_75 : decode cX10_init 75 = .ok (.invokespecial 55, 3) := dX10_init_70_k.2.2.2.1
theorem dX10_init_78 : decode cX10_init 78 = .ok (.putfield 56, 3) := dX10_init_70_k.2.2.2.2.1
theorem dX10_init_81 : decode cX10_init 81 = .ok (.aload_n 0, 1) := dX10_init_70_k.2.2.2.2.2.1
theorem dX10_init_82 : decode cX10_init 82 = .ok (.new 60, 3) := dX10_init_70_k.2.2.2.2.2.2.1
theorem dX10_init_85 : decode cX10_init 85 = .ok (.dup, 1) := dX10_init_70_k.2.2.2.2.2.2.2.1
theorem dX10_init_86 : decode cX10_init 86 = .ok (.invokespecial 62, 3) := dX10_init_70_k.2.2.2.2.2.2.2.2.1
theorem dX10_init_89 : decode cX10_init 89 = .ok (.putfield 63, 3) := dX10_init_70_k.2.2.2.2.2.2.2.2.2.1
theorem dX10_init_92 : decode cX10_init 92 = .ok (.aload_n 0, 1) := dX10_init_70_k.2.2.2.2.2.2.2.2.2.2.1
theorem dX10_init_93 : decode cX10_init 93 = .ok (.iconst 0, 1) := dX10_init_70_k.2.2.2.2.2.2.2.2.2.2.2.1
theorem dX10_init_94 : decode cX10_init 94 = .ok (.putfield 67, 3) := dX10_init_70_k.2.2.2.2.2.2.2.2.2.2.2.2.1
theorem dX10_init_97 : decode cX10_init 97 = .ok (.aload_n 0, 1) := dX10_init_70_k.2.2.2.2.2.2.2.2.2.2.2.2.2.1
theorem dX10_init_98 : decode cX10_init 98 = .ok (.iconst 0, 1) := dX10_init_70_k.2.2.2.2.2.2.2.2.2.2.2.2.2.2.1
theorem dX10_init_99 : decode cX10_init 99 = .ok (.putfield 71, 3) := dX10_init_70_k.2.2.2.2.2.2.2.2.2.2.2.2.2.2.2
theorem dX10_init_102_k : decode cX10_init 102 = .ok (.aload_n 0, 1) ∧ decode cX10_init 103 = .ok (.iconst 0, 1) ∧ decode cX10_init 104 = .ok (.putfield 74, 3) ∧ decode cX10_init 107 = .ok (.aload_n 0, 1) ∧ decode cX10_init 108 = .ok (.iconst 0, 1) ∧ decode cX10_init 109 = .ok (.putfield 77, 3) ∧ decode cX10_init 112 = .ok (.aload_n 0, 1) ∧ decode cX10_init 113 = .ok (.iconst 0, 1) ∧ decode cX10_init 114 = .ok (.putfield 80, 3) ∧ decode cX10_init 117 = .ok (.aload_n 0, 1) ∧ decode cX10_init 118 = .ok (.iconst 0, 1) ∧ decode cX10_init 119 = .ok (.putfield 83, 3) ∧ decode cX10_init 122 = .ok (.aload_n 0, 1) ∧ decode cX10_init 123 = .ok (.invokevirtual 86, 3) ∧ decode cX10_init 126 = .ok (.return_, 1) := by decide +kernel
theorem dX10_init_102 : decode cX10_init 102 = .ok (.aload_n 0, 1) := dX10_init_102_k.1
theorem dX10_init_103 : decode cX10_init 103 = .ok (.iconst 0, 1) := dX10_init_102_k.2.1
theorem dX10_init_104 : decode cX10_init 104 = .ok (.putfield 74, 3) := dX10_init_102_k.2.2.1
theorem dX10_init_107 : decode cX10_init 107 = .ok (.aload_n 0, 1) := dX10_init_102_k.2.2.2.1
theorem dX10_init_108 : decode cX10_init 108 = .ok (.iconst 0, 1) := dX10_init_102_k.2.2.2.2.1
theorem dX10_init_109 : decode cX10_init 109 = .ok (.putfield 77, 3) := dX10_init_102_k.2.2.2.2.2.1
theorem dX10_init_112 : decode cX10_init 112 = .ok (.aload_n 0, 1) := dX10_init_102_k.2.2.2.2.2.2.1
theorem dX10_init_113 : decode cX10_init 113 = .ok (.iconst 0, 1) := dX10_init_102_k.2.2.2.2.2.2.2.1
theorem dX10_init_114 : decode cX10_init 114 = .ok (.putfield 80, 3) := dX10_init_102_k.2.2.2.2.2.2.2.2.1
theorem dX10_init_117 : decode cX10_init 117 = .ok (.aload_n 0, 1) := dX10_init_102_k.2.2.2.2.2.2.2.2.2.1
theorem dX10_init_118 : decode cX10_init 118 = .ok (.iconst 0, 1) := dX10_init_102_k.2.2.2.2.2.2.2.2.2.2.1
theorem dX10_init_119 : decode cX10_init 119 = .ok (.putfield 83, 3) := dX10_init_102_k.2.2.2.2.2.2.2.2.2.2.2.1
theorem dX10_init_122 : decode cX10_init 122 = .ok (.aload_n 0, 1) := dX10_init_102_k.2.2.2.2.2.2.2.2.2.2.2.2.1
theorem dX10_init_123 : decode cX10_init 123 = .ok (.invokevirtual 86, 3) := dX10_init_102_k.2.2.2.2.2.2.2.2.2.2.2.2.2.1
theorem dX10_init_126 : decode cX10_init 126 = .ok (.return_, 1) := dX10_init_102_k.2.2.2.2.2.2.2.2.2.2.2.2.2.2
theorem dX10_begin_0_k : decode cX10_begin 0 = .ok (.aload_n 0, 1) ∧ decode cX10_begin 1 = .ok (.getfield 21, 3) ∧ decode cX10_begin 4 = .ok (.aload_n 0, 1) ∧ decode cX10_begin 5 = .ok (.getfield 12, 3) ∧ decode cX10_begin 8 = .ok (.iconst 0, 1) ∧ decode cX10_begin 9 = .ok (.invokevirtual 89, 3) ∧ decode cX10_begin 12 = .ok (.aload_n 0, 1) ∧ decode cX10_begin 13 = .ok (.getfield 12, 3) ∧ decode cX10_begin 16 = .ok (.iconst 1, 1) ∧ decode cX10_begin 17 = .ok (.invokevirtual 89, 3) ∧ decode cX10_begin 20 = .ok (.aload_n 0, 1) ∧ decode cX10_begin 21 = .ok (.getfield 12, 3) ∧ decode cX10_begin 24 = .ok (.iconst 2, 1) ∧ decode cX10_begin 25 = .ok (.invokevirtual 89, 3) ∧ decode cX10_begin 28 = .ok (.invokevirtual 93, 3) ∧ decode cX10_begin 31 = .ok (.aload_n 0, 1) := by decide +kernel
theorem dX10_begin_0 : decode cX10_begin 0 = .ok (.aload_n 0, 1) := dX10_begin_0_k.1
theorem dX10_begin_1 : decode cX10_begin 1 = .ok (.getfield 21, 3) := dX10_begin_0_k.2.1
theorem dX10_begin_4 : decode cX10_begin 4 = .ok (.aload_n 0, 1) := dX10_begin_0_k.2.2.1
theorem dX10_begin_5 : decode cX10_begin 5 = .ok (.getfield 12, 3) := dX10_begin_0_k.2.2.2.1
theorem dX10_begin_8 : decode cX10_begin 8 = .ok (.iconst 0, 1) := dX10_begin_0_k.2.2.2.2.1
theorem dX10_begin_9 : decode cX10_begin 9 = .ok (.invokevirtual 89, 3) := dX10_begin_0_k.2.2.2.2.2.1
theorem dX10_begin_12 : decode cX10_begin 12 = .ok (.aload_n 0, 1) := dX10_begin_0_k.2.2.2.2.2.2.1
theorem dX10_begin_13 : decode cX10_begin 13 = .ok (.getfield 12, 3) := dX10_begin_0_k.2.2.2.2.2.2.2.1
theorem dX10_begin_16 : decode cX10_begin 16 = .ok (.iconst 1, 1) := dX10_begin_0_k.2.2.2.2.2.2.2.2.1
theorem dX10_begin_17 : decode cX10_begin 17 = .ok (.invokevirtual 89, 3) := dX10_begin_0_k.2.2.2.2.2.2.2.2.2.1
theorem dX10_begin_20 : decode cX10_begin 20 = .ok (.aload_n 0, 1) := dX10_begin_0_k.2.2.2.2.2.2.2.2.2.2.1
theorem dX10_begin_21 : decode cX10_begin 21 = .ok (.getfield 12, 3) := dX10_begin_0_k.2.2.2.2.2.2.2.2.2.2.2.1
theorem dX10_begin_24 : decode cX10_begin 24 = .ok (.iconst 2, 1) := dX10_begin_0_k.2.2.2.2.2.2.2.2.2.2.2.2.1
theorem dX10_begin_25 : decode cX10_begin 25 = .ok (.invokevirtual 89, 3) := dX10_begin_0_k.2.2.2.2.2.2.2.2.2.2.2.2.2.1
theorem dX10_begin_28 : decode cX10_begin 28 = .ok (.invokevirtual 93, 3) := dX10_begin_0_k.2.2.2.2.2.2.2.2.2.2.2.2.2.2.1
theorem dX10_begin_31 : decode cX10_begin 31 = .ok (.aload_n 0, 1) := dX10_begin_0_k.2.2.2.2.2.2.2.2.2.2.2.2.2.2.2
theorem dX10_begin_32_k : decode cX10_begin 32 = .ok (.getfield 28, 3) ∧ decode cX10_begin 35 = .ok (.aload_n 0, 1) ∧ decode cX10_begin 36 = .ok (.getfield 12, 3) ∧ decode cX10_begin 39 = .ok (.bipush 8, 2) ∧ decode cX10_begin 41 = .ok (.invokevirtual 89, 3) ∧ decode cX10_begin 44 = .ok (.invokevirtual 97, 3) ∧ decode cX10_begin 47 = .ok (.aload_n 0, 1) ∧ decode cX10_begin 48 = .ok (.getfield 35, 3) ∧ decode cX10_begin 51 = .ok (.invokevirtual 100, 3) ∧ decode cX10_begin 54 = .ok (.aload_n 0, 1) ∧ decode cX10_begin 55 = .ok (.getfield 42, 3) ∧ decode cX10_begin 58 = .ok (.invokevirtual 103, 3) ∧ decode cX10_begin 61 = .ok (.aload_n 0, 1) ∧ decode cX10_begin 62 = .ok (.getfield 49, 3) ∧ decode cX10_begin 65 = .ok (.invokevirtual 104, 3) ∧ decode cX10_begin 68 = .ok (.aload_n 0, 1) := by decide +kernel
theorem dX10_begin_32 : decode cX10_begin 32 = .ok (.getfield 28, 3) := dX10_begin_32_k.1
theorem dX10_begin_35 : decode cX10_begin 35 = .ok (.aload_n 0, 1) := dX10_begin_32_k.2.1
theorem dX10_begin_36 : decode cX10_begin 36 = .ok (.getfield 12, 3) := dX10_begin_32_k.2.2.1
theorem dX10_begin_39 : decode cX10_begin 39 = .ok (.bipush 8, 2) := dX10_begin_32_k.2.2.2.1
theorem dX10_begin_41 : decode cX10_begin 41 = .ok (.invokevirtual 89, 3) := dX10_begin_32_k.2.2.2.2.1
theorem dX10_begin_44 : decode cX10_begin 44 = .ok (.invokevirtual 97, 3) := dX10_begin_32_k.2.2.2.2.2.1
theorem dX10_begin_47 : decode cX10_begin 47 = .ok (.aload_n 0, 1) := dX10_begin_32_k.2.2.2.2.2.2.1
theorem dX10_begin_48 : decode cX10_begin 48 = .ok (.getfield 35, 3) := dX10_begin_32_k.2.2.2.2.2.2.2.1
theorem dX10_begin_51 : decode cX10_begin 51 = .ok (.invokevirtual 100, 3) := dX10_begin_32_k.2.2.2.2.2.2.2.2.1
theorem dX10_begin_54 : decode cX10_begin 54 = .ok (.aload_n 0, 1) := dX10_begin_32_k.2.2.2.2.2.2.2.2.2.1
theorem dX10_begin_55 : decode cX10_begin 55 = .ok (.getfield 42, 3) := dX10_begin_32_k.2.2.2.2.2.2.2.2.2.2.1
theorem dX10_begin_58 : decode cX10_begin 58 = .ok (.invokevirtual 103, 3) := dX10_begin_32_k.2.2.2.2.2.2.2.2.2.2.2.1
theorem dX10_begin_61 : decode cX10_begin 61 = .ok (.aload_n 0, 1) := dX10_begin_32_k.2.2.2.2.2.2.2.2.2.2.2.2.1
theorem dX10_begin_62 : decode cX10_begin 62 = .ok (.getfield 49, 3) := dX10_begin_32_k.2.2.2.2.2.2.2.2.2.2.2.2.2.1
theorem dX10_begin_65 : decode cX10_begin 65 = .ok (.invokevirtual 104, 3) := dX10_begin_32_k.2.2.2.2.2.2.2.2.2.2.2.2.2.2.1
theorem dX10_begin_68 : decode cX10_begin 68 = .ok (.aload_n 0, 1) := dX10_begin_32_k.2.2.2.2.2.2.2.2.2.2.2.2.2.2.2
theorem dX10_begin_69_k : decode cX10_begin 69 = .ok (.getfield 56, 3) ∧ decode cX10_begin 72 = .ok (.invokevirtual 105, 3) ∧ decode cX10_begin 75 = .ok (.aload_n 0, 1) ∧ decode cX10_begin 76 = .ok (.getfield 63, 3) ∧ decode cX10_begin 79 = .ok (.invokevirtual 106, 3) ∧ decode cX10_begin 82 = .ok (.aload_n 0, 1) ∧ decode cX10_begin 83 = .ok (.iconst 0, 1) ∧ decode cX10_begin 84 = .ok (.putfield 67, 3) ∧ decode cX10_begin 87 = .ok (.aload_n 0, 1) ∧ decode cX10_begin 88 = .ok (.iconst 0, 1) ∧ decode cX10_begin 89 = .ok (.putfield 71, 3) ∧ decode cX10_begin 92 = .ok (.aload_n 0, 1) ∧ decode cX10_begin 93 = .ok (.iconst 0, 1) ∧ decode cX10_begin 94 = .ok (.putfield 74, 3) ∧ decode cX10_begin 97 = .ok (.aload_n 0, 1) ∧ decode cX10_begin 98 = .ok (.iconst 0, 1) := by decide +kernel
theorem dX10_begin_69 : decode cX10_begin 69 = .ok (.getfield 56, 3) := dX10_begin_69_k.1
theorem dX10_begin_72 : decode cX10_begin 72 = .ok (.invokevirtual 105, 3) := dX10_begin_69_k.2.1
theorem dX10_begin_75 : decode cX10_begin 75 = .ok (.aload_n 0, 1) := dX10_begin_69_k.2.2.1
theorem dX10_begin_76 : decode cX10_begin 76 = .ok (.getfield 63, 3) := dX10_begin_69_k.2.2.2.1
theorem dX10_begin_79 : decode cX10_begin 79 = .ok (.invokevirtual 106, 3) := dX10_begin_69_k.2.2.2.2.1
theorem dX10_begin_82 : decode cX10_begin 82 = .ok (.aload_n 0, 1) := dX10_begin_69_k.2.2.2.2.2.1
theorem dX10_begin_83 : decode cX10_begin 83 = .ok (.iconst 0, 1) := dX10_begin_69_k.2.2.2.2.2.2.1
theorem dX10_begin_84 : decode cX10_begin 84 = .ok (.putfield 67, 3) := dX10_begin_69_k.2.2.2.2.2.2.2.1
theorem dX10_begin_87 : decode cX10_begin 87 = .ok (.aload_n 0, 1) := dX10_begin_69_k.2.2.2.2.2.2.2.2.1
theorem dX10_begin_88 : decode cX10_begin 88 = .ok (.iconst 0, 1) := dX10_begin_69_k.2.2.2.2.2.2.2.2.2.1
theorem dX10_begin_89 : decode cX10_begin 89 = .ok (.putfield 71, 3) := dX10_begin_69_k.2.2.2.2.2.2.2.2.2.2.1
theorem dX10_begin_92 : decode cX10_begin 92 = .ok (.aload_n 0, 1) := dX10_begin_69_k.2.2.2.2.2.2.2.2.2.2.2.1
theorem dX10_begin_93 : decode cX10_begin 93 = .ok (.iconst 0, 1) := dX10_begin_69_k.2.2.2.2.2.2.2.2.2.2.2.2.1
theorem dX10_begin_94 : decode cX10_begin 94 = .ok (.putfield 74, 3) := dX10_begin_69_k.2.2.2.2.2.2.2.2.2.2.2.2.2.1
theorem dX10_begin_97 : decode cX10_begin 97 = .ok (.aload_n 0, 1) := dX10_begin_69_k.2.2.2.2.2.2.2.2.2.2.2.2.2.2.1
theorem dX10_begin_98 : decode cX10_begin 98 = .ok (.iconst 0, 1) := dX10_begin_69_k.2.2.2.2.2.2.2.2.2.2.2.2.2.2.2
theorem dX10_begin_99_k : decode cX10_begin 99 = .ok (.putfield 77, 3) ∧ decode cX10_begin 102 = .ok (.aload_n 0, 1) ∧ decode cX10_begin 103 = .ok (.iconst 0, 1) ∧ decode cX10_begin 104 = .ok (.putfield 80, 3) ∧ decode cX10_begin 107 = .ok (.aload_n 0, 1) ∧ decode cX10_begin 108 = .ok (.iconst 0, 1) ∧ decode cX10_begin 109 = .ok (.putfield 83, 3) ∧ decode cX10_begin 112 = .ok (.return_, 1) := by decide +kernel
theorem dX10_begin_99 : decode cX10_begin 99 = .ok (.putfield 77, 3) := dX10_begin_99_k.1
theorem dX10_begin_102 : decode cX10_begin 102 = .ok (.aload_n 0, 1) := dX10_begin_99_k.2.1
theorem dX10_begin_103 : decode cX10_begin 103 = .ok (.iconst 0, 1) := dX10_begin_99_k.2.2.1
theorem dX10_begin_104 : decode cX10_begin 104 = .ok (.putfield 80, 3) := dX10_begin_99_k.2.2.2.1
theorem dX10_begin_107 : decode cX10_begin 107 = .ok (.aload_n 0, 1) := dX10_begin_99_k.2.2.2.2.1
theorem dX10_begin_108 : decode cX10_begin 108 = .ok (.iconst 0, 1) := dX10_begin_99_k.2.2.2.2.2.1
theorem dX10_begin_109 : decode cX10_begin 109 = .ok (.putfield 83, 3) := dX10_begin_99_k.2.2.2.2.2.2.1
theorem dX10_begin_112 : decode cX10_begin 112 = .ok (.return_, 1) := dX10_begin_99_k.2.2.2.2.2.2.2
theorem dX10_beginStart_0_k : decode cX10_beginStart 0 = .ok (.aload_n 0, 1) ∧ decode cX10_beginStart 1 = .ok (.getfield 42, 3) ∧ decode cX10_beginStart 4 = .ok (.invokevirtual 107, 3) ∧ decode cX10_beginStart 7 = .ok (.aload_n 0, 1) ∧ decode cX10_beginStart 8 = .ok (.getfield 35, 3) ∧ decode cX10_beginStart 11 = .ok (.invokevirtual 100, 3) ∧ decode cX10_beginStart 14 = .ok (.aload_n 0, 1) ∧ decode cX10_beginStart 15 = .ok (.getfield 56, 3) ∧ decode cX10_beginStart 18 = .ok (.invokevirtual 110, 3) ∧ decode cX10_beginStart 21 = .ok (.aload_n 0, 1) ∧ decode cX10_beginStart 22 = .ok (.iconst 0, 1) ∧ decode cX10_beginStart 23 = .ok (.putfield 83, 3) ∧ decode cX10_beginStart 26 = .ok (.aload_n 0, 1) ∧ decode cX10_beginStart 27 = .ok (.dup, 1) ∧ decode cX10_beginStart 28 = .ok (.getfield 77, 3) ∧ decode cX10_beginStart 31 = .ok (.iconst 1, 1) := by decide +kernel
theorem dX10_beginStart_0 : decode cX10_beginStart 0 = .ok (.aload_n 0, 1) := dX10_beginStart_0_k.1
theorem dX10_beginStart_1 : decode cX10_beginStart 1 = .ok (.getfield 42, 3) := dX10_beginStart_0_k.2.1
theorem dX10_beginStart_4 : decode cX10_beginStart 4 = .ok (.invokevirtual 107, 3) := dX10_beginStart_0_k.2.2.1
theorem dX10_beginStart_7 : decode cX10_beginStart 7 = .ok (.aload_n 0, 1) := dX10_beginStart_0_k.2.2.2.1
theorem dX10_beginStart_8 : decode cX10_beginStart 8 = .ok (.getfield 35, 3) := dX10_beginStart_0_k.2.2.2.2.1
theorem dX10_beginStart_11 : decode cX10_beginStart 11 = .ok (.invokevirtual 100, 3) := dX10_beginStart_0_k.2.2.2.2.2.1
theorem dX10_beginStart_14 : decode cX10_beginStart 14 = .ok (.aload_n 0, 1) := dX10_beginStart_0_k.2.2.2.2.2.2.1
theorem dX10_beginStart_15 : decode cX10_beginStart 15 = .ok (.getfield 56, 3) := dX10_beginStart_0_k.2.2.2.2.2.2.2.1
theorem dX10_beginStart_18 : decode cX10_beginStart 18 = .ok (.invokevirtual 110, 3) := dX10_beginStart_0_k.2.2.2.2.2.2.2.2.1
theorem dX10_beginStart_21 : decode cX10_beginStart 21 = .ok (.aload_n 0, 1) := dX10_beginStart_0_k.2.2.2.2.2.2.2.2.2.1
theorem dX10_beginStart_22 : decode cX10_beginStart 22 = .ok (.iconst 0, 1) := dX10_beginStart_0_k.2.2.2.2.2.2.2.2.2.2.1
theorem dX10_beginStart_23 : decode cX10_beginStart 23 = .ok (.putfield 83, 3) := dX10_beginStart_0_k.2.2.2.2.2.2.2.2.2.2.2.1
theorem dX10_beginStart_26 : decode cX10_beginStart 26 = .ok (.aload_n 0, 1) := dX10_beginStart_0_k.2.2.2.2.2.2.2.2.2.2.2.2.1
theorem dX10_beginStart_27 : decode cX10_beginStart 27 = .ok (.dup, 1) := dX10_beginStart_0_k.2.2.2.2.2.2.2.2.2.2.2.2.2.1
theorem dX10_beginStart_28 : decode cX10_beginStart 28 = .ok (.getfield 77, 3) := dX10_beginStart_0_k.2.2.2.2.2.2.2.2.2.2.2.2.2.2.1
theorem dX10_beginStart_31 : decode cX10_beginStart 31 = .ok (.iconst 1, 1) := dX10_beginStart_0_k.2.2.2.2.2.2.2.2.2.2.2.2.2.2.2
theorem dX10_beginStart_32_k : decode cX10_beginStart 32 = .ok (.iadd, 1) ∧ decode cX10_beginStart 33 = .ok (.putfield 77, 3) ∧ decode cX10_beginStart 36 = .ok (.aload_n 0, 1) ∧ decode cX10_beginStart 37 = .ok (.aload_n 0, 1) ∧ decode cX10_beginStart 38 = .ok (.getfield 12, 3) ∧ decode cX10_beginStart 41 = .ok (.iconst 3, 1) ∧ decode cX10_beginStart 42 = .ok (.invokevirtual 89, 3) ∧ decode cX10_beginStart 45 = .ok (.ifCond .ne 7, 3) ∧ decode cX10_beginStart 48 = .ok (.iconst 2, 1) ∧ decode cX10_beginStart 49 = .ok (.goto 4, 3) ∧ decode cX10_beginStart 52 = .ok (.iconst 1, 1) ∧ decode cX10_beginStart 53 = .ok (.putfield 67, 3) ∧ decode cX10_beginStart 56 = .ok (.return_, 1) := by decide +kernel
theorem dX10_beginStart_32 : decode cX10_beginStart 32 = .ok (.iadd, 1) := dX10_beginStart_32_k.1
theorem dX10_beginStart_33 : decode cX10_beginStart 33 = .ok (.putfield 77, 3) := dX10_beginStart_32_k.2.1
theorem dX10_beginStart_36 : decode cX10_beginStart 36 = .ok (.aload_n 0, 1) := dX10_beginStart_32_k.2.2.1
theorem dX10_beginStart_37 : decode cX10_beginStart 37 = .ok (.aload_n 0, 1) := dX10_beginStart_32_k.2.2.2.1
theorem dX10_beginStart_38 : decode cX10_beginStart 38 = .ok (.getfield 12, 3) := dX10_beginStart_32_k.2.2.2.2.1
theorem dX10_beginStart_41 : decode cX10_beginStart 41 = .ok (.iconst 3, 1) := dX10_beginStart_32_k.2.2.2.2.2.1
theorem dX10_beginStart_42 : decode cX10_beginStart 42 = .ok (.invokevirtual 89, 3) := dX10_beginStart_32_k.2.2.2.2.2.2.1
theorem dX10_beginStart_45 : decode cX10_beginStart 45 = .ok (.ifCond .ne 7, 3) := dX10_beginStart_32_k.2.2.2.2.2.2.2.1
theorem dX10_beginStart_48 : decode cX10_beginStart 48 = .ok (.iconst 2, 1) := dX10_beginStart_32_k.2.2.2.2.2.2.2.2.1
theorem dX10_beginStart_49 : decode cX10_beginStart 49 = .ok (.goto 4, 3) := dX10_beginStart_32_k.2.2.2.2.2.2.2.2.2.1
theorem dX10_beginStart_52 : decode cX10_beginStart 52 = .ok (.iconst 1, 1) := dX10_beginStart_32_k.2.2.2.2.2.2.2.2.2.2.1
theorem dX10_beginStart_53 : decode cX10_beginStart 53 = .ok (.putfield 67, 3) := dX10_beginStart_32_k.2.2.2.2.2.2.2.2.2.2.2.1
theorem dX10_beginStart_56 : decode cX10_beginStart 56 = .ok (.return_, 1) := dX10_beginStart_32_k.2.2.2.2.2.2.2.2.2.2.2.2
theorem dX10_turnOff_0_k : decode cX10_turnOff 0 = .ok (.aload_n 0, 1) ∧ decode cX10_turnOff 1 = .ok (.getfield 42, 3) ∧ decode cX10_turnOff 4 = .ok (.invokevirtual 107, 3) ∧ decode cX10_turnOff 7 = .ok (.aload_n 0, 1) ∧ decode cX10_turnOff 8 = .ok (.getfield 35, 3) ∧ decode cX10_turnOff 11 = .ok (.invokevirtual 100, 3) ∧ decode cX10_turnOff 14 = .ok (.aload_n 0, 1) ∧ decode cX10_turnOff 15 = .ok (.iconst 0, 1) ∧ decode cX10_turnOff 16 = .ok (.putfield 67, 3) ∧ decode cX10_turnOff 19 = .ok (.return_, 1) := by decide +kernel
theorem dX10_turnOff_0 : decode cX10_turnOff 0 = .ok (.aload_n 0, 1) := dX10_turnOff_0_k.1
theorem dX10_turnOff_1 : decode cX10_turnOff 1 = .ok (.getfield 42, 3) := dX10_turnOff_0_k.2.1
theorem dX10_turnOff_4 : decode cX10_turnOff 4 = .ok (.invokevirtual 107, 3) := dX10_turnOff_0_k.2.2.1
theorem dX10_turnOff_7 : decode cX10_turnOff 7 = .ok (.aload_n 0, 1) := dX10_turnOff_0_k.2.2.2.1
theorem dX10_turnOff_8 : decode cX10_turnOff 8 = .ok (.getfield 35, 3) := dX10_turnOff_0_k.2.2.2.2.1
theorem dX10_turnOff_11 : decode cX10_turnOff 11 = .ok (.invokevirtual 100, 3) := dX10_turnOff_0_k.2.2.2.2.2.1
theorem dX10_turnOff_14 : decode cX10_turnOff 14 = .ok (.aload_n 0, 1) := dX10_turnOff_0_k.2.2.2.2.2.2.1
theorem dX10_turnOff_15 : decode cX10_turnOff 15 = .ok (.iconst 0, 1) := dX10_turnOff_0_k.2.2.2.2.2.2.2.1
theorem dX10_turnOff_16 : decode cX10_turnOff 16 = .ok (.putfield 67, 3) := dX10_turnOff_0_k.2.2.2.2.2.2.2.2.1
theorem dX10_turnOff_19 : decode cX10_turnOff 19 = .ok (.return_, 1) := dX10_turnOff_0_k.2.2.2.2.2.2.2.2.2
theorem dX10_drawMany_0_k : decode cX10_drawMany 0 = .ok (.iconst 0, 1) ∧ decode cX10_drawMany 1 = .ok (.istore_n 2, 1) ∧ decode cX10_drawMany 2 = .ok (.iconst 0, 1) ∧ decode cX10_drawMany 3 = .ok (.istore_n 3, 1) ∧ decode cX10_drawMany 4 = .ok (.iload_n 3, 1) ∧ decode cX10_drawMany 5 = .ok (.iload_n 1, 1) ∧ decode cX10_drawMany 6 = .ok (.if_icmp .ge 30, 3) ∧ decode cX10_drawMany 9 = .ok (.aload_n 0, 1) ∧ decode cX10_drawMany 10 = .ok (.aload_n 0, 1) ∧ decode cX10_drawMany 11 = .ok (.getfield 28, 3) ∧ decode cX10_drawMany 14 = .ok (.aload_n 0, 1) ∧ decode cX10_drawMany 15 = .ok (.getfield 12, 3) ∧ decode cX10_drawMany 18 = .ok (.invokevirtual 113, 3) ∧ decode cX10_drawMany 21 = .ok (.invokevirtual 117, 3) ∧ decode cX10_drawMany 24 = .ok (.ifCond .eq 6, 3) ∧ decode cX10_drawMany 27 = .ok (.iinc 2 1, 3) := by decide +kernel
theorem dX10_drawMany_0 : decode cX10_drawMany 0 = .ok (.iconst 0, 1) := dX10_drawMany_0_k.1
theorem dX10_drawMany_1 : decode cX10_drawMany 1 = .ok (.istore_n 2, 1) := dX10_drawMany_0_k.2.1
theorem dX10_drawMany_2 : decode cX10_drawMany 2 = .ok (.iconst 0, 1) := dX10_drawMany_0_k.2.2.1
theorem dX10_drawMany_3 : decode cX10_drawMany 3 = .ok (.istore_n 3, 1) := dX10_drawMany_0_k.2.2.2.1
theorem dX10_drawMany_4 : decode cX10_drawMany 4 = .ok (.iload_n 3, 1) := dX10_drawMany_0_k.2.2.2.2.1
theorem dX10_drawMany_5 : decode cX10_drawMany 5 = .ok (.iload_n 1, 1) := dX10_drawMany_0_k.2.2.2.2.2.1
theorem dX10_drawMany_6 : decode cX10_drawMany 6 = .ok (.if_icmp .ge 30, 3) := dX10_drawMany_0_k.2.2.2.2.2.2.1
theorem dX10_drawMany_9 : decode cX10_drawMany 9 = .ok (.aload_n 0, 1) := dX10_drawMany_0_k.2.2.2.2.2.2.2.1
theorem dX10_drawMany_10 : decode cX10_drawMany 10 = .ok (.aload_n 0, 1) := dX10_drawMany_0_k.2.2.2.2.2.2.2.2.1
theorem dX10_drawMany_11 : decode cX10_drawMany 11 = .ok (.getfield 28, 3) := dX10_drawMany_0_k.2.2.2.2.2.2.2.2.2.1
theorem dX10_drawMany_14 : decode cX10_drawMany 14 = .ok (.aload_n 0, 1) := dX10_drawMany_0_k.2.2.2.2.2.2.2.2.2.2.1
theorem dX10_drawMany_15 : decode cX10_drawMany 15 = .ok (.getfield 12, 3) := dX10_drawMany_0_k.2.2.2.2.2.2.2.2.2.2.2.1
theorem dX10_drawMany_18 : decode cX10_drawMany 18 = .ok (.invokevirtual 113, 3) := dX10_drawMany_0_k.2.2.2.2.2.2.2.2.2.2.2.2.1
theorem dX10_drawMany_21 : decode cX10_drawMany 21 = .ok (.invokevirtual 117, 3) := dX10_drawMany_0_k.2.2.2.2.2.2.2.2.2.2.2.2.2.1
theorem dX10_drawMany_24 : decode cX10_drawMany 24 = .ok (.ifCond .eq 6, 3) := dX10_drawMany_0_k.2.2.2.2.2.2.2.2.2.2.2.2.2.2.1
theorem dX10_drawMany_27 : decode cX10_drawMany 27 = .ok (.iinc 2 1, 3) := dX10_drawMany_0_k.2.2.2.2.2.2.2.2.2.2.2.2.2.2.2
theorem dX10_drawMany_30_k : decode cX10_drawMany 30 = .ok (.iinc 3 1, 3) ∧ decode cX10_drawMany 33 = .ok (.goto (-29), 3) ∧ decode cX10_drawMany 36 = .ok (.iload_n 2, 1) ∧ decode cX10_drawMany 37 = .ok (.ireturn, 1) := by decide +kernel
theorem dX10_drawMany_30 : decode cX10_drawMany 30 = .ok (.iinc 3 1, 3) := dX10_drawMany_30_k.1
theorem dX10_drawMany_33 : decode cX10_drawMany 33 = .ok (.goto (-29), 3) := dX10_drawMany_30_k.2.1
theorem dX10_drawMany_36 : decode cX10_drawMany 36 = .ok (.iload_n 2, 1) := dX10_drawMany_30_k.2.2.1
theorem dX10_drawMany_37 : decode cX10_drawMany 37 = .ok (.ireturn, 1) := dX10_drawMany_30_k.2.2.2
theorem dX10_hear_0_k : decode cX10_hear 0 = .ok (.aload_n 0, 1) ∧ decode cX10_hear 1 = .ok (.getfield 67, 3) ∧ decode cX10_hear 4 = .ok (.ifCond .eq 11, 3) ∧ decode cX10_hear 7 = .ok (.aload_n 0, 1) ∧ decode cX10_hear 8 = .ok (.getfield 67, 3) ∧ decode cX10_hear 11 = .ok (.iconst 3, 1) ∧ decode cX10_hear 12 = .ok (.if_icmp .ne 5, 3) ∧ decode cX10_hear 15 = .ok (.iconst 0, 1) ∧ decode cX10_hear 16 = .ok (.ireturn, 1) ∧ decode cX10_hear 17 = .ok (.aload_n 0, 1) ∧ decode cX10_hear 18 = .ok (.dup, 1) ∧ decode cX10_hear 19 = .ok (.getfield 80, 3) ∧ decode cX10_hear 22 = .ok (.iconst 1, 1) ∧ decode cX10_hear 23 = .ok (.iadd, 1) ∧ decode cX10_hear 24 = .ok (.putfield 80, 3) ∧ decode cX10_hear 27 = .ok (.aload_n 0, 1) := by decide +kernel
theorem dX10_hear_0 : decode cX10_hear 0 = .ok (.aload_n 0, 1) := dX10_hear_0_k.1
theorem dX10_hear_1 : decode cX10_hear 1 = .ok (.getfield 67, 3) := dX10_hear_0_k.2.1
theorem dX10_hear_4 : decode cX10_hear 4 = .ok (.ifCond .eq 11, 3) := dX10_hear_0_k.2.2.1
theorem dX10_hear_7 : decode cX10_hear 7 = .ok (.aload_n 0, 1) := dX10_hear_0_k.2.2.2.1
theorem dX10_hear_8 : decode cX10_hear 8 = .ok (.getfield 67, 3) := dX10_hear_0_k.2.2.2.2.1
theorem dX10_hear_11 : decode cX10_hear 11 = .ok (.iconst 3, 1) := dX10_hear_0_k.2.2.2.2.2.1
theorem dX10_hear_12 : decode cX10_hear 12 = .ok (.if_icmp .ne 5, 3) := dX10_hear_0_k.2.2.2.2.2.2.1
theorem dX10_hear_15 : decode cX10_hear 15 = .ok (.iconst 0, 1) := dX10_hear_0_k.2.2.2.2.2.2.2.1
theorem dX10_hear_16 : decode cX10_hear 16 = .ok (.ireturn, 1) := dX10_hear_0_k.2.2.2.2.2.2.2.2.1
theorem dX10_hear_17 : decode cX10_hear 17 = .ok (.aload_n 0, 1) := dX10_hear_0_k.2.2.2.2.2.2.2.2.2.1
theorem dX10_hear_18 : decode cX10_hear 18 = .ok (.dup, 1) := dX10_hear_0_k.2.2.2.2.2.2.2.2.2.2.1
theorem dX10_hear_19 : decode cX10_hear 19 = .ok (.getfield 80, 3) := dX10_hear_0_k.2.2.2.2.2.2.2.2.2.2.2.1
theorem dX10_hear_22 : decode cX10_hear 22 = .ok (.iconst 1, 1) := dX10_hear_0_k.2.2.2.2.2.2.2.2.2.2.2.2.1
theorem dX10_hear_23 : decode cX10_hear 23 = .ok (.iadd, 1) := dX10_hear_0_k.2.2.2.2.2.2.2.2.2.2.2.2.2.1
theorem dX10_hear_24 : decode cX10_hear 24 = .ok (.putfield 80, 3) := dX10_hear_0_k.2.2.2.2.2.2.2.2.2.2.2.2.2.2.1
theorem dX10_hear_27 : decode cX10_hear 27 = .ok (.aload_n 0, 1) := dX10_hear_0_k.2.2.2.2.2.2.2.2.2.2.2.2.2.2.2
theorem dX10_hear_28_k : decode cX10_hear 28 = .ok (.dup, 1) ∧ decode cX10_hear 29 = .ok (.getfield 83, 3) ∧ decode cX10_hear 32 = .ok (.iconst 1, 1) ∧ decode cX10_hear 33 = .ok (.iadd, 1) ∧ decode cX10_hear 34 = .ok (.putfield 83, 3) ∧ decode cX10_hear 37 = .ok (.aload_n 0, 1) ∧ decode cX10_hear 38 = .ok (.getfield 49, 3) ∧ decode cX10_hear 41 = .ok (.getfield 121, 3) ∧ decode cX10_hear 44 = .ok (.sipush 400, 3) ∧ decode cX10_hear 47 = .ok (.if_icmp .lt 11, 3) ∧ decode cX10_hear 50 = .ok (.aload_n 0, 1) ∧ decode cX10_hear 51 = .ok (.getfield 49, 3) ∧ decode cX10_hear 54 = .ok (.invokevirtual 124, 3) ∧ decode cX10_hear 57 = .ok (.pop, 1) ∧ decode cX10_hear 58 = .ok (.aload_n 0, 1) ∧ decode cX10_hear 59 = .ok (.getfield 49, 3) := by decide +kernel
theorem dX10_hear_28 : decode cX10_hear 28 = .ok (.dup, 1) := dX10_hear_28_k.1
theorem dX10_hear_29 : decode cX10_hear 29 = .ok (.getfield 83, 3) := dX10_hear_28_k.2.1
theorem dX10_hear_32 : decode cX10_hear 32 = .ok (.iconst 1, 1) := dX10_hear_28_k.2.2.1
theorem dX10_hear_33 : decode cX10_hear 33 = .ok (.iadd, 1) := dX10_hear_28_k.2.2.2.1
theorem dX10_hear_34 : decode cX10_hear 34 = .ok (.putfield 83, 3) := dX10_hear_28_k.2.2.2.2.1
theorem dX10_hear_37 : decode cX10_hear 37 = .ok (.aload_n 0, 1) := dX10_hear_28_k.2.2.2.2.2.1
theorem dX10_hear_38 : decode cX10_hear 38 = .ok (.getfield 49, 3) := dX10_hear_28_k.2.2.2.2.2.2.1
theorem dX10_hear_41 : decode cX10_hear 41 = .ok (.getfield 121, 3) := dX10_hear_28_k.2.2.2.2.2.2.2.1
theorem dX10_hear_44 : decode cX10_hear 44 = .ok (.sipush 400, 3) := dX10_hear_28_k.2.2.2.2.2.2.2.2.1
theorem dX10_hear_47 : decode cX10_hear 47 = .ok (.if_icmp .lt 11, 3) := dX10_hear_28_k.2.2.2.2.2.2.2.2.2.1
theorem dX10_hear_50 : decode cX10_hear 50 = .ok (.aload_n 0, 1) := dX10_hear_28_k.2.2.2.2.2.2.2.2.2.2.1
theorem dX10_hear_51 : decode cX10_hear 51 = .ok (.getfield 49, 3) := dX10_hear_28_k.2.2.2.2.2.2.2.2.2.2.2.1
theorem dX10_hear_54 : decode cX10_hear 54 = .ok (.invokevirtual 124, 3) := dX10_hear_28_k.2.2.2.2.2.2.2.2.2.2.2.2.1
theorem dX10_hear_57 : decode cX10_hear 57 = .ok (.pop, 1) := dX10_hear_28_k.2.2.2.2.2.2.2.2.2.2.2.2.2.1
theorem dX10_hear_58 : decode cX10_hear 58 = .ok (.aload_n 0, 1) := dX10_hear_28_k.2.2.2.2.2.2.2.2.2.2.2.2.2.2.1
theorem dX10_hear_59 : decode cX10_hear 59 = .ok (.getfield 49, 3) := dX10_hear_28_k.2.2.2.2.2.2.2.2.2.2.2.2.2.2.2
theorem dX10_hear_62_k : decode cX10_hear 62 = .ok (.iload_n 1, 1) ∧ decode cX10_hear 63 = .ok (.invokevirtual 128, 3) ∧ decode cX10_hear 66 = .ok (.aload_n 0, 1) ∧ decode cX10_hear 67 = .ok (.getfield 56, 3) ∧ decode cX10_hear 70 = .ok (.iload_n 1, 1) ∧ decode cX10_hear 71 = .ok (.invokevirtual 131, 3) ∧ decode cX10_hear 74 = .ok (.aload_n 0, 1) ∧ decode cX10_hear 75 = .ok (.getfield 35, 3) ∧ decode cX10_hear 78 = .ok (.iload_n 1, 1) ∧ decode cX10_hear 79 = .ok (.aload_n 0, 1) ∧ decode cX10_hear 80 = .ok (.getfield 12, 3) ∧ decode cX10_hear 83 = .ok (.iconst 2, 1) ∧ decode cX10_hear 84 = .ok (.invokevirtual 89, 3) ∧ decode cX10_hear 87 = .ok (.invokevirtual 132, 3) ∧ decode cX10_hear 90 = .ok (.aload_n 0, 1) ∧ decode cX10_hear 91 = .ok (.getfield 21, 3) := by decide +kernel
theorem dX10_hear_62 : decode cX10_hear 62 = .ok (.iload_n 1, 1) := dX10_hear_62_k.1
theorem dX10_hear_63 : decode cX10_hear 63 = .ok (.invokevirtual 128, 3) := dX10_hear_62_k.2.1
theorem dX10_hear_66 : decode cX10_hear 66 = .ok (.aload_n 0, 1) := dX10_hear_62_k.2.2.1
theorem dX10_hear_67 : decode cX10_hear 67 = .ok (.getfield 56, 3) := dX10_hear_62_k.2.2.2.1
theorem dX10_hear_70 : decode cX10_hear 70 = .ok (.iload_n 1, 1) := dX10_hear_62_k.2.2.2.2.1
theorem dX10_hear_71 : decode cX10_hear 71 = .ok (.invokevirtual 131, 3) := dX10_hear_62_k.2.2.2.2.2.1
theorem dX10_hear_74 : decode cX10_hear 74 = .ok (.aload_n 0, 1) := dX10_hear_62_k.2.2.2.2.2.2.1
theorem dX10_hear_75 : decode cX10_hear 75 = .ok (.getfield 35, 3) := dX10_hear_62_k.2.2.2.2.2.2.2.1
theorem dX10_hear_78 : decode cX10_hear 78 = .ok (.iload_n 1, 1) := dX10_hear_62_k.2.2.2.2.2.2.2.2.1
theorem dX10_hear_79 : decode cX10_hear 79 = .ok (.aload_n 0, 1) := dX10_hear_62_k.2.2.2.2.2.2.2.2.2.1
theorem dX10_hear_80 : decode cX10_hear 80 = .ok (.getfield 12, 3) := dX10_hear_62_k.2.2.2.2.2.2.2.2.2.2.1
theorem dX10_hear_83 : decode cX10_hear 83 = .ok (.iconst 2, 1) := dX10_hear_62_k.2.2.2.2.2.2.2.2.2.2.2.1
theorem dX10_hear_84 : decode cX10_hear 84 = .ok (.invokevirtual 89, 3) := dX10_hear_62_k.2.2.2.2.2.2.2.2.2.2.2.2.1
theorem dX10_hear_87 : decode cX10_hear 87 = .ok (.invokevirtual 132, 3) := dX10_hear_62_k.2.2.2.2.2.2.2.2.2.2.2.2.2.1
theorem dX10_hear_90 : decode cX10_hear 90 = .ok (.aload_n 0, 1) := dX10_hear_62_k.2.2.2.2.2.2.2.2.2.2.2.2.2.2.1
theorem dX10_hear_91 : decode cX10_hear 91 = .ok (.getfield 21, 3) := dX10_hear_62_k.2.2.2.2.2.2.2.2.2.2.2.2.2.2.2
theorem dX10_hear_94_k : decode cX10_hear 94 = .ok (.aload_n 0, 1) ∧ decode cX10_hear 95 = .ok (.getfield 35, 3) ∧ decode cX10_hear 98 = .ok (.invokevirtual 135, 3) ∧ decode cX10_hear 101 = .ok (.istore_n 2, 1) ∧ decode cX10_hear 102 = .ok (.iload_n 2, 1) ∧ decode cX10_hear 103 = .ok (.ifCond .eq 11, 3) ∧ decode cX10_hear 106 = .ok (.aload_n 0, 1) ∧ decode cX10_hear 107 = .ok (.iload_n 2, 1) ∧ decode cX10_hear 108 = .ok (.invokevirtual 139, 3) ∧ decode cX10_hear 111 = .ok (.goto 46, 3) ∧ decode cX10_hear 114 = .ok (.aload_n 0, 1) ∧ decode cX10_hear 115 = .ok (.getfield 67, 3) ∧ decode cX10_hear 118 = .ok (.iconst 2, 1) ∧ decode cX10_hear 119 = .ok (.if_icmp .ne 18, 3) ∧ decode cX10_hear 122 = .ok (.aload_n 0, 1) ∧ decode cX10_hear 123 = .ok (.getfield 42, 3) := by decide +kernel
theorem dX10_hear_94 : decode cX10_hear 94 = .ok (.aload_n 0, 1) := dX10_hear_94_k.1
theorem dX10_hear_95 : decode cX10_hear 95 = .ok (.getfield 35, 3) := dX10_hear_94_k.2.1
theorem dX10_hear_98 : decode cX10_hear 98 = .ok (.invokevirtual 135, 3) := dX10_hear_94_k.2.2.1
theorem dX10_hear_101 : decode cX10_hear 101 = .ok (.istore_n 2, 1) := dX10_hear_94_k.2.2.2.1
theorem dX10_hear_102 : decode cX10_hear 102 = .ok (.iload_n 2, 1) := dX10_hear_94_k.2.2.2.2.1
theorem dX10_hear_103 : decode cX10_hear 103 = .ok (.ifCond .eq 11, 3) := dX10_hear_94_k.2.2.2.2.2.1
theorem dX10_hear_106 : decode cX10_hear 106 = .ok (.aload_n 0, 1) := dX10_hear_94_k.2.2.2.2.2.2.1
theorem dX10_hear_107 : decode cX10_hear 107 = .ok (.iload_n 2, 1) := dX10_hear_94_k.2.2.2.2.2.2.2.1
theorem dX10_hear_108 : decode cX10_hear 108 = .ok (.invokevirtual 139, 3) := dX10_hear_94_k.2.2.2.2.2.2.2.2.1
theorem dX10_hear_111 : decode cX10_hear 111 = .ok (.goto 46, 3) := dX10_hear_94_k.2.2.2.2.2.2.2.2.2.1
theorem dX10_hear_114 : decode cX10_hear 114 = .ok (.aload_n 0, 1) := dX10_hear_94_k.2.2.2.2.2.2.2.2.2.2.1
theorem dX10_hear_115 : decode cX10_hear 115 = .ok (.getfield 67, 3) := dX10_hear_94_k.2.2.2.2.2.2.2.2.2.2.2.1
theorem dX10_hear_118 : decode cX10_hear 118 = .ok (.iconst 2, 1) := dX10_hear_94_k.2.2.2.2.2.2.2.2.2.2.2.2.1
theorem dX10_hear_119 : decode cX10_hear 119 = .ok (.if_icmp .ne 18, 3) := dX10_hear_94_k.2.2.2.2.2.2.2.2.2.2.2.2.2.1
theorem dX10_hear_122 : decode cX10_hear 122 = .ok (.aload_n 0, 1) := dX10_hear_94_k.2.2.2.2.2.2.2.2.2.2.2.2.2.2.1
theorem dX10_hear_123 : decode cX10_hear 123 = .ok (.getfield 42, 3) := dX10_hear_94_k.2.2.2.2.2.2.2.2.2.2.2.2.2.2.2
theorem dX10_hear_126_k : decode cX10_hear 126 = .ok (.iload_n 1, 1) ∧ decode cX10_hear 127 = .ok (.aload_n 0, 1) ∧ decode cX10_hear 128 = .ok (.getfield 12, 3) ∧ decode cX10_hear 131 = .ok (.invokevirtual 142, 3) ∧ decode cX10_hear 134 = .ok (.goto 23, 3) ∧ decode cX10_hear 137 = .ok (.aload_n 0, 1) ∧ decode cX10_hear 138 = .ok (.getfield 83, 3) ∧ decode cX10_hear 141 = .ok (.aload_n 0, 1) ∧ decode cX10_hear 142 = .ok (.getfield 12, 3) ∧ decode cX10_hear 145 = .ok (.iconst 3, 1) ∧ decode cX10_hear 146 = .ok (.invokevirtual 89, 3) ∧ decode cX10_hear 149 = .ok (.if_icmp .lt 8, 3) ∧ decode cX10_hear 152 = .ok (.aload_n 0, 1) ∧ decode cX10_hear 153 = .ok (.iconst 2, 1) ∧ decode cX10_hear 154 = .ok (.putfield 67, 3) ∧ decode cX10_hear 157 = .ok (.iconst 1, 1) := by decide +kernel
theorem dX10_hear_126 : decode cX10_hear 126 = .ok (.iload_n 1, 1) := dX10_hear_126_k.1
theorem dX10_hear_127 : decode cX10_hear 127 = .ok (.aload_n 0, 1) := dX10_hear_126_k.2.1
theorem dX10_hear_128 : decode cX10_hear 128 = .ok (.getfield 12, 3) := dX10_hear_126_k.2.2.1
theorem dX10_hear_131 : decode cX10_hear 131 = .ok (.invokevirtual 142, 3) := dX10_hear_126_k.2.2.2.1
theorem dX10_hear_134 : decode cX10_hear 134 = .ok (.goto 23, 3) := dX10_hear_126_k.2.2.2.2.1
theorem dX10_hear_137 : decode cX10_hear 137 = .ok (.aload_n 0, 1) := dX10_hear_126_k.2.2.2.2.2.1
theorem dX10_hear_138 : decode cX10_hear 138 = .ok (.getfield 83, 3) := dX10_hear_126_k.2.2.2.2.2.2.1
theorem dX10_hear_141 : decode cX10_hear 141 = .ok (.aload_n 0, 1) := dX10_hear_126_k.2.2.2.2.2.2.2.1
theorem dX10_hear_142 : decode cX10_hear 142 = .ok (.getfield 12, 3) := dX10_hear_126_k.2.2.2.2.2.2.2.2.1
theorem dX10_hear_145 : decode cX10_hear 145 = .ok (.iconst 3, 1) := dX10_hear_126_k.2.2.2.2.2.2.2.2.2.1
theorem dX10_hear_146 : decode cX10_hear 146 = .ok (.invokevirtual 89, 3) := dX10_hear_126_k.2.2.2.2.2.2.2.2.2.2.1
theorem dX10_hear_149 : decode cX10_hear 149 = .ok (.if_icmp .lt 8, 3) := dX10_hear_126_k.2.2.2.2.2.2.2.2.2.2.2.1
theorem dX10_hear_152 : decode cX10_hear 152 = .ok (.aload_n 0, 1) := dX10_hear_126_k.2.2.2.2.2.2.2.2.2.2.2.2.1
theorem dX10_hear_153 : decode cX10_hear 153 = .ok (.iconst 2, 1) := dX10_hear_126_k.2.2.2.2.2.2.2.2.2.2.2.2.2.1
theorem dX10_hear_154 : decode cX10_hear 154 = .ok (.putfield 67, 3) := dX10_hear_126_k.2.2.2.2.2.2.2.2.2.2.2.2.2.2.1
theorem dX10_hear_157 : decode cX10_hear 157 = .ok (.iconst 1, 1) := dX10_hear_126_k.2.2.2.2.2.2.2.2.2.2.2.2.2.2.2
theorem dX10_hear_158 : decode cX10_hear 158 = .ok (.ireturn, 1) := by decide +kernel
theorem dX10_raiseAlarm_0_k : decode cX10_raiseAlarm 0 = .ok (.aload_n 0, 1) ∧ decode cX10_raiseAlarm 1 = .ok (.iload_n 1, 1) ∧ decode cX10_raiseAlarm 2 = .ok (.putfield 71, 3) ∧ decode cX10_raiseAlarm 5 = .ok (.aload_n 0, 1) ∧ decode cX10_raiseAlarm 6 = .ok (.dup, 1) ∧ decode cX10_raiseAlarm 7 = .ok (.getfield 74, 3) ∧ decode cX10_raiseAlarm 10 = .ok (.iconst 1, 1) ∧ decode cX10_raiseAlarm 11 = .ok (.iadd, 1) ∧ decode cX10_raiseAlarm 12 = .ok (.putfield 74, 3) ∧ decode cX10_raiseAlarm 15 = .ok (.aload_n 0, 1) ∧ decode cX10_raiseAlarm 16 = .ok (.iconst 3, 1) ∧ decode cX10_raiseAlarm 17 = .ok (.putfield 67, 3) ∧ decode cX10_raiseAlarm 20 = .ok (.aload_n 0, 1) ∧ decode cX10_raiseAlarm 21 = .ok (.getfield 42, 3) ∧ decode cX10_raiseAlarm 24 = .ok (.invokevirtual 107, 3) ∧ decode cX10_raiseAlarm 27 = .ok (.return_, 1) := by decide +kernel
theorem dX10_raiseAlarm_0 : decode cX10_raiseAlarm 0 = .ok (.aload_n 0, 1) := dX10_raiseAlarm_0_k.1
theorem dX10_raiseAlarm_1 : decode cX10_raiseAlarm 1 = .ok (.iload_n 1, 1) := dX10_raiseAlarm_0_k.2.1
theorem dX10_raiseAlarm_2 : decode cX10_raiseAlarm 2 = .ok (.putfield 71, 3) := dX10_raiseAlarm_0_k.2.2.1
theorem dX10_raiseAlarm_5 : decode cX10_raiseAlarm 5 = .ok (.aload_n 0, 1) := dX10_raiseAlarm_0_k.2.2.2.1
theorem dX10_raiseAlarm_6 : decode cX10_raiseAlarm 6 = .ok (.dup, 1) := dX10_raiseAlarm_0_k.2.2.2.2.1
theorem dX10_raiseAlarm_7 : decode cX10_raiseAlarm 7 = .ok (.getfield 74, 3) := dX10_raiseAlarm_0_k.2.2.2.2.2.1
theorem dX10_raiseAlarm_10 : decode cX10_raiseAlarm 10 = .ok (.iconst 1, 1) := dX10_raiseAlarm_0_k.2.2.2.2.2.2.1
theorem dX10_raiseAlarm_11 : decode cX10_raiseAlarm 11 = .ok (.iadd, 1) := dX10_raiseAlarm_0_k.2.2.2.2.2.2.2.1
theorem dX10_raiseAlarm_12 : decode cX10_raiseAlarm 12 = .ok (.putfield 74, 3) := dX10_raiseAlarm_0_k.2.2.2.2.2.2.2.2.1
theorem dX10_raiseAlarm_15 : decode cX10_raiseAlarm 15 = .ok (.aload_n 0, 1) := dX10_raiseAlarm_0_k.2.2.2.2.2.2.2.2.2.1
theorem dX10_raiseAlarm_16 : decode cX10_raiseAlarm 16 = .ok (.iconst 3, 1) := dX10_raiseAlarm_0_k.2.2.2.2.2.2.2.2.2.2.1
theorem dX10_raiseAlarm_17 : decode cX10_raiseAlarm 17 = .ok (.putfield 67, 3) := dX10_raiseAlarm_0_k.2.2.2.2.2.2.2.2.2.2.2.1
theorem dX10_raiseAlarm_20 : decode cX10_raiseAlarm 20 = .ok (.aload_n 0, 1) := dX10_raiseAlarm_0_k.2.2.2.2.2.2.2.2.2.2.2.2.1
theorem dX10_raiseAlarm_21 : decode cX10_raiseAlarm 21 = .ok (.getfield 42, 3) := dX10_raiseAlarm_0_k.2.2.2.2.2.2.2.2.2.2.2.2.2.1
theorem dX10_raiseAlarm_24 : decode cX10_raiseAlarm 24 = .ok (.invokevirtual 107, 3) := dX10_raiseAlarm_0_k.2.2.2.2.2.2.2.2.2.2.2.2.2.2.1
theorem dX10_raiseAlarm_27 : decode cX10_raiseAlarm 27 = .ok (.return_, 1) := dX10_raiseAlarm_0_k.2.2.2.2.2.2.2.2.2.2.2.2.2.2.2
theorem dX10_countOf_0_k : decode cX10_countOf 0 = .ok (.iload_n 1, 1) ∧ decode cX10_countOf 1 = .ok (.ifCond .lt 18, 3) ∧ decode cX10_countOf 4 = .ok (.iload_n 1, 1) ∧ decode cX10_countOf 5 = .ok (.bipush 7, 2) ∧ decode cX10_countOf 7 = .ok (.if_icmp .gt 12, 3) ∧ decode cX10_countOf 10 = .ok (.aload_n 0, 1) ∧ decode cX10_countOf 11 = .ok (.getfield 12, 3) ∧ decode cX10_countOf 14 = .ok (.iload_n 1, 1) ∧ decode cX10_countOf 15 = .ok (.invokevirtual 89, 3) ∧ decode cX10_countOf 18 = .ok (.ireturn, 1) ∧ decode cX10_countOf 19 = .ok (.iload_n 1, 1) ∧ decode cX10_countOf 20 = .ok (.bipush 16, 2) ∧ decode cX10_countOf 22 = .ok (.if_icmp .lt 9, 3) ∧ decode cX10_countOf 25 = .ok (.aload_n 0, 1) ∧ decode cX10_countOf 26 = .ok (.iload_n 1, 1) ∧ decode cX10_countOf 27 = .ok (.invokevirtual 146, 3) := by decide +kernel
theorem dX10_countOf_0 : decode cX10_countOf 0 = .ok (.iload_n 1, 1) := dX10_countOf_0_k.1
theorem dX10_countOf_1 : decode cX10_countOf 1 = .ok (.ifCond .lt 18, 3) := dX10_countOf_0_k.2.1
theorem dX10_countOf_4 : decode cX10_countOf 4 = .ok (.iload_n 1, 1) := dX10_countOf_0_k.2.2.1
theorem dX10_countOf_5 : decode cX10_countOf 5 = .ok (.bipush 7, 2) := dX10_countOf_0_k.2.2.2.1
theorem dX10_countOf_7 : decode cX10_countOf 7 = .ok (.if_icmp .gt 12, 3) := dX10_countOf_0_k.2.2.2.2.1
theorem dX10_countOf_10 : decode cX10_countOf 10 = .ok (.aload_n 0, 1) := dX10_countOf_0_k.2.2.2.2.2.1
theorem dX10_countOf_11 : decode cX10_countOf 11 = .ok (.getfield 12, 3) := dX10_countOf_0_k.2.2.2.2.2.2.1
theorem dX10_countOf_14 : decode cX10_countOf 14 = .ok (.iload_n 1, 1) := dX10_countOf_0_k.2.2.2.2.2.2.2.1
theorem dX10_countOf_15 : decode cX10_countOf 15 = .ok (.invokevirtual 89, 3) := dX10_countOf_0_k.2.2.2.2.2.2.2.2.1
theorem dX10_countOf_18 : decode cX10_countOf 18 = .ok (.ireturn, 1) := dX10_countOf_0_k.2.2.2.2.2.2.2.2.2.1
theorem dX10_countOf_19 : decode cX10_countOf 19 = .ok (.iload_n 1, 1) := dX10_countOf_0_k.2.2.2.2.2.2.2.2.2.2.1
theorem dX10_countOf_20 : decode cX10_countOf 20 = .ok (.bipush 16, 2) := dX10_countOf_0_k.2.2.2.2.2.2.2.2.2.2.2.1
theorem dX10_countOf_22 : decode cX10_countOf 22 = .ok (.if_icmp .lt 9, 3) := dX10_countOf_0_k.2.2.2.2.2.2.2.2.2.2.2.2.1
theorem dX10_countOf_25 : decode cX10_countOf 25 = .ok (.aload_n 0, 1) := dX10_countOf_0_k.2.2.2.2.2.2.2.2.2.2.2.2.2.1
theorem dX10_countOf_26 : decode cX10_countOf 26 = .ok (.iload_n 1, 1) := dX10_countOf_0_k.2.2.2.2.2.2.2.2.2.2.2.2.2.2.1
theorem dX10_countOf_27 : decode cX10_countOf 27 = .ok (.invokevirtual 146, 3) := dX10_countOf_0_k.2.2.2.2.2.2.2.2.2.2.2.2.2.2.2
theorem dX10_countOf_30_k : decode cX10_countOf 30 = .ok (.ireturn, 1) ∧ decode cX10_countOf 31 = .ok (.iload_n 1, 1) ∧ decode cX10_countOf 32 = .ok (.tableswitch 94 8 15 #[48, 56, 61, 66, 71, 76, 84, 89], 48) ∧ decode cX10_countOf 80 = .ok (.aload_n 0, 1) ∧ decode cX10_countOf 81 = .ok (.getfield 12, 3) ∧ decode cX10_countOf 84 = .ok (.getfield 149, 3) ∧ decode cX10_countOf 87 = .ok (.ireturn, 1) ∧ decode cX10_countOf 88 = .ok (.aload_n 0, 1) ∧ decode cX10_countOf 89 = .ok (.getfield 67, 3) ∧ decode cX10_countOf 92 = .ok (.ireturn, 1) ∧ decode cX10_countOf 93 = .ok (.aload_n 0, 1) ∧ decode cX10_countOf 94 = .ok (.getfield 71, 3) ∧ decode cX10_countOf 97 = .ok (.ireturn, 1) ∧ decode cX10_countOf 98 = .ok (.aload_n 0, 1) ∧ decode cX10_countOf 99 = .ok (.getfield 74, 3) ∧ decode cX10_countOf 102 = .ok (.ireturn, 1) := by decide +kernel
theorem dX10_countOf_30 : decode cX10_countOf 30 = .ok (.ireturn, 1) := dX10_countOf_30_k.1
theorem dX10_countOf_31 : decode cX10_countOf 31 = .ok (.iload_n 1, 1) := dX10_countOf_30_k.2.1
theorem dX10_countOf_32 : decode cX10_countOf 32 = .ok (.tableswitch 94 8 15 #[48, 56, 61, 66, 71, 76, 84, 89], 48) := dX10_countOf_30_k.2.2.1
theorem dX10_countOf_80 : decode cX10_countOf 80 = .ok (.aload_n 0, 1) := dX10_countOf_30_k.2.2.2.1
theorem dX10_countOf_81 : decode cX10_countOf 81 = .ok (.getfield 12, 3) := dX10_countOf_30_k.2.2.2.2.1
theorem dX10_countOf_84 : decode cX10_countOf 84 = .ok (.getfield 149, 3) := dX10_countOf_30_k.2.2.2.2.2.1
theorem dX10_countOf_87 : decode cX10_countOf 87 = .ok (.ireturn, 1) := dX10_countOf_30_k.2.2.2.2.2.2.1
theorem dX10_countOf_88 : decode cX10_countOf 88 = .ok (.aload_n 0, 1) := dX10_countOf_30_k.2.2.2.2.2.2.2.1
theorem dX10_countOf_89 : decode cX10_countOf 89 = .ok (.getfield 67, 3) := dX10_countOf_30_k.2.2.2.2.2.2.2.2.1
theorem dX10_countOf_92 : decode cX10_countOf 92 = .ok (.ireturn, 1) := dX10_countOf_30_k.2.2.2.2.2.2.2.2.2.1
theorem dX10_countOf_93 : decode cX10_countOf 93 = .ok (.aload_n 0, 1) := dX10_countOf_30_k.2.2.2.2.2.2.2.2.2.2.1
theorem dX10_countOf_94 : decode cX10_countOf 94 = .ok (.getfield 71, 3) := dX10_countOf_30_k.2.2.2.2.2.2.2.2.2.2.2.1
theorem dX10_countOf_97 : decode cX10_countOf 97 = .ok (.ireturn, 1) := dX10_countOf_30_k.2.2.2.2.2.2.2.2.2.2.2.2.1
theorem dX10_countOf_98 : decode cX10_countOf 98 = .ok (.aload_n 0, 1) := dX10_countOf_30_k.2.2.2.2.2.2.2.2.2.2.2.2.2.1
theorem dX10_countOf_99 : decode cX10_countOf 99 = .ok (.getfield 74, 3) := dX10_countOf_30_k.2.2.2.2.2.2.2.2.2.2.2.2.2.2.1
theorem dX10_countOf_102 : decode cX10_countOf 102 = .ok (.ireturn, 1) := dX10_countOf_30_k.2.2.2.2.2.2.2.2.2.2.2.2.2.2.2
theorem dX10_countOf_103_k : decode cX10_countOf 103 = .ok (.aload_n 0, 1) ∧ decode cX10_countOf 104 = .ok (.getfield 77, 3) ∧ decode cX10_countOf 107 = .ok (.ireturn, 1) ∧ decode cX10_countOf 108 = .ok (.aload_n 0, 1) ∧ decode cX10_countOf 109 = .ok (.getfield 28, 3) ∧ decode cX10_countOf 112 = .ok (.getfield 152, 3) ∧ decode cX10_countOf 115 = .ok (.ireturn, 1) ∧ decode cX10_countOf 116 = .ok (.aload_n 0, 1) ∧ decode cX10_countOf 117 = .ok (.getfield 80, 3) ∧ decode cX10_countOf 120 = .ok (.ireturn, 1) ∧ decode cX10_countOf 121 = .ok (.aload_n 0, 1) ∧ decode cX10_countOf 122 = .ok (.getfield 83, 3) ∧ decode cX10_countOf 125 = .ok (.ireturn, 1) ∧ decode cX10_countOf 126 = .ok (.iconst (-1), 1) ∧ decode cX10_countOf 127 = .ok (.ireturn, 1) := by decide +kernel
theorem dX10_countOf_103 : decode cX10_countOf 103 = .ok (.aload_n 0, 1) := dX10_countOf_103_k.1
theorem dX10_countOf_104 : decode cX10_countOf 104 = .ok (.getfield 77, 3) := dX10_countOf_103_k.2.1
theorem dX10_countOf_107 : decode cX10_countOf 107 = .ok (.ireturn, 1) := dX10_countOf_103_k.2.2.1
theorem dX10_countOf_108 : decode cX10_countOf 108 = .ok (.aload_n 0, 1) := dX10_countOf_103_k.2.2.2.1
theorem dX10_countOf_109 : decode cX10_countOf 109 = .ok (.getfield 28, 3) := dX10_countOf_103_k.2.2.2.2.1
theorem dX10_countOf_112 : decode cX10_countOf 112 = .ok (.getfield 152, 3) := dX10_countOf_103_k.2.2.2.2.2.1
theorem dX10_countOf_115 : decode cX10_countOf 115 = .ok (.ireturn, 1) := dX10_countOf_103_k.2.2.2.2.2.2.1
theorem dX10_countOf_116 : decode cX10_countOf 116 = .ok (.aload_n 0, 1) := dX10_countOf_103_k.2.2.2.2.2.2.2.1
theorem dX10_countOf_117 : decode cX10_countOf 117 = .ok (.getfield 80, 3) := dX10_countOf_103_k.2.2.2.2.2.2.2.2.1
theorem dX10_countOf_120 : decode cX10_countOf 120 = .ok (.ireturn, 1) := dX10_countOf_103_k.2.2.2.2.2.2.2.2.2.1
theorem dX10_countOf_121 : decode cX10_countOf 121 = .ok (.aload_n 0, 1) := dX10_countOf_103_k.2.2.2.2.2.2.2.2.2.2.1
theorem dX10_countOf_122 : decode cX10_countOf 122 = .ok (.getfield 83, 3) := dX10_countOf_103_k.2.2.2.2.2.2.2.2.2.2.2.1
theorem dX10_countOf_125 : decode cX10_countOf 125 = .ok (.ireturn, 1) := dX10_countOf_103_k.2.2.2.2.2.2.2.2.2.2.2.2.1
theorem dX10_countOf_126 : decode cX10_countOf 126 = .ok (.iconst (-1), 1) := dX10_countOf_103_k.2.2.2.2.2.2.2.2.2.2.2.2.2.1
theorem dX10_countOf_127 : decode cX10_countOf 127 = .ok (.ireturn, 1) := dX10_countOf_103_k.2.2.2.2.2.2.2.2.2.2.2.2.2.2
theorem dX10_countOfParts_0_k : decode cX10_countOfParts 0 = .ok (.iload_n 1, 1) ∧ decode cX10_countOfParts 1 = .ok (.tableswitch 174 16 28 #[67, 75, 83, 91, 99, 107, 118, 126, 134, 142, 150, 158, 166], 67) ∧ decode cX10_countOfParts 68 = .ok (.aload_n 0, 1) ∧ decode cX10_countOfParts 69 = .ok (.getfield 35, 3) ∧ decode cX10_countOfParts 72 = .ok (.getfield 155, 3) ∧ decode cX10_countOfParts 75 = .ok (.ireturn, 1) ∧ decode cX10_countOfParts 76 = .ok (.aload_n 0, 1) ∧ decode cX10_countOfParts 77 = .ok (.getfield 35, 3) ∧ decode cX10_countOfParts 80 = .ok (.getfield 158, 3) ∧ decode cX10_countOfParts 83 = .ok (.ireturn, 1) ∧ decode cX10_countOfParts 84 = .ok (.aload_n 0, 1) ∧ decode cX10_countOfParts 85 = .ok (.getfield 35, 3) ∧ decode cX10_countOfParts 88 = .ok (.getfield 161, 3) ∧ decode cX10_countOfParts 91 = .ok (.ireturn, 1) ∧ decode cX10_countOfParts 92 = .ok (.aload_n 0, 1) ∧ decode cX10_countOfParts 93 = .ok (.getfield 35, 3) := by decide +kernel
theorem dX10_countOfParts_0 : decode cX10_countOfParts 0 = .ok (.iload_n 1, 1) := dX10_countOfParts_0_k.1
theorem dX10_countOfParts_1 : decode cX10_countOfParts 1 = .ok (.tableswitch 174 16 28 #[67, 75, 83, 91, 99, 107, 118, 126, 134, 142, 150, 158, 166], 67) := dX10_countOfParts_0_k.2.1
theorem dX10_countOfParts_68 : decode cX10_countOfParts 68 = .ok (.aload_n 0, 1) := dX10_countOfParts_0_k.2.2.1
theorem dX10_countOfParts_69 : decode cX10_countOfParts 69 = .ok (.getfield 35, 3) := dX10_countOfParts_0_k.2.2.2.1
theorem dX10_countOfParts_72 : decode cX10_countOfParts 72 = .ok (.getfield 155, 3) := dX10_countOfParts_0_k.2.2.2.2.1
theorem dX10_countOfParts_75 : decode cX10_countOfParts 75 = .ok (.ireturn, 1) := dX10_countOfParts_0_k.2.2.2.2.2.1
theorem dX10_countOfParts_76 : decode cX10_countOfParts 76 = .ok (.aload_n 0, 1) := dX10_countOfParts_0_k.2.2.2.2.2.2.1
theorem dX10_countOfParts_77 : decode cX10_countOfParts 77 = .ok (.getfield 35, 3) := dX10_countOfParts_0_k.2.2.2.2.2.2.2.1
theorem dX10_countOfParts_80 : decode cX10_countOfParts 80 = .ok (.getfield 158, 3) := dX10_countOfParts_0_k.2.2.2.2.2.2.2.2.1
theorem dX10_countOfParts_83 : decode cX10_countOfParts 83 = .ok (.ireturn, 1) := dX10_countOfParts_0_k.2.2.2.2.2.2.2.2.2.1
theorem dX10_countOfParts_84 : decode cX10_countOfParts 84 = .ok (.aload_n 0, 1) := dX10_countOfParts_0_k.2.2.2.2.2.2.2.2.2.2.1
theorem dX10_countOfParts_85 : decode cX10_countOfParts 85 = .ok (.getfield 35, 3) := dX10_countOfParts_0_k.2.2.2.2.2.2.2.2.2.2.2.1
theorem dX10_countOfParts_88 : decode cX10_countOfParts 88 = .ok (.getfield 161, 3) := dX10_countOfParts_0_k.2.2.2.2.2.2.2.2.2.2.2.2.1
theorem dX10_countOfParts_91 : decode cX10_countOfParts 91 = .ok (.ireturn, 1) := dX10_countOfParts_0_k.2.2.2.2.2.2.2.2.2.2.2.2.2.1
theorem dX10_countOfParts_92 : decode cX10_countOfParts 92 = .ok (.aload_n 0, 1) := dX10_countOfParts_0_k.2.2.2.2.2.2.2.2.2.2.2.2.2.2.1
theorem dX10_countOfParts_93 : decode cX10_countOfParts 93 = .ok (.getfield 35, 3) := dX10_countOfParts_0_k.2.2.2.2.2.2.2.2.2.2.2.2.2.2.2
theorem dX10_countOfParts_96_k : decode cX10_countOfParts 96 = .ok (.getfield 164, 3) ∧ decode cX10_countOfParts 99 = .ok (.ireturn, 1) ∧ decode cX10_countOfParts 100 = .ok (.aload_n 0, 1) ∧ decode cX10_countOfParts 101 = .ok (.getfield 42, 3) ∧ decode cX10_countOfParts 104 = .ok (.getfield 167, 3) ∧ decode cX10_countOfParts 107 = .ok (.ireturn, 1) ∧ decode cX10_countOfParts 108 = .ok (.aload_n 0, 1) ∧ decode cX10_countOfParts 109 = .ok (.getfield 42, 3) ∧ decode cX10_countOfParts 112 = .ok (.getfield 170, 3) ∧ decode cX10_countOfParts 115 = .ok (.getfield 121, 3) ∧ decode cX10_countOfParts 118 = .ok (.ireturn, 1) ∧ decode cX10_countOfParts 119 = .ok (.aload_n 0, 1) ∧ decode cX10_countOfParts 120 = .ok (.getfield 42, 3) ∧ decode cX10_countOfParts 123 = .ok (.getfield 173, 3) ∧ decode cX10_countOfParts 126 = .ok (.ireturn, 1) ∧ decode cX10_countOfParts 127 = .ok (.aload_n 0, 1) := by decide +kernel
theorem dX10_countOfParts_96 : decode cX10_countOfParts 96 = .ok (.getfield 164, 3) := dX10_countOfParts_96_k.1
theorem dX10_countOfParts_99 : decode cX10_countOfParts 99 = .ok (.ireturn, 1) := dX10_countOfParts_96_k.2.1
theorem dX10_countOfParts_100 : decode cX10_countOfParts 100 = .ok (.aload_n 0, 1) := dX10_countOfParts_96_k.2.2.1
theorem dX10_countOfParts_101 : decode cX10_countOfParts 101 = .ok (.getfield 42, 3) := dX10_countOfParts_96_k.2.2.2.1
theorem dX10_countOfParts_104 : decode cX10_countOfParts 104 = .ok (.getfield 167, 3) := dX10_countOfParts_96_k.2.2.2.2.1
theorem dX10_countOfParts_107 : decode cX10_countOfParts 107 = .ok (.ireturn, 1) := dX10_countOfParts_96_k.2.2.2.2.2.1
theorem dX10_countOfParts_108 : decode cX10_countOfParts 108 = .ok (.aload_n 0, 1) := dX10_countOfParts_96_k.2.2.2.2.2.2.1
theorem dX10_countOfParts_109 : decode cX10_countOfParts 109 = .ok (.getfield 42, 3) := dX10_countOfParts_96_k.2.2.2.2.2.2.2.1
theorem dX10_countOfParts_112 : decode cX10_countOfParts 112 = .ok (.getfield 170, 3) := dX10_countOfParts_96_k.2.2.2.2.2.2.2.2.1
theorem dX10_countOfParts_115 : decode cX10_countOfParts 115 = .ok (.getfield 121, 3) := dX10_countOfParts_96_k.2.2.2.2.2.2.2.2.2.1
theorem dX10_countOfParts_118 : decode cX10_countOfParts 118 = .ok (.ireturn, 1) := dX10_countOfParts_96_k.2.2.2.2.2.2.2.2.2.2.1
theorem dX10_countOfParts_119 : decode cX10_countOfParts 119 = .ok (.aload_n 0, 1) := dX10_countOfParts_96_k.2.2.2.2.2.2.2.2.2.2.2.1
theorem dX10_countOfParts_120 : decode cX10_countOfParts 120 = .ok (.getfield 42, 3) := dX10_countOfParts_96_k.2.2.2.2.2.2.2.2.2.2.2.2.1
theorem dX10_countOfParts_123 : decode cX10_countOfParts 123 = .ok (.getfield 173, 3) := dX10_countOfParts_96_k.2.2.2.2.2.2.2.2.2.2.2.2.2.1
theorem dX10_countOfParts_126 : decode cX10_countOfParts 126 = .ok (.ireturn, 1) := dX10_countOfParts_96_k.2.2.2.2.2.2.2.2.2.2.2.2.2.2.1
theorem dX10_countOfParts_127 : decode cX10_countOfParts 127 = .ok (.aload_n 0, 1) := dX10_countOfParts_96_k.2.2.2.2.2.2.2.2.2.2.2.2.2.2.2
theorem dX10_countOfParts_128_k : decode cX10_countOfParts 128 = .ok (.getfield 42, 3) ∧ decode cX10_countOfParts 131 = .ok (.getfield 176, 3) ∧ decode cX10_countOfParts 134 = .ok (.ireturn, 1) ∧ decode cX10_countOfParts 135 = .ok (.aload_n 0, 1) ∧ decode cX10_countOfParts 136 = .ok (.getfield 42, 3) ∧ decode cX10_countOfParts 139 = .ok (.getfield 179, 3) ∧ decode cX10_countOfParts 142 = .ok (.ireturn, 1) ∧ decode cX10_countOfParts 143 = .ok (.aload_n 0, 1) ∧ decode cX10_countOfParts 144 = .ok (.getfield 42, 3) ∧ decode cX10_countOfParts 147 = .ok (.getfield 182, 3) ∧ decode cX10_countOfParts 150 = .ok (.ireturn, 1) ∧ decode cX10_countOfParts 151 = .ok (.aload_n 0, 1) ∧ decode cX10_countOfParts 152 = .ok (.getfield 49, 3) ∧ decode cX10_countOfParts 155 = .ok (.getfield 121, 3) ∧ decode cX10_countOfParts 158 = .ok (.ireturn, 1) ∧ decode cX10_countOfParts 159 = .ok (.aload_n 0, 1) := by decide +kernel
theorem dX10_countOfParts_128 : decode cX10_countOfParts 128 = .ok (.getfield 42, 3) := dX10_countOfParts_128_k.1
theorem dX10_countOfParts_131 : decode cX10_countOfParts 131 = .ok (.getfield 176, 3) := dX10_countOfParts_128_k.2.1
theorem dX10_countOfParts_134 : decode cX10_countOfParts 134 = .ok (.ireturn, 1) := dX10_countOfParts_128_k.2.2.1
theorem dX10_countOfParts_135 : decode cX10_countOfParts 135 = .ok (.aload_n 0, 1) := dX10_countOfParts_128_k.2.2.2.1
theorem dX10_countOfParts_136 : decode cX10_countOfParts 136 = .ok (.getfield 42, 3) := dX10_countOfParts_128_k.2.2.2.2.1
theorem dX10_countOfParts_139 : decode cX10_countOfParts 139 = .ok (.getfield 179, 3) := dX10_countOfParts_128_k.2.2.2.2.2.1
theorem dX10_countOfParts_142 : decode cX10_countOfParts 142 = .ok (.ireturn, 1) := dX10_countOfParts_128_k.2.2.2.2.2.2.1
theorem dX10_countOfParts_143 : decode cX10_countOfParts 143 = .ok (.aload_n 0, 1) := dX10_countOfParts_128_k.2.2.2.2.2.2.2.1
theorem dX10_countOfParts_144 : decode cX10_countOfParts 144 = .ok (.getfield 42, 3) := dX10_countOfParts_128_k.2.2.2.2.2.2.2.2.1
theorem dX10_countOfParts_147 : decode cX10_countOfParts 147 = .ok (.getfield 182, 3) := dX10_countOfParts_128_k.2.2.2.2.2.2.2.2.2.1
theorem dX10_countOfParts_150 : decode cX10_countOfParts 150 = .ok (.ireturn, 1) := dX10_countOfParts_128_k.2.2.2.2.2.2.2.2.2.2.1
theorem dX10_countOfParts_151 : decode cX10_countOfParts 151 = .ok (.aload_n 0, 1) := dX10_countOfParts_128_k.2.2.2.2.2.2.2.2.2.2.2.1
theorem dX10_countOfParts_152 : decode cX10_countOfParts 152 = .ok (.getfield 49, 3) := dX10_countOfParts_128_k.2.2.2.2.2.2.2.2.2.2.2.2.1
theorem dX10_countOfParts_155 : decode cX10_countOfParts 155 = .ok (.getfield 121, 3) := dX10_countOfParts_128_k.2.2.2.2.2.2.2.2.2.2.2.2.2.1
theorem dX10_countOfParts_158 : decode cX10_countOfParts 158 = .ok (.ireturn, 1) := dX10_countOfParts_128_k.2.2.2.2.2.2.2.2.2.2.2.2.2.2.1
theorem dX10_countOfParts_159 : decode cX10_countOfParts 159 = .ok (.aload_n 0, 1) := dX10_countOfParts_128_k.2.2.2.2.2.2.2.2.2.2.2.2.2.2.2
theorem dX10_countOfParts_160_k : decode cX10_countOfParts 160 = .ok (.getfield 56, 3) ∧ decode cX10_countOfParts 163 = .ok (.getfield 185, 3) ∧ decode cX10_countOfParts 166 = .ok (.ireturn, 1) ∧ decode cX10_countOfParts 167 = .ok (.aload_n 0, 1) ∧ decode cX10_countOfParts 168 = .ok (.getfield 63, 3) ∧ decode cX10_countOfParts 171 = .ok (.getfield 186, 3) ∧ decode cX10_countOfParts 174 = .ok (.ireturn, 1) ∧ decode cX10_countOfParts 175 = .ok (.iconst (-1), 1) ∧ decode cX10_countOfParts 176 = .ok (.ireturn, 1) := by decide +kernel
theorem dX10_countOfParts_160 : decode cX10_countOfParts 160 = .ok (.getfield 56, 3) := dX10_countOfParts_160_k.1
theorem dX10_countOfParts_163 : decode cX10_countOfParts 163 = .ok (.getfield 185, 3) := dX10_countOfParts_160_k.2.1
theorem dX10_countOfParts_166 : decode cX10_countOfParts 166 = .ok (.ireturn, 1) := dX10_countOfParts_160_k.2.2.1
theorem dX10_countOfParts_167 : decode cX10_countOfParts 167 = .ok (.aload_n 0, 1) := dX10_countOfParts_160_k.2.2.2.1
theorem dX10_countOfParts_168 : decode cX10_countOfParts 168 = .ok (.getfield 63, 3) := dX10_countOfParts_160_k.2.2.2.2.1
theorem dX10_countOfParts_171 : decode cX10_countOfParts 171 = .ok (.getfield 186, 3) := dX10_countOfParts_160_k.2.2.2.2.2.1
theorem dX10_countOfParts_174 : decode cX10_countOfParts 174 = .ok (.ireturn, 1) := dX10_countOfParts_160_k.2.2.2.2.2.2.1
theorem dX10_countOfParts_175 : decode cX10_countOfParts 175 = .ok (.iconst (-1), 1) := dX10_countOfParts_160_k.2.2.2.2.2.2.2.1
theorem dX10_countOfParts_176 : decode cX10_countOfParts 176 = .ok (.ireturn, 1) := dX10_countOfParts_160_k.2.2.2.2.2.2.2.2
theorem dX10_copyFrom_0_k : decode cX10_copyFrom 0 = .ok (.aload_n 0, 1) ∧ decode cX10_copyFrom 1 = .ok (.getfield 12, 3) ∧ decode cX10_copyFrom 4 = .ok (.aload_n 1, 1) ∧ decode cX10_copyFrom 5 = .ok (.getfield 12, 3) ∧ decode cX10_copyFrom 8 = .ok (.invokevirtual 187, 3) ∧ decode cX10_copyFrom 11 = .ok (.aload_n 0, 1) ∧ decode cX10_copyFrom 12 = .ok (.getfield 21, 3) ∧ decode cX10_copyFrom 15 = .ok (.aload_n 1, 1) ∧ decode cX10_copyFrom 16 = .ok (.getfield 21, 3) ∧ decode cX10_copyFrom 19 = .ok (.getfield 191, 3) ∧ decode cX10_copyFrom 22 = .ok (.putfield 191, 3) ∧ decode cX10_copyFrom 25 = .ok (.aload_n 0, 1) ∧ decode cX10_copyFrom 26 = .ok (.getfield 21, 3) ∧ decode cX10_copyFrom 29 = .ok (.aload_n 1, 1) ∧ decode cX10_copyFrom 30 = .ok (.getfield 21, 3) ∧ decode cX10_copyFrom 33 = .ok (.getfield 194, 3) := by decide +kernel
theorem dX10_copyFrom_0 : decode cX10_copyFrom 0 = .ok (.aload_n 0, 1) := dX10_copyFrom_0_k.1
theorem dX10_copyFrom_1 : decode cX10_copyFrom 1 = .ok (.getfield 12, 3) := dX10_copyFrom_0_k.2.1
theorem dX10_copyFrom_4 : decode cX10_copyFrom 4 = .ok (.aload_n 1, 1) := dX10_copyFrom_0_k.2.2.1
theorem dX10_copyFrom_5 : decode cX10_copyFrom 5 = .ok (.getfield 12, 3) := dX10_copyFrom_0_k.2.2.2.1
theorem dX10_copyFrom_8 : decode cX10_copyFrom 8 = .ok (.invokevirtual 187, 3) := dX10_copyFrom_0_k.2.2.2.2.1
theorem dX10_copyFrom_11 : decode cX10_copyFrom 11 = .ok (.aload_n 0, 1) := dX10_copyFrom_0_k.2.2.2.2.2.1
theorem dX10_copyFrom_12 : decode cX10_copyFrom 12 = .ok (.getfield 21, 3) := dX10_copyFrom_0_k.2.2.2.2.2.2.1
theorem dX10_copyFrom_15 : decode cX10_copyFrom 15 = .ok (.aload_n 1, 1) := dX10_copyFrom_0_k.2.2.2.2.2.2.2.1
theorem dX10_copyFrom_16 : decode cX10_copyFrom 16 = .ok (.getfield 21, 3) := dX10_copyFrom_0_k.2.2.2.2.2.2.2.2.1
theorem dX10_copyFrom_19 : decode cX10_copyFrom 19 = .ok (.getfield 191, 3) := dX10_copyFrom_0_k.2.2.2.2.2.2.2.2.2.1
theorem dX10_copyFrom_22 : decode cX10_copyFrom 22 = .ok (.putfield 191, 3) := dX10_copyFrom_0_k.2.2.2.2.2.2.2.2.2.2.1
theorem dX10_copyFrom_25 : decode cX10_copyFrom 25 = .ok (.aload_n 0, 1) := dX10_copyFrom_0_k.2.2.2.2.2.2.2.2.2.2.2.1
theorem dX10_copyFrom_26 : decode cX10_copyFrom 26 = .ok (.getfield 21, 3) := dX10_copyFrom_0_k.2.2.2.2.2.2.2.2.2.2.2.2.1
theorem dX10_copyFrom_29 : decode cX10_copyFrom 29 = .ok (.aload_n 1, 1) := dX10_copyFrom_0_k.2.2.2.2.2.2.2.2.2.2.2.2.2.1
theorem dX10_copyFrom_30 : decode cX10_copyFrom 30 = .ok (.getfield 21, 3) := dX10_copyFrom_0_k.2.2.2.2.2.2.2.2.2.2.2.2.2.2.1
theorem dX10_copyFrom_33 : decode cX10_copyFrom 33 = .ok (.getfield 194, 3) := dX10_copyFrom_0_k.2.2.2.2.2.2.2.2.2.2.2.2.2.2.2
theorem dX10_copyFrom_36_k : decode cX10_copyFrom 36 = .ok (.putfield 194, 3) ∧ decode cX10_copyFrom 39 = .ok (.aload_n 0, 1) ∧ decode cX10_copyFrom 40 = .ok (.getfield 21, 3) ∧ decode cX10_copyFrom 43 = .ok (.aload_n 1, 1) ∧ decode cX10_copyFrom 44 = .ok (.getfield 21, 3) ∧ decode cX10_copyFrom 47 = .ok (.getfield 197, 3) ∧ decode cX10_copyFrom 50 = .ok (.putfield 197, 3) ∧ decode cX10_copyFrom 53 = .ok (.aload_n 0, 1) ∧ decode cX10_copyFrom 54 = .ok (.getfield 28, 3) ∧ decode cX10_copyFrom 57 = .ok (.aload_n 1, 1) ∧ decode cX10_copyFrom 58 = .ok (.getfield 28, 3) ∧ decode cX10_copyFrom 61 = .ok (.invokevirtual 200, 3) ∧ decode cX10_copyFrom 64 = .ok (.aload_n 0, 1) ∧ decode cX10_copyFrom 65 = .ok (.getfield 35, 3) ∧ decode cX10_copyFrom 68 = .ok (.aload_n 1, 1) ∧ decode cX10_copyFrom 69 = .ok (.getfield 35, 3) := by decide +kernel
theorem dX10_copyFrom_36 : decode cX10_copyFrom 36 = .ok (.putfield 194, 3) := dX10_copyFrom_36_k.1
theorem dX10_copyFrom_39 : decode cX10_copyFrom 39 = .ok (.aload_n 0, 1) := dX10_copyFrom_36_k.2.1
theorem dX10_copyFrom_40 : decode cX10_copyFrom 40 = .ok (.getfield 21, 3) := dX10_copyFrom_36_k.2.2.1
theorem dX10_copyFrom_43 : decode cX10_copyFrom 43 = .ok (.aload_n 1, 1) := dX10_copyFrom_36_k.2.2.2.1
theorem dX10_copyFrom_44 : decode cX10_copyFrom 44 = .ok (.getfield 21, 3) := dX10_copyFrom_36_k.2.2.2.2.1
theorem dX10_copyFrom_47 : decode cX10_copyFrom 47 = .ok (.getfield 197, 3) := dX10_copyFrom_36_k.2.2.2.2.2.1
theorem dX10_copyFrom_50 : decode cX10_copyFrom 50 = .ok (.putfield 197, 3) := dX10_copyFrom_36_k.2.2.2.2.2.2.1
theorem dX10_copyFrom_53 : decode cX10_copyFrom 53 = .ok (.aload_n 0, 1) := dX10_copyFrom_36_k.2.2.2.2.2.2.2.1
theorem dX10_copyFrom_54 : decode cX10_copyFrom 54 = .ok (.getfield 28, 3) := dX10_copyFrom_36_k.2.2.2.2.2.2.2.2.1
theorem dX10_copyFrom_57 : decode cX10_copyFrom 57 = .ok (.aload_n 1, 1) := dX10_copyFrom_36_k.2.2.2.2.2.2.2.2.2.1
theorem dX10_copyFrom_58 : decode cX10_copyFrom 58 = .ok (.getfield 28, 3) := dX10_copyFrom_36_k.2.2.2.2.2.2.2.2.2.2.1
theorem dX10_copyFrom_61 : decode cX10_copyFrom 61 = .ok (.invokevirtual 200, 3) := dX10_copyFrom_36_k.2.2.2.2.2.2.2.2.2.2.2.1
theorem dX10_copyFrom_64 : decode cX10_copyFrom 64 = .ok (.aload_n 0, 1) := dX10_copyFrom_36_k.2.2.2.2.2.2.2.2.2.2.2.2.1
theorem dX10_copyFrom_65 : decode cX10_copyFrom 65 = .ok (.getfield 35, 3) := dX10_copyFrom_36_k.2.2.2.2.2.2.2.2.2.2.2.2.2.1
theorem dX10_copyFrom_68 : decode cX10_copyFrom 68 = .ok (.aload_n 1, 1) := dX10_copyFrom_36_k.2.2.2.2.2.2.2.2.2.2.2.2.2.2.1
theorem dX10_copyFrom_69 : decode cX10_copyFrom 69 = .ok (.getfield 35, 3) := dX10_copyFrom_36_k.2.2.2.2.2.2.2.2.2.2.2.2.2.2.2
theorem dX10_copyFrom_72_k : decode cX10_copyFrom 72 = .ok (.invokevirtual 203, 3) ∧ decode cX10_copyFrom 75 = .ok (.aload_n 0, 1) ∧ decode cX10_copyFrom 76 = .ok (.getfield 42, 3) ∧ decode cX10_copyFrom 79 = .ok (.aload_n 1, 1) ∧ decode cX10_copyFrom 80 = .ok (.getfield 42, 3) ∧ decode cX10_copyFrom 83 = .ok (.invokevirtual 206, 3) ∧ decode cX10_copyFrom 86 = .ok (.aload_n 0, 1) ∧ decode cX10_copyFrom 87 = .ok (.getfield 49, 3) ∧ decode cX10_copyFrom 90 = .ok (.aload_n 1, 1) ∧ decode cX10_copyFrom 91 = .ok (.getfield 49, 3) ∧ decode cX10_copyFrom 94 = .ok (.invokevirtual 209, 3) ∧ decode cX10_copyFrom 97 = .ok (.aload_n 0, 1) ∧ decode cX10_copyFrom 98 = .ok (.getfield 56, 3) ∧ decode cX10_copyFrom 101 = .ok (.aload_n 1, 1) ∧ decode cX10_copyFrom 102 = .ok (.getfield 56, 3) ∧ decode cX10_copyFrom 105 = .ok (.invokevirtual 212, 3) := by decide +kernel
theorem dX10_copyFrom_72 : decode cX10_copyFrom 72 = .ok (.invokevirtual 203, 3) := dX10_copyFrom_72_k.1
theorem dX10_copyFrom_75 : decode cX10_copyFrom 75 = .ok (.aload_n 0, 1) := dX10_copyFrom_72_k.2.1
theorem dX10_copyFrom_76 : decode cX10_copyFrom 76 = .ok (.getfield 42, 3) := dX10_copyFrom_72_k.2.2.1
theorem dX10_copyFrom_79 : decode cX10_copyFrom 79 = .ok (.aload_n 1, 1) := dX10_copyFrom_72_k.2.2.2.1
theorem dX10_copyFrom_80 : decode cX10_copyFrom 80 = .ok (.getfield 42, 3) := dX10_copyFrom_72_k.2.2.2.2.1
theorem dX10_copyFrom_83 : decode cX10_copyFrom 83 = .ok (.invokevirtual 206, 3) := dX10_copyFrom_72_k.2.2.2.2.2.1
theorem dX10_copyFrom_86 : decode cX10_copyFrom 86 = .ok (.aload_n 0, 1) := dX10_copyFrom_72_k.2.2.2.2.2.2.1
theorem dX10_copyFrom_87 : decode cX10_copyFrom 87 = .ok (.getfield 49, 3) := dX10_copyFrom_72_k.2.2.2.2.2.2.2.1
theorem dX10_copyFrom_90 : decode cX10_copyFrom 90 = .ok (.aload_n 1, 1) := dX10_copyFrom_72_k.2.2.2.2.2.2.2.2.1
theorem dX10_copyFrom_91 : decode cX10_copyFrom 91 = .ok (.getfield 49, 3) := dX10_copyFrom_72_k.2.2.2.2.2.2.2.2.2.1
theorem dX10_copyFrom_94 : decode cX10_copyFrom 94 = .ok (.invokevirtual 209, 3) := dX10_copyFrom_72_k.2.2.2.2.2.2.2.2.2.2.1
theorem dX10_copyFrom_97 : decode cX10_copyFrom 97 = .ok (.aload_n 0, 1) := dX10_copyFrom_72_k.2.2.2.2.2.2.2.2.2.2.2.1
theorem dX10_copyFrom_98 : decode cX10_copyFrom 98 = .ok (.getfield 56, 3) := dX10_copyFrom_72_k.2.2.2.2.2.2.2.2.2.2.2.2.1
theorem dX10_copyFrom_101 : decode cX10_copyFrom 101 = .ok (.aload_n 1, 1) := dX10_copyFrom_72_k.2.2.2.2.2.2.2.2.2.2.2.2.2.1
theorem dX10_copyFrom_102 : decode cX10_copyFrom 102 = .ok (.getfield 56, 3) := dX10_copyFrom_72_k.2.2.2.2.2.2.2.2.2.2.2.2.2.2.1
theorem dX10_copyFrom_105 : decode cX10_copyFrom 105 = .ok (.invokevirtual 212, 3) := dX10_copyFrom_72_k.2.2.2.2.2.2.2.2.2.2.2.2.2.2.2
theorem dX10_copyFrom_108_k : decode cX10_copyFrom 108 = .ok (.aload_n 0, 1) ∧ decode cX10_copyFrom 109 = .ok (.getfield 63, 3) ∧ decode cX10_copyFrom 112 = .ok (.aload_n 1, 1) ∧ decode cX10_copyFrom 113 = .ok (.getfield 63, 3) ∧ decode cX10_copyFrom 116 = .ok (.invokevirtual 215, 3) ∧ decode cX10_copyFrom 119 = .ok (.aload_n 0, 1) ∧ decode cX10_copyFrom 120 = .ok (.aload_n 1, 1) ∧ decode cX10_copyFrom 121 = .ok (.getfield 67, 3) ∧ decode cX10_copyFrom 124 = .ok (.putfield 67, 3) ∧ decode cX10_copyFrom 127 = .ok (.aload_n 0, 1) ∧ decode cX10_copyFrom 128 = .ok (.aload_n 1, 1) ∧ decode cX10_copyFrom 129 = .ok (.getfield 71, 3) ∧ decode cX10_copyFrom 132 = .ok (.putfield 71, 3) ∧ decode cX10_copyFrom 135 = .ok (.aload_n 0, 1) ∧ decode cX10_copyFrom 136 = .ok (.aload_n 1, 1) ∧ decode cX10_copyFrom 137 = .ok (.getfield 74, 3) := by decide +kernel
theorem dX10_copyFrom_108 : decode cX10_copyFrom 108 = .ok (.aload_n 0, 1) := dX10_copyFrom_108_k.1
theorem dX10_copyFrom_109 : decode cX10_copyFrom 109 = .ok (.getfield 63, 3) := dX10_copyFrom_108_k.2.1
theorem dX10_copyFrom_112 : decode cX10_copyFrom 112 = .ok (.aload_n 1, 1) := dX10_copyFrom_108_k.2.2.1
theorem dX10_copyFrom_113 : decode cX10_copyFrom 113 = .ok (.getfield 63, 3) := dX10_copyFrom_108_k.2.2.2.1
theorem dX10_copyFrom_116 : decode cX10_copyFrom 116 = .ok (.invokevirtual 215, 3) := dX10_copyFrom_108_k.2.2.2.2.1
theorem dX10_copyFrom_119 : decode cX10_copyFrom 119 = .ok (.aload_n 0, 1) := dX10_copyFrom_108_k.2.2.2.2.2.1
theorem dX10_copyFrom_120 : decode cX10_copyFrom 120 = .ok (.aload_n 1, 1) := dX10_copyFrom_108_k.2.2.2.2.2.2.1
theorem dX10_copyFrom_121 : decode cX10_copyFrom 121 = .ok (.getfield 67, 3) := dX10_copyFrom_108_k.2.2.2.2.2.2.2.1
theorem dX10_copyFrom_124 : decode cX10_copyFrom 124 = .ok (.putfield 67, 3) := dX10_copyFrom_108_k.2.2.2.2.2.2.2.2.1
theorem dX10_copyFrom_127 : decode cX10_copyFrom 127 = .ok (.aload_n 0, 1) := dX10_copyFrom_108_k.2.2.2.2.2.2.2.2.2.1
theorem dX10_copyFrom_128 : decode cX10_copyFrom 128 = .ok (.aload_n 1, 1) := dX10_copyFrom_108_k.2.2.2.2.2.2.2.2.2.2.1
theorem dX10_copyFrom_129 : decode cX10_copyFrom 129 = .ok (.getfield 71, 3) := dX10_copyFrom_108_k.2.2.2.2.2.2.2.2.2.2.2.1
theorem dX10_copyFrom_132 : decode cX10_copyFrom 132 = .ok (.putfield 71, 3) := dX10_copyFrom_108_k.2.2.2.2.2.2.2.2.2.2.2.2.1
theorem dX10_copyFrom_135 : decode cX10_copyFrom 135 = .ok (.aload_n 0, 1) := dX10_copyFrom_108_k.2.2.2.2.2.2.2.2.2.2.2.2.2.1
theorem dX10_copyFrom_136 : decode cX10_copyFrom 136 = .ok (.aload_n 1, 1) := dX10_copyFrom_108_k.2.2.2.2.2.2.2.2.2.2.2.2.2.2.1
theorem dX10_copyFrom_137 : decode cX10_copyFrom 137 = .ok (.getfield 74, 3) := dX10_copyFrom_108_k.2.2.2.2.2.2.2.2.2.2.2.2.2.2.2
theorem dX10_copyFrom_140_k : decode cX10_copyFrom 140 = .ok (.putfield 74, 3) ∧ decode cX10_copyFrom 143 = .ok (.aload_n 0, 1) ∧ decode cX10_copyFrom 144 = .ok (.aload_n 1, 1) ∧ decode cX10_copyFrom 145 = .ok (.getfield 77, 3) ∧ decode cX10_copyFrom 148 = .ok (.putfield 77, 3) ∧ decode cX10_copyFrom 151 = .ok (.aload_n 0, 1) ∧ decode cX10_copyFrom 152 = .ok (.aload_n 1, 1) ∧ decode cX10_copyFrom 153 = .ok (.getfield 80, 3) ∧ decode cX10_copyFrom 156 = .ok (.putfield 80, 3) ∧ decode cX10_copyFrom 159 = .ok (.aload_n 0, 1) ∧ decode cX10_copyFrom 160 = .ok (.aload_n 1, 1) ∧ decode cX10_copyFrom 161 = .ok (.getfield 83, 3) ∧ decode cX10_copyFrom 164 = .ok (.putfield 83, 3) ∧ decode cX10_copyFrom 167 = .ok (.return_, 1) := by decide +kernel
theorem dX10_copyFrom_140 : decode cX10_copyFrom 140 = .ok (.putfield 74, 3) := dX10_copyFrom_140_k.1
theorem dX10_copyFrom_143 : decode cX10_copyFrom 143 = .ok (.aload_n 0, 1) := dX10_copyFrom_140_k.2.1
theorem dX10_copyFrom_144 : decode cX10_copyFrom 144 = .ok (.aload_n 1, 1) := dX10_copyFrom_140_k.2.2.1
theorem dX10_copyFrom_145 : decode cX10_copyFrom 145 = .ok (.getfield 77, 3) := dX10_copyFrom_140_k.2.2.2.1
theorem dX10_copyFrom_148 : decode cX10_copyFrom 148 = .ok (.putfield 77, 3) := dX10_copyFrom_140_k.2.2.2.2.1
theorem dX10_copyFrom_151 : decode cX10_copyFrom 151 = .ok (.aload_n 0, 1) := dX10_copyFrom_140_k.2.2.2.2.2.1
theorem dX10_copyFrom_152 : decode cX10_copyFrom 152 = .ok (.aload_n 1, 1) := dX10_copyFrom_140_k.2.2.2.2.2.2.1
theorem dX10_copyFrom_153 : decode cX10_copyFrom 153 = .ok (.getfield 80, 3) := dX10_copyFrom_140_k.2.2.2.2.2.2.2.1
theorem dX10_copyFrom_156 : decode cX10_copyFrom 156 = .ok (.putfield 80, 3) := dX10_copyFrom_140_k.2.2.2.2.2.2.2.2.1
theorem dX10_copyFrom_159 : decode cX10_copyFrom 159 = .ok (.aload_n 0, 1) := dX10_copyFrom_140_k.2.2.2.2.2.2.2.2.2.1
theorem dX10_copyFrom_160 : decode cX10_copyFrom 160 = .ok (.aload_n 1, 1) := dX10_copyFrom_140_k.2.2.2.2.2.2.2.2.2.2.1
theorem dX10_copyFrom_161 : decode cX10_copyFrom 161 = .ok (.getfield 83, 3) := dX10_copyFrom_140_k.2.2.2.2.2.2.2.2.2.2.2.1
theorem dX10_copyFrom_164 : decode cX10_copyFrom 164 = .ok (.putfield 83, 3) := dX10_copyFrom_140_k.2.2.2.2.2.2.2.2.2.2.2.2.1
theorem dX10_copyFrom_167 : decode cX10_copyFrom 167 = .ok (.return_, 1) := dX10_copyFrom_140_k.2.2.2.2.2.2.2.2.2.2.2.2.2
theorem dX11_init_0_k : decode cX11_init 0 = .ok (.aload_n 0, 1) ∧ decode cX11_init 1 = .ok (.invokespecial 1, 3) ∧ decode cX11_init 4 = .ok (.aload_n 0, 1) ∧ decode cX11_init 5 = .ok (.new 7, 3) ∧ decode cX11_init 8 = .ok (.dup, 1) ∧ decode cX11_init 9 = .ok (.invokespecial 9, 3) ∧ decode cX11_init 12 = .ok (.putfield 10, 3) ∧ decode cX11_init 15 = .ok (.aload_n 0, 1) ∧ decode cX11_init 16 = .ok (.new 7, 3) ∧ decode cX11_init 19 = .ok (.dup, 1) ∧ decode cX11_init 20 = .ok (.invokespecial 9, 3) ∧ decode cX11_init 23 = .ok (.putfield 16, 3) ∧ decode cX11_init 26 = .ok (.aload_n 0, 1) ∧ decode cX11_init 27 = .ok (.iconst 3, 1) ∧ decode cX11_init 28 = .ok (.anewarray 7, 3) ∧ decode cX11_init 31 = .ok (.putfield 19, 3) := by decide +kernel
theorem dX11_init_0 : decode cX11_init 0 = .ok (.aload_n 0, 1) := dX11_init_0_k.1
theorem dX11_init_1 : decode cX11_init 1 = .ok (.invokespecial 1, 3) := dX11_init_0_k.2.1
theorem dX11_init_4 : decode cX11_init 4 = .ok (.aload_n 0, 1) := dX11_init_0_k.2.2.1
theorem dX11_init_5 : decode cX11_init 5 = .ok (.new 7, 3) := dX11_init_0_k.2.2.2.1
theorem dX11_init_8 : decode cX11_init 8 = .ok (.dup, 1) := dX11_init_0_k.2.2.2.2.1
theorem dX11_init_9 : decode cX11_init 9 = .ok (.invokespecial 9, 3) := dX11_init_0_k.2.2.2.2.2.1
theorem dX11_init_12 : decode cX11_init 12 = .ok (.putfield 10, 3) := dX11_init_0_k.2.2.2.2.2.2.1
theorem dX11_init_15 : decode cX11_init 15 = .ok (.aload_n 0, 1) := dX11_init_0_k.2.2.2.2.2.2.2.1
theorem dX11_init_16 : decode cX11_init 16 = .ok (.new 7, 3) := dX11_init_0_k.2.2.2.2.2.2.2.2.1
theorem dX11_init_19 : decode cX11_init 19 = .ok (.dup, 1) := dX11_init_0_k.2.2.2.2.2.2.2.2.2.1
theorem dX11_init_20 : decode cX11_init 20 = .ok (.invokespecial 9, 3) := dX11_init_0_k.2.2.2.2.2.2.2.2.2.2.1
theorem dX11_init_23 : decode cX11_init 23 = .ok (.putfield 16, 3) := dX11_init_0_k.2.2.2.2.2.2.2.2.2.2.2.1
theorem dX11_init_26 : decode cX11_init 26 = .ok (.aload_n 0, 1) := dX11_init_0_k.2.2.2.2.2.2.2.2.2.2.2.2.1
theorem dX11_init_27 : decode cX11_init 27 = .ok (.iconst 3, 1) := dX11_init_0_k.2.2.2.2.2.2.2.2.2.2.2.2.2.1
theorem dX11_init_28 : decode cX11_init 28 = .ok (.anewarray 7, 3) := dX11_init_0_k.2.2.2.2.2.2.2.2.2.2.2.2.2.2.1
theorem dX11_init_31 : decode cX11_init 31 = .ok (.putfield 19, 3) := dX11_init_0_k.2.2.2.2.2.2.2.2.2.2.2.2.2.2.2
theorem dX11_init_34_k : decode cX11_init 34 = .ok (.aload_n 0, 1) ∧ decode cX11_init 35 = .ok (.new 23, 3) ∧ decode cX11_init 38 = .ok (.dup, 1) ∧ decode cX11_init 39 = .ok (.invokespecial 25, 3) ∧ decode cX11_init 42 = .ok (.putfield 26, 3) ∧ decode cX11_init 45 = .ok (.aload_n 0, 1) ∧ decode cX11_init 46 = .ok (.new 30, 3) ∧ decode cX11_init 49 = .ok (.dup, 1) ∧ decode cX11_init 50 = .ok (.invokespecial 32, 3) ∧ decode cX11_init 53 = .ok (.putfield 33, 3) ∧ decode cX11_init 56 = .ok (.aload_n 0, 1) ∧ decode cX11_init 57 = .ok (.new 37, 3) ∧ decode cX11_init 60 = .ok (.dup, 1) ∧ decode cX11_init 61 = .ok (.invokespecial 39, 3) ∧ decode cX11_init 64 = .ok (.putfield 40, 3) ∧ decode cX11_init 67 = .ok (.aload_n 0, 1) := by decide +kernel
theorem dX11_init_34 : decode cX11_init 34 = .ok (.aload_n 0, 1) := dX11_init_34_k.1
theorem dX11_init_35 : decode cX11_init 35 = .ok (.new 23, 3) := dX11_init_34_k.2.1
theorem dX11_init_38 : decode cX11_init 38 = .ok (.dup, 1) := dX11_init_34_k.2.2.1
theorem dX11_init_39 : decode cX11_init 39 = .ok (.invokespecial 25, 3) := dX11_init_34_k.2.2.2.1
theorem dX11_init_42 : decode cX11_init 42 = .ok (.putfield 26, 3) := dX11_init_34_k.2.2.2.2.1
theorem dX11_init_45 : decode cX11_init 45 = .ok (.aload_n 0, 1) := dX11_init_34_k.2.2.2.2.2.1
theorem dX11_init_46 : decode cX11_init 46 = .ok (.new 30, 3) := dX11_init_34_k.2.2.2.2.2.2.1
theorem dX11_init_49 : decode cX11_init 49 = .ok (.dup, 1) := dX11_init_34_k.2.2.2.2.2.2.2.1
theorem dX11_init_50 : decode cX11_init 50 = .ok (.invokespecial 32, 3) := dX11_init_34_k.2.2.2.2.2.2.2.2.1
theorem dX11_init_53 : decode cX11_init 53 = .ok (.putfield 33, 3) := dX11_init_34_k.2.2.2.2.2.2.2.2.2.1
theorem dX11_init_56 : decode cX11_init 56 = .ok (.aload_n 0, 1) := dX11_init_34_k.2.2.2.2.2.2.2.2.2.2.1
theorem dX11_init_57 : decode cX11_init 57 = .ok (.new 37, 3) := dX11_init_34_k.2.2.2.2.2.2.2.2.2.2.2.1
theorem dX11_init_60 : decode cX11_init 60 = .ok (.dup, 1) := dX11_init_34_k.2.2.2.2.2.2.2.2.2.2.2.2.1
theorem dX11_init_61 : decode cX11_init 61 = .ok (.invokespecial 39, 3) := dX11_init_34_k.2.2.2.2.2.2.2.2.2.2.2.2.2.1
theorem dX11_init_64 : decode cX11_init 64 = .ok (.putfield 40, 3) := dX11_init_34_k.2.2.2.2.2.2.2.2.2.2.2.2.2.2.1
theorem dX11_init_67 : decode cX11_init 67 = .ok (.aload_n 0, 1) := dX11_init_34_k.2.2.2.2.2.2.2.2.2.2.2.2.2.2.2
theorem dX11_init_68_k : decode cX11_init 68 = .ok (.new 44, 3) ∧ decode cX11_init 71 = .ok (.dup, 1) ∧ decode cX11_init 72 = .ok (.invokespecial 46, 3) ∧ decode cX11_init 75 = .ok (.putfield 47, 3) ∧ decode cX11_init 78 = .ok (.aload_n 0, 1) ∧ decode cX11_init 79 = .ok (.new 44, 3) ∧ decode cX11_init 82 = .ok (.dup, 1) ∧ decode cX11_init 83 = .ok (.invokespecial 46, 3) ∧ decode cX11_init 86 = .ok (.putfield 51, 3) ∧ decode cX11_init 89 = .ok (.return_, 1) := by decide +kernel
theorem dX11_init_68 : decode cX11_init 68 = .ok (.new 44, 3) := dX11_init_68_k.1
theorem dX11_init_71 : decode cX11_init 71 = .ok (.dup, 1) := dX11_init_68_k.2.1
theorem dX11_init_72 : decode cX11_init 72 = .ok (.invokespecial 46, 3) := dX11_init_68_k.2.2.1
theorem dX11_init_75 : decode cX11_init 75 = .ok (.putfield 47, 3) := dX11_init_68_k.2.2.2.1
theorem dX11_init_78 : decode cX11_init 78 = .ok (.aload_n 0, 1) := dX11_init_68_k.2.2.2.2.1
theorem dX11_init_79 : decode cX11_init 79 = .ok (.new 44, 3) := dX11_init_68_k.2.2.2.2.2.1
theorem dX11_init_82 : decode cX11_init 82 = .ok (.dup, 1) := dX11_init_68_k.2.2.2.2.2.2.1
theorem dX11_init_83 : decode cX11_init 83 = .ok (.invokespecial 46, 3) := dX11_init_68_k.2.2.2.2.2.2.2.1
theorem dX11_init_86 : decode cX11_init 86 = .ok (.putfield 51, 3) := dX11_init_68_k.2.2.2.2.2.2.2.2.1
theorem dX11_init_89 : decode cX11_init 89 = .ok (.return_, 1) := dX11_init_68_k.2.2.2.2.2.2.2.2.2
theorem dX11_tell_0_k : decode cX11_tell 0 = .ok (.aload_n 0, 1) ∧ decode cX11_tell 1 = .ok (.getfield 10, 3) ∧ decode cX11_tell 4 = .ok (.getfield 54, 3) ∧ decode cX11_tell 7 = .ok (.lload_n 1, 1) ∧ decode cX11_tell 8 = .ok (.invokevirtual 58, 3) ∧ decode cX11_tell 11 = .ok (.ireturn, 1) := by decide +kernel
theorem dX11_tell_0 : decode cX11_tell 0 = .ok (.aload_n 0, 1) := dX11_tell_0_k.1
theorem dX11_tell_1 : decode cX11_tell 1 = .ok (.getfield 10, 3) := dX11_tell_0_k.2.1
theorem dX11_tell_4 : decode cX11_tell 4 = .ok (.getfield 54, 3) := dX11_tell_0_k.2.2.1
theorem dX11_tell_7 : decode cX11_tell 7 = .ok (.lload_n 1, 1) := dX11_tell_0_k.2.2.2.1
theorem dX11_tell_8 : decode cX11_tell 8 = .ok (.invokevirtual 58, 3) := dX11_tell_0_k.2.2.2.2.1
theorem dX11_tell_11 : decode cX11_tell 11 = .ok (.ireturn, 1) := dX11_tell_0_k.2.2.2.2.2
theorem dX11_settings_0_k : decode cX11_settings 0 = .ok (.aload_n 0, 1) ∧ decode cX11_settings 1 = .ok (.getfield 26, 3) ∧ decode cX11_settings 4 = .ok (.aload_n 0, 1) ∧ decode cX11_settings 5 = .ok (.getfield 10, 3) ∧ decode cX11_settings 8 = .ok (.getfield 54, 3) ∧ decode cX11_settings 11 = .ok (.invokevirtual 64, 3) ∧ decode cX11_settings 14 = .ok (.ifCond .ne 29, 3) ∧ decode cX11_settings 17 = .ok (.aload_n 0, 1) ∧ decode cX11_settings 18 = .ok (.getfield 10, 3) ∧ decode cX11_settings 21 = .ok (.getfield 54, 3) ∧ decode cX11_settings 24 = .ok (.aload_n 0, 1) ∧ decode cX11_settings 25 = .ok (.getfield 26, 3) ∧ decode cX11_settings 28 = .ok (.getfield 68, 3) ∧ decode cX11_settings 31 = .ok (.aload_n 0, 1) ∧ decode cX11_settings 32 = .ok (.getfield 26, 3) ∧ decode cX11_settings 35 = .ok (.getfield 72, 3) := by decide +kernel
theorem dX11_settings_0 : decode cX11_settings 0 = .ok (.aload_n 0, 1) := dX11_settings_0_k.1
theorem dX11_settings_1 : decode cX11_settings 1 = .ok (.getfield 26, 3) := dX11_settings_0_k.2.1
theorem dX11_settings_4 : decode cX11_settings 4 = .ok (.aload_n 0, 1) := dX11_settings_0_k.2.2.1
theorem dX11_settings_5 : decode cX11_settings 5 = .ok (.getfield 10, 3) := dX11_settings_0_k.2.2.2.1
theorem dX11_settings_8 : decode cX11_settings 8 = .ok (.getfield 54, 3) := dX11_settings_0_k.2.2.2.2.1
theorem dX11_settings_11 : decode cX11_settings 11 = .ok (.invokevirtual 64, 3) := dX11_settings_0_k.2.2.2.2.2.1
theorem dX11_settings_14 : decode cX11_settings 14 = .ok (.ifCond .ne 29, 3) := dX11_settings_0_k.2.2.2.2.2.2.1
theorem dX11_settings_17 : decode cX11_settings 17 = .ok (.aload_n 0, 1) := dX11_settings_0_k.2.2.2.2.2.2.2.1
theorem dX11_settings_18 : decode cX11_settings 18 = .ok (.getfield 10, 3) := dX11_settings_0_k.2.2.2.2.2.2.2.2.1
theorem dX11_settings_21 : decode cX11_settings 21 = .ok (.getfield 54, 3) := dX11_settings_0_k.2.2.2.2.2.2.2.2.2.1
theorem dX11_settings_24 : decode cX11_settings 24 = .ok (.aload_n 0, 1) := dX11_settings_0_k.2.2.2.2.2.2.2.2.2.2.1
theorem dX11_settings_25 : decode cX11_settings 25 = .ok (.getfield 26, 3) := dX11_settings_0_k.2.2.2.2.2.2.2.2.2.2.2.1
theorem dX11_settings_28 : decode cX11_settings 28 = .ok (.getfield 68, 3) := dX11_settings_0_k.2.2.2.2.2.2.2.2.2.2.2.2.1
theorem dX11_settings_31 : decode cX11_settings 31 = .ok (.aload_n 0, 1) := dX11_settings_0_k.2.2.2.2.2.2.2.2.2.2.2.2.2.1
theorem dX11_settings_32 : decode cX11_settings 32 = .ok (.getfield 26, 3) := dX11_settings_0_k.2.2.2.2.2.2.2.2.2.2.2.2.2.2.1
theorem dX11_settings_35 : decode cX11_settings 35 = .ok (.getfield 72, 3) := dX11_settings_0_k.2.2.2.2.2.2.2.2.2.2.2.2.2.2.2
theorem dX11_settings_38_k : decode cX11_settings 38 = .ok (.invokevirtual 75, 3) ∧ decode cX11_settings 41 = .ok (.iconst (-1), 1) ∧ decode cX11_settings 42 = .ok (.ireturn, 1) ∧ decode cX11_settings 43 = .ok (.aload_n 0, 1) ∧ decode cX11_settings 44 = .ok (.getfield 10, 3) ∧ decode cX11_settings 47 = .ok (.getfield 79, 3) ∧ decode cX11_settings 50 = .ok (.aload_n 0, 1) ∧ decode cX11_settings 51 = .ok (.getfield 26, 3) ∧ decode cX11_settings 54 = .ok (.getfield 83, 3) ∧ decode cX11_settings 57 = .ok (.invokevirtual 86, 3) ∧ decode cX11_settings 60 = .ok (.aload_n 0, 1) ∧ decode cX11_settings 61 = .ok (.getfield 10, 3) ∧ decode cX11_settings 64 = .ok (.invokevirtual 92, 3) ∧ decode cX11_settings 67 = .ok (.aload_n 0, 1) ∧ decode cX11_settings 68 = .ok (.getfield 10, 3) ∧ decode cX11_settings 71 = .ok (.getfield 79, 3) := by decide +kernel
theorem dX11_settings_38 : decode cX11_settings 38 = .ok (.invokevirtual 75, 3) := dX11_settings_38_k.1
theorem dX11_settings_41 : decode cX11_settings 41 = .ok (.iconst (-1), 1) := dX11_settings_38_k.2.1
theorem dX11_settings_42 : decode cX11_settings 42 = .ok (.ireturn, 1) := dX11_settings_38_k.2.2.1
theorem dX11_settings_43 : decode cX11_settings 43 = .ok (.aload_n 0, 1) := dX11_settings_38_k.2.2.2.1
theorem dX11_settings_44 : decode cX11_settings 44 = .ok (.getfield 10, 3) := dX11_settings_38_k.2.2.2.2.1
theorem dX11_settings_47 : decode cX11_settings 47 = .ok (.getfield 79, 3) := dX11_settings_38_k.2.2.2.2.2.1
theorem dX11_settings_50 : decode cX11_settings 50 = .ok (.aload_n 0, 1) := dX11_settings_38_k.2.2.2.2.2.2.1
theorem dX11_settings_51 : decode cX11_settings 51 = .ok (.getfield 26, 3) := dX11_settings_38_k.2.2.2.2.2.2.2.1
theorem dX11_settings_54 : decode cX11_settings 54 = .ok (.getfield 83, 3) := dX11_settings_38_k.2.2.2.2.2.2.2.2.1
theorem dX11_settings_57 : decode cX11_settings 57 = .ok (.invokevirtual 86, 3) := dX11_settings_38_k.2.2.2.2.2.2.2.2.2.1
theorem dX11_settings_60 : decode cX11_settings 60 = .ok (.aload_n 0, 1) := dX11_settings_38_k.2.2.2.2.2.2.2.2.2.2.1
theorem dX11_settings_61 : decode cX11_settings 61 = .ok (.getfield 10, 3) := dX11_settings_38_k.2.2.2.2.2.2.2.2.2.2.2.1
theorem dX11_settings_64 : decode cX11_settings 64 = .ok (.invokevirtual 92, 3) := dX11_settings_38_k.2.2.2.2.2.2.2.2.2.2.2.2.1
theorem dX11_settings_67 : decode cX11_settings 67 = .ok (.aload_n 0, 1) := dX11_settings_38_k.2.2.2.2.2.2.2.2.2.2.2.2.2.1
theorem dX11_settings_68 : decode cX11_settings 68 = .ok (.getfield 10, 3) := dX11_settings_38_k.2.2.2.2.2.2.2.2.2.2.2.2.2.2.1
theorem dX11_settings_71 : decode cX11_settings 71 = .ok (.getfield 79, 3) := dX11_settings_38_k.2.2.2.2.2.2.2.2.2.2.2.2.2.2.2
theorem dX11_settings_74_k : decode cX11_settings 74 = .ok (.getfield 95, 3) ∧ decode cX11_settings 77 = .ok (.ireturn, 1) := by decide +kernel
theorem dX11_settings_74 : decode cX11_settings 74 = .ok (.getfield 95, 3) := dX11_settings_74_k.1
theorem dX11_settings_77 : decode cX11_settings 77 = .ok (.ireturn, 1) := dX11_settings_74_k.2
theorem dX11_fault_0_k : decode cX11_fault 0 = .ok (.iload_n 1, 1) ∧ decode cX11_fault 1 = .ok (.ifCond .eq 16, 3) ∧ decode cX11_fault 4 = .ok (.aload_n 0, 1) ∧ decode cX11_fault 5 = .ok (.getfield 10, 3) ∧ decode cX11_fault 8 = .ok (.getfield 54, 3) ∧ decode cX11_fault 11 = .ok (.getfield 98, 3) ∧ decode cX11_fault 14 = .ok (.goto 13, 3) ∧ decode cX11_fault 17 = .ok (.aload_n 0, 1) ∧ decode cX11_fault 18 = .ok (.getfield 10, 3) ∧ decode cX11_fault 21 = .ok (.getfield 54, 3) ∧ decode cX11_fault 24 = .ok (.getfield 99, 3) ∧ decode cX11_fault 27 = .ok (.ireturn, 1) := by decide +kernel
theorem dX11_fault_0 : decode cX11_fault 0 = .ok (.iload_n 1, 1) := dX11_fault_0_k.1
theorem dX11_fault_1 : decode cX11_fault 1 = .ok (.ifCond .eq 16, 3) := dX11_fault_0_k.2.1
theorem dX11_fault_4 : decode cX11_fault 4 = .ok (.aload_n 0, 1) := dX11_fault_0_k.2.2.1
theorem dX11_fault_5 : decode cX11_fault 5 = .ok (.getfield 10, 3) := dX11_fault_0_k.2.2.2.1
theorem dX11_fault_8 : decode cX11_fault 8 = .ok (.getfield 54, 3) := dX11_fault_0_k.2.2.2.2.1
theorem dX11_fault_11 : decode cX11_fault 11 = .ok (.getfield 98, 3) := dX11_fault_0_k.2.2.2.2.2.1
theorem dX11_fault_14 : decode cX11_fault 14 = .ok (.goto 13, 3) := dX11_fault_0_k.2.2.2.2.2.2.1
theorem dX11_fault_17 : decode cX11_fault 17 = .ok (.aload_n 0, 1) := dX11_fault_0_k.2.2.2.2.2.2.2.1
theorem dX11_fault_18 : decode cX11_fault 18 = .ok (.getfield 10, 3) := dX11_fault_0_k.2.2.2.2.2.2.2.2.1
theorem dX11_fault_21 : decode cX11_fault 21 = .ok (.getfield 54, 3) := dX11_fault_0_k.2.2.2.2.2.2.2.2.2.1
theorem dX11_fault_24 : decode cX11_fault 24 = .ok (.getfield 99, 3) := dX11_fault_0_k.2.2.2.2.2.2.2.2.2.2.1
theorem dX11_fault_27 : decode cX11_fault 27 = .ok (.ireturn, 1) := dX11_fault_0_k.2.2.2.2.2.2.2.2.2.2.2
theorem dX11_start_0_k : decode cX11_start 0 = .ok (.aload_n 0, 1) ∧ decode cX11_start 1 = .ok (.getfield 10, 3) ∧ decode cX11_start 4 = .ok (.invokevirtual 100, 3) ∧ decode cX11_start 7 = .ok (.aload_n 0, 1) ∧ decode cX11_start 8 = .ok (.getfield 10, 3) ∧ decode cX11_start 11 = .ok (.getfield 103, 3) ∧ decode cX11_start 14 = .ok (.ireturn, 1) := by decide +kernel
theorem dX11_start_0 : decode cX11_start 0 = .ok (.aload_n 0, 1) := dX11_start_0_k.1
theorem dX11_start_1 : decode cX11_start 1 = .ok (.getfield 10, 3) := dX11_start_0_k.2.1
theorem dX11_start_4 : decode cX11_start 4 = .ok (.invokevirtual 100, 3) := dX11_start_0_k.2.2.1
theorem dX11_start_7 : decode cX11_start 7 = .ok (.aload_n 0, 1) := dX11_start_0_k.2.2.2.1
theorem dX11_start_8 : decode cX11_start 8 = .ok (.getfield 10, 3) := dX11_start_0_k.2.2.2.2.1
theorem dX11_start_11 : decode cX11_start 11 = .ok (.getfield 103, 3) := dX11_start_0_k.2.2.2.2.2.1
theorem dX11_start_14 : decode cX11_start 14 = .ok (.ireturn, 1) := dX11_start_0_k.2.2.2.2.2.2
theorem dX11_stop_0_k : decode cX11_stop 0 = .ok (.aload_n 0, 1) ∧ decode cX11_stop 1 = .ok (.getfield 10, 3) ∧ decode cX11_stop 4 = .ok (.getfield 106, 3) ∧ decode cX11_stop 7 = .ok (.ifCond .ne 5, 3) ∧ decode cX11_stop 10 = .ok (.iconst 0, 1) ∧ decode cX11_stop 11 = .ok (.ireturn, 1) ∧ decode cX11_stop 12 = .ok (.aload_n 0, 1) ∧ decode cX11_stop 13 = .ok (.getfield 10, 3) ∧ decode cX11_stop 16 = .ok (.invokevirtual 109, 3) ∧ decode cX11_stop 19 = .ok (.iconst 1, 1) ∧ decode cX11_stop 20 = .ok (.ireturn, 1) := by decide +kernel
theorem dX11_stop_0 : decode cX11_stop 0 = .ok (.aload_n 0, 1) := dX11_stop_0_k.1
theorem dX11_stop_1 : decode cX11_stop 1 = .ok (.getfield 10, 3) := dX11_stop_0_k.2.1
theorem dX11_stop_4 : decode cX11_stop 4 = .ok (.getfield 106, 3) := dX11_stop_0_k.2.2.1
theorem dX11_stop_7 : decode cX11_stop 7 = .ok (.ifCond .ne 5, 3) := dX11_stop_0_k.2.2.2.1
theorem dX11_stop_10 : decode cX11_stop 10 = .ok (.iconst 0, 1) := dX11_stop_0_k.2.2.2.2.1
theorem dX11_stop_11 : decode cX11_stop 11 = .ok (.ireturn, 1) := dX11_stop_0_k.2.2.2.2.2.1
theorem dX11_stop_12 : decode cX11_stop 12 = .ok (.aload_n 0, 1) := dX11_stop_0_k.2.2.2.2.2.2.1
theorem dX11_stop_13 : decode cX11_stop 13 = .ok (.getfield 10, 3) := dX11_stop_0_k.2.2.2.2.2.2.2.1
theorem dX11_stop_16 : decode cX11_stop 16 = .ok (.invokevirtual 109, 3) := dX11_stop_0_k.2.2.2.2.2.2.2.2.1
theorem dX11_stop_19 : decode cX11_stop 19 = .ok (.iconst 1, 1) := dX11_stop_0_k.2.2.2.2.2.2.2.2.2.1
theorem dX11_stop_20 : decode cX11_stop 20 = .ok (.ireturn, 1) := dX11_stop_0_k.2.2.2.2.2.2.2.2.2.2
theorem dX11_draw_0_k : decode cX11_draw 0 = .ok (.iload_n 1, 1) ∧ decode cX11_draw 1 = .ok (.iconst 1, 1) ∧ decode cX11_draw 2 = .ok (.if_icmp .lt 10, 3) ∧ decode cX11_draw 5 = .ok (.iload_n 1, 1) ∧ decode cX11_draw 6 = .ok (.sipush 400, 3) ∧ decode cX11_draw 9 = .ok (.if_icmp .le 7, 3) ∧ decode cX11_draw 12 = .ok (.iconst (-1), 1) ∧ decode cX11_draw 13 = .ok (.goto 11, 3) ∧ decode cX11_draw 16 = .ok (.aload_n 0, 1) ∧ decode cX11_draw 17 = .ok (.getfield 10, 3) ∧ decode cX11_draw 20 = .ok (.iload_n 1, 1) ∧ decode cX11_draw 21 = .ok (.invokevirtual 112, 3) ∧ decode cX11_draw 24 = .ok (.ireturn, 1) := by decide +kernel
theorem dX11_draw_0 : decode cX11_draw 0 = .ok (.iload_n 1, 1) := dX11_draw_0_k.1
theorem dX11_draw_1 : decode cX11_draw 1 = .ok (.iconst 1, 1) := dX11_draw_0_k.2.1
theorem dX11_draw_2 : decode cX11_draw 2 = .ok (.if_icmp .lt 10, 3) := dX11_draw_0_k.2.2.1
theorem dX11_draw_5 : decode cX11_draw 5 = .ok (.iload_n 1, 1) := dX11_draw_0_k.2.2.2.1
theorem dX11_draw_6 : decode cX11_draw 6 = .ok (.sipush 400, 3) := dX11_draw_0_k.2.2.2.2.1
theorem dX11_draw_9 : decode cX11_draw 9 = .ok (.if_icmp .le 7, 3) := dX11_draw_0_k.2.2.2.2.2.1
theorem dX11_draw_12 : decode cX11_draw 12 = .ok (.iconst (-1), 1) := dX11_draw_0_k.2.2.2.2.2.2.1
theorem dX11_draw_13 : decode cX11_draw 13 = .ok (.goto 11, 3) := dX11_draw_0_k.2.2.2.2.2.2.2.1
theorem dX11_draw_16 : decode cX11_draw 16 = .ok (.aload_n 0, 1) := dX11_draw_0_k.2.2.2.2.2.2.2.2.1
theorem dX11_draw_17 : decode cX11_draw 17 = .ok (.getfield 10, 3) := dX11_draw_0_k.2.2.2.2.2.2.2.2.2.1
theorem dX11_draw_20 : decode cX11_draw 20 = .ok (.iload_n 1, 1) := dX11_draw_0_k.2.2.2.2.2.2.2.2.2.2.1
theorem dX11_draw_21 : decode cX11_draw 21 = .ok (.invokevirtual 112, 3) := dX11_draw_0_k.2.2.2.2.2.2.2.2.2.2.2.1
theorem dX11_draw_24 : decode cX11_draw 24 = .ok (.ireturn, 1) := dX11_draw_0_k.2.2.2.2.2.2.2.2.2.2.2.2
theorem dX11_hand_0_k : decode cX11_hand 0 = .ok (.iload_n 2, 1) ∧ decode cX11_hand 1 = .ok (.iconst 1, 1) ∧ decode cX11_hand 2 = .ok (.if_icmp .lt 9, 3) ∧ decode cX11_hand 5 = .ok (.iload_n 2, 1) ∧ decode cX11_hand 6 = .ok (.bipush 32, 2) ∧ decode cX11_hand 8 = .ok (.if_icmp .le 5, 3) ∧ decode cX11_hand 11 = .ok (.iconst (-1), 1) ∧ decode cX11_hand 12 = .ok (.ireturn, 1) ∧ decode cX11_hand 13 = .ok (.iconst 0, 1) ∧ decode cX11_hand 14 = .ok (.istore_n 3, 1) ∧ decode cX11_hand 15 = .ok (.iload_n 2, 1) ∧ decode cX11_hand 16 = .ok (.iconst 1, 1) ∧ decode cX11_hand 17 = .ok (.isub, 1) ∧ decode cX11_hand 18 = .ok (.istore 4, 2) ∧ decode cX11_hand 20 = .ok (.iload 4, 2) ∧ decode cX11_hand 22 = .ok (.ifCond .lt 28, 3) := by decide +kernel
theorem dX11_hand_0 : decode cX11_hand 0 = .ok (.iload_n 2, 1) := dX11_hand_0_k.1
theorem dX11_hand_1 : decode cX11_hand 1 = .ok (.iconst 1, 1) := dX11_hand_0_k.2.1
theorem dX11_hand_2 : decode cX11_hand 2 = .ok (.if_icmp .lt 9, 3) := dX11_hand_0_k.2.2.1
theorem dX11_hand_5 : decode cX11_hand 5 = .ok (.iload_n 2, 1) := dX11_hand_0_k.2.2.2.1
theorem dX11_hand_6 : decode cX11_hand 6 = .ok (.bipush 32, 2) := dX11_hand_0_k.2.2.2.2.1
theorem dX11_hand_8 : decode cX11_hand 8 = .ok (.if_icmp .le 5, 3) := dX11_hand_0_k.2.2.2.2.2.1
theorem dX11_hand_11 : decode cX11_hand 11 = .ok (.iconst (-1), 1) := dX11_hand_0_k.2.2.2.2.2.2.1
theorem dX11_hand_12 : decode cX11_hand 12 = .ok (.ireturn, 1) := dX11_hand_0_k.2.2.2.2.2.2.2.1
theorem dX11_hand_13 : decode cX11_hand 13 = .ok (.iconst 0, 1) := dX11_hand_0_k.2.2.2.2.2.2.2.2.1
theorem dX11_hand_14 : decode cX11_hand 14 = .ok (.istore_n 3, 1) := dX11_hand_0_k.2.2.2.2.2.2.2.2.2.1
theorem dX11_hand_15 : decode cX11_hand 15 = .ok (.iload_n 2, 1) := dX11_hand_0_k.2.2.2.2.2.2.2.2.2.2.1
theorem dX11_hand_16 : decode cX11_hand 16 = .ok (.iconst 1, 1) := dX11_hand_0_k.2.2.2.2.2.2.2.2.2.2.2.1
theorem dX11_hand_17 : decode cX11_hand 17 = .ok (.isub, 1) := dX11_hand_0_k.2.2.2.2.2.2.2.2.2.2.2.2.1
theorem dX11_hand_18 : decode cX11_hand 18 = .ok (.istore 4, 2) := dX11_hand_0_k.2.2.2.2.2.2.2.2.2.2.2.2.2.1
theorem dX11_hand_20 : decode cX11_hand 20 = .ok (.iload 4, 2) := dX11_hand_0_k.2.2.2.2.2.2.2.2.2.2.2.2.2.2.1
theorem dX11_hand_22 : decode cX11_hand 22 = .ok (.ifCond .lt 28, 3) := dX11_hand_0_k.2.2.2.2.2.2.2.2.2.2.2.2.2.2.2
theorem dX11_hand_25_k : decode cX11_hand 25 = .ok (.aload_n 0, 1) ∧ decode cX11_hand 26 = .ok (.getfield 10, 3) ∧ decode cX11_hand 29 = .ok (.iload_n 1, 1) ∧ decode cX11_hand 30 = .ok (.iload 4, 2) ∧ decode cX11_hand 32 = .ok (.iushr, 1) ∧ decode cX11_hand 33 = .ok (.iconst 1, 1) ∧ decode cX11_hand 34 = .ok (.iand, 1) ∧ decode cX11_hand 35 = .ok (.invokevirtual 116, 3) ∧ decode cX11_hand 38 = .ok (.ifCond .eq 6, 3) ∧ decode cX11_hand 41 = .ok (.iinc 3 1, 3) ∧ decode cX11_hand 44 = .ok (.iinc 4 (-1), 3) ∧ decode cX11_hand 47 = .ok (.goto (-27), 3) ∧ decode cX11_hand 50 = .ok (.iload_n 3, 1) ∧ decode cX11_hand 51 = .ok (.ireturn, 1) := by decide +kernel
theorem dX11_hand_25 : decode cX11_hand 25 = .ok (.aload_n 0, 1) := dX11_hand_25_k.1
theorem dX11_hand_26 : decode cX11_hand 26 = .ok (.getfield 10, 3) := dX11_hand_25_k.2.1
theorem dX11_hand_29 : decode cX11_hand 29 = .ok (.iload_n 1, 1) := dX11_hand_25_k.2.2.1
theorem dX11_hand_30 : decode cX11_hand 30 = .ok (.iload 4, 2) := dX11_hand_25_k.2.2.2.1
theorem dX11_hand_32 : decode cX11_hand 32 = .ok (.iushr, 1) := dX11_hand_25_k.2.2.2.2.1
theorem dX11_hand_33 : decode cX11_hand 33 = .ok (.iconst 1, 1) := dX11_hand_25_k.2.2.2.2.2.1
theorem dX11_hand_34 : decode cX11_hand 34 = .ok (.iand, 1) := dX11_hand_25_k.2.2.2.2.2.2.1
theorem dX11_hand_35 : decode cX11_hand 35 = .ok (.invokevirtual 116, 3) := dX11_hand_25_k.2.2.2.2.2.2.2.1
theorem dX11_hand_38 : decode cX11_hand 38 = .ok (.ifCond .eq 6, 3) := dX11_hand_25_k.2.2.2.2.2.2.2.2.1
theorem dX11_hand_41 : decode cX11_hand 41 = .ok (.iinc 3 1, 3) := dX11_hand_25_k.2.2.2.2.2.2.2.2.2.1
theorem dX11_hand_44 : decode cX11_hand 44 = .ok (.iinc 4 (-1), 3) := dX11_hand_25_k.2.2.2.2.2.2.2.2.2.2.1
theorem dX11_hand_47 : decode cX11_hand 47 = .ok (.goto (-27), 3) := dX11_hand_25_k.2.2.2.2.2.2.2.2.2.2.2.1
theorem dX11_hand_50 : decode cX11_hand 50 = .ok (.iload_n 3, 1) := dX11_hand_25_k.2.2.2.2.2.2.2.2.2.2.2.2.1
theorem dX11_hand_51 : decode cX11_hand 51 = .ok (.ireturn, 1) := dX11_hand_25_k.2.2.2.2.2.2.2.2.2.2.2.2.2
theorem dX11_take_0_k : decode cX11_take 0 = .ok (.iload_n 1, 1) ∧ decode cX11_take 1 = .ok (.iconst 1, 1) ∧ decode cX11_take 2 = .ok (.if_icmp .lt 9, 3) ∧ decode cX11_take 5 = .ok (.iload_n 1, 1) ∧ decode cX11_take 6 = .ok (.bipush 30, 2) ∧ decode cX11_take 8 = .ok (.if_icmp .le 7, 3) ∧ decode cX11_take 11 = .ok (.iconst (-1), 1) ∧ decode cX11_take 12 = .ok (.goto 14, 3) ∧ decode cX11_take 15 = .ok (.aload_n 0, 1) ∧ decode cX11_take 16 = .ok (.getfield 10, 3) ∧ decode cX11_take 19 = .ok (.getfield 120, 3) ∧ decode cX11_take 22 = .ok (.iload_n 1, 1) ∧ decode cX11_take 23 = .ok (.invokevirtual 124, 3) ∧ decode cX11_take 26 = .ok (.ireturn, 1) := by decide +kernel
theorem dX11_take_0 : decode cX11_take 0 = .ok (.iload_n 1, 1) := dX11_take_0_k.1
theorem dX11_take_1 : decode cX11_take 1 = .ok (.iconst 1, 1) := dX11_take_0_k.2.1
theorem dX11_take_2 : decode cX11_take 2 = .ok (.if_icmp .lt 9, 3) := dX11_take_0_k.2.2.1
theorem dX11_take_5 : decode cX11_take 5 = .ok (.iload_n 1, 1) := dX11_take_0_k.2.2.2.1
theorem dX11_take_6 : decode cX11_take 6 = .ok (.bipush 30, 2) := dX11_take_0_k.2.2.2.2.1
theorem dX11_take_8 : decode cX11_take 8 = .ok (.if_icmp .le 7, 3) := dX11_take_0_k.2.2.2.2.2.1
theorem dX11_take_11 : decode cX11_take 11 = .ok (.iconst (-1), 1) := dX11_take_0_k.2.2.2.2.2.2.1
theorem dX11_take_12 : decode cX11_take 12 = .ok (.goto 14, 3) := dX11_take_0_k.2.2.2.2.2.2.2.1
theorem dX11_take_15 : decode cX11_take 15 = .ok (.aload_n 0, 1) := dX11_take_0_k.2.2.2.2.2.2.2.2.1
theorem dX11_take_16 : decode cX11_take 16 = .ok (.getfield 10, 3) := dX11_take_0_k.2.2.2.2.2.2.2.2.2.1
theorem dX11_take_19 : decode cX11_take 19 = .ok (.getfield 120, 3) := dX11_take_0_k.2.2.2.2.2.2.2.2.2.2.1
theorem dX11_take_22 : decode cX11_take 22 = .ok (.iload_n 1, 1) := dX11_take_0_k.2.2.2.2.2.2.2.2.2.2.2.1
theorem dX11_take_23 : decode cX11_take 23 = .ok (.invokevirtual 124, 3) := dX11_take_0_k.2.2.2.2.2.2.2.2.2.2.2.2.1
theorem dX11_take_26 : decode cX11_take 26 = .ok (.ireturn, 1) := dX11_take_0_k.2.2.2.2.2.2.2.2.2.2.2.2.2
theorem dX11_count_0_k : decode cX11_count 0 = .ok (.aload_n 0, 1) ∧ decode cX11_count 1 = .ok (.getfield 10, 3) ∧ decode cX11_count 4 = .ok (.iload_n 1, 1) ∧ decode cX11_count 5 = .ok (.invokevirtual 129, 3) ∧ decode cX11_count 8 = .ok (.ireturn, 1) := by decide +kernel
theorem dX11_count_0 : decode cX11_count 0 = .ok (.aload_n 0, 1) := dX11_count_0_k.1
theorem dX11_count_1 : decode cX11_count 1 = .ok (.getfield 10, 3) := dX11_count_0_k.2.1
theorem dX11_count_4 : decode cX11_count 4 = .ok (.iload_n 1, 1) := dX11_count_0_k.2.2.1
theorem dX11_count_5 : decode cX11_count 5 = .ok (.invokevirtual 129, 3) := dX11_count_0_k.2.2.2.1
theorem dX11_count_8 : decode cX11_count 8 = .ok (.ireturn, 1) := dX11_count_0_k.2.2.2.2
theorem dX11_limit_0_k : decode cX11_limit 0 = .ok (.iload_n 1, 1) ∧ decode cX11_limit 1 = .ok (.bipush 10, 2) ∧ decode cX11_limit 3 = .ok (.if_icmp .le 18, 3) ∧ decode cX11_limit 6 = .ok (.iload_n 1, 1) ∧ decode cX11_limit 7 = .ok (.bipush 25, 2) ∧ decode cX11_limit 9 = .ok (.if_icmp .gt 12, 3) ∧ decode cX11_limit 12 = .ok (.aload_n 0, 1) ∧ decode cX11_limit 13 = .ok (.iload_n 1, 1) ∧ decode cX11_limit 14 = .ok (.bipush 10, 2) ∧ decode cX11_limit 16 = .ok (.isub, 1) ∧ decode cX11_limit 17 = .ok (.invokevirtual 132, 3) ∧ decode cX11_limit 20 = .ok (.ireturn, 1) ∧ decode cX11_limit 21 = .ok (.iload_n 1, 1) ∧ decode cX11_limit 22 = .ok (.tableswitch 89 0 4 #[34, 45, 56, 67, 78], 34) ∧ decode cX11_limit 56 = .ok (.aload_n 0, 1) ∧ decode cX11_limit 57 = .ok (.getfield 10, 3) := by decide +kernel
theorem dX11_limit_0 : decode cX11_limit 0 = .ok (.iload_n 1, 1) := dX11_limit_0_k.1
theorem dX11_limit_1 : decode cX11_limit 1 = .ok (.bipush 10, 2) := dX11_limit_0_k.2.1
theorem dX11_limit_3 : decode cX11_limit 3 = .ok (.if_icmp .le 18, 3) := dX11_limit_0_k.2.2.1
theorem dX11_limit_6 : decode cX11_limit 6 = .ok (.iload_n 1, 1) := dX11_limit_0_k.2.2.2.1
theorem dX11_limit_7 : decode cX11_limit 7 = .ok (.bipush 25, 2) := dX11_limit_0_k.2.2.2.2.1
theorem dX11_limit_9 : decode cX11_limit 9 = .ok (.if_icmp .gt 12, 3) := dX11_limit_0_k.2.2.2.2.2.1
theorem dX11_limit_12 : decode cX11_limit 12 = .ok (.aload_n 0, 1) := dX11_limit_0_k.2.2.2.2.2.2.1
theorem dX11_limit_13 : decode cX11_limit 13 = .ok (.iload_n 1, 1) := dX11_limit_0_k.2.2.2.2.2.2.2.1
theorem dX11_limit_14 : decode cX11_limit 14 = .ok (.bipush 10, 2) := dX11_limit_0_k.2.2.2.2.2.2.2.2.1
theorem dX11_limit_16 : decode cX11_limit 16 = .ok (.isub, 1) := dX11_limit_0_k.2.2.2.2.2.2.2.2.2.1
theorem dX11_limit_17 : decode cX11_limit 17 = .ok (.invokevirtual 132, 3) := dX11_limit_0_k.2.2.2.2.2.2.2.2.2.2.1
theorem dX11_limit_20 : decode cX11_limit 20 = .ok (.ireturn, 1) := dX11_limit_0_k.2.2.2.2.2.2.2.2.2.2.2.1
theorem dX11_limit_21 : decode cX11_limit 21 = .ok (.iload_n 1, 1) := dX11_limit_0_k.2.2.2.2.2.2.2.2.2.2.2.2.1
theorem dX11_limit_22 : decode cX11_limit 22 = .ok (.tableswitch 89 0 4 #[34, 45, 56, 67, 78], 34) := dX11_limit_0_k.2.2.2.2.2.2.2.2.2.2.2.2.2.1
theorem dX11_limit_56 : decode cX11_limit 56 = .ok (.aload_n 0, 1) := dX11_limit_0_k.2.2.2.2.2.2.2.2.2.2.2.2.2.2.1
theorem dX11_limit_57 : decode cX11_limit 57 = .ok (.getfield 10, 3) := dX11_limit_0_k.2.2.2.2.2.2.2.2.2.2.2.2.2.2.2
theorem dX11_limit_60_k : decode cX11_limit 60 = .ok (.getfield 135, 3) ∧ decode cX11_limit 63 = .ok (.getfield 138, 3) ∧ decode cX11_limit 66 = .ok (.ireturn, 1) ∧ decode cX11_limit 67 = .ok (.aload_n 0, 1) ∧ decode cX11_limit 68 = .ok (.getfield 10, 3) ∧ decode cX11_limit 71 = .ok (.getfield 135, 3) ∧ decode cX11_limit 74 = .ok (.getfield 141, 3) ∧ decode cX11_limit 77 = .ok (.ireturn, 1) ∧ decode cX11_limit 78 = .ok (.aload_n 0, 1) ∧ decode cX11_limit 79 = .ok (.getfield 10, 3) ∧ decode cX11_limit 82 = .ok (.getfield 135, 3) ∧ decode cX11_limit 85 = .ok (.getfield 144, 3) ∧ decode cX11_limit 88 = .ok (.ireturn, 1) ∧ decode cX11_limit 89 = .ok (.aload_n 0, 1) ∧ decode cX11_limit 90 = .ok (.getfield 10, 3) ∧ decode cX11_limit 93 = .ok (.getfield 79, 3) := by decide +kernel
theorem dX11_limit_60 : decode cX11_limit 60 = .ok (.getfield 135, 3) := dX11_limit_60_k.1
theorem dX11_limit_63 : decode cX11_limit 63 = .ok (.getfield 138, 3) := dX11_limit_60_k.2.1
theorem dX11_limit_66 : decode cX11_limit 66 = .ok (.ireturn, 1) := dX11_limit_60_k.2.2.1
theorem dX11_limit_67 : decode cX11_limit 67 = .ok (.aload_n 0, 1) := dX11_limit_60_k.2.2.2.1
theorem dX11_limit_68 : decode cX11_limit 68 = .ok (.getfield 10, 3) := dX11_limit_60_k.2.2.2.2.1
theorem dX11_limit_71 : decode cX11_limit 71 = .ok (.getfield 135, 3) := dX11_limit_60_k.2.2.2.2.2.1
theorem dX11_limit_74 : decode cX11_limit 74 = .ok (.getfield 141, 3) := dX11_limit_60_k.2.2.2.2.2.2.1
theorem dX11_limit_77 : decode cX11_limit 77 = .ok (.ireturn, 1) := dX11_limit_60_k.2.2.2.2.2.2.2.1
theorem dX11_limit_78 : decode cX11_limit 78 = .ok (.aload_n 0, 1) := dX11_limit_60_k.2.2.2.2.2.2.2.2.1
theorem dX11_limit_79 : decode cX11_limit 79 = .ok (.getfield 10, 3) := dX11_limit_60_k.2.2.2.2.2.2.2.2.2.1
theorem dX11_limit_82 : decode cX11_limit 82 = .ok (.getfield 135, 3) := dX11_limit_60_k.2.2.2.2.2.2.2.2.2.2.1
theorem dX11_limit_85 : decode cX11_limit 85 = .ok (.getfield 144, 3) := dX11_limit_60_k.2.2.2.2.2.2.2.2.2.2.2.1
theorem dX11_limit_88 : decode cX11_limit 88 = .ok (.ireturn, 1) := dX11_limit_60_k.2.2.2.2.2.2.2.2.2.2.2.2.1
theorem dX11_limit_89 : decode cX11_limit 89 = .ok (.aload_n 0, 1) := dX11_limit_60_k.2.2.2.2.2.2.2.2.2.2.2.2.2.1
theorem dX11_limit_90 : decode cX11_limit 90 = .ok (.getfield 10, 3) := dX11_limit_60_k.2.2.2.2.2.2.2.2.2.2.2.2.2.2.1
theorem dX11_limit_93 : decode cX11_limit 93 = .ok (.getfield 79, 3) := dX11_limit_60_k.2.2.2.2.2.2.2.2.2.2.2.2.2.2.2
theorem dX11_limit_96_k : decode cX11_limit 96 = .ok (.invokevirtual 147, 3) ∧ decode cX11_limit 99 = .ok (.ireturn, 1) ∧ decode cX11_limit 100 = .ok (.aload_n 0, 1) ∧ decode cX11_limit 101 = .ok (.getfield 10, 3) ∧ decode cX11_limit 104 = .ok (.getfield 79, 3) ∧ decode cX11_limit 107 = .ok (.invokevirtual 151, 3) ∧ decode cX11_limit 110 = .ok (.ireturn, 1) ∧ decode cX11_limit 111 = .ok (.new 154, 3) ∧ decode cX11_limit 114 = .ok (.dup, 1) ∧ decode cX11_limit 115 = .ok (.invokespecial 156, 3) ∧ decode cX11_limit 118 = .ok (.athrow, 1) := by decide +kernel
theorem dX11_limit_96 : decode cX11_limit 96 = .ok (.invokevirtual 147, 3) := dX11_limit_96_k.1
theorem dX11_limit_99 : decode cX11_limit 99 = .ok (.ireturn, 1) := dX11_limit_96_k.2.1
theorem dX11_limit_100 : decode cX11_limit 100 = .ok (.aload_n 0, 1) := dX11_limit_96_k.2.2.1
theorem dX11_limit_101 : decode cX11_limit 101 = .ok (.getfield 10, 3) := dX11_limit_96_k.2.2.2.1
theorem dX11_limit_104 : decode cX11_limit 104 = .ok (.getfield 79, 3) := dX11_limit_96_k.2.2.2.2.1
theorem dX11_limit_107 : decode cX11_limit 107 = .ok (.invokevirtual 151, 3) := dX11_limit_96_k.2.2.2.2.2.1
theorem dX11_limit_110 : decode cX11_limit 110 = .ok (.ireturn, 1) := dX11_limit_96_k.2.2.2.2.2.2.1
theorem dX11_limit_111 : decode cX11_limit 111 = .ok (.new 154, 3) := dX11_limit_96_k.2.2.2.2.2.2.2.1
theorem dX11_limit_114 : decode cX11_limit 114 = .ok (.dup, 1) := dX11_limit_96_k.2.2.2.2.2.2.2.2.1
theorem dX11_limit_115 : decode cX11_limit 115 = .ok (.invokespecial 156, 3) := dX11_limit_96_k.2.2.2.2.2.2.2.2.2.1
theorem dX11_limit_118 : decode cX11_limit 118 = .ok (.athrow, 1) := dX11_limit_96_k.2.2.2.2.2.2.2.2.2.2
theorem dX11_odds_0_k : decode cX11_odds 0 = .ok (.aload_n 0, 1) ∧ decode cX11_odds 1 = .ok (.getfield 10, 3) ∧ decode cX11_odds 4 = .ok (.getfield 79, 3) ∧ decode cX11_odds 7 = .ok (.iconst 2, 1) ∧ decode cX11_odds 8 = .ok (.invokevirtual 157, 3) ∧ decode cX11_odds 11 = .ok (.iconst 1, 1) ∧ decode cX11_odds 12 = .ok (.isub, 1) ∧ decode cX11_odds 13 = .ok (.istore_n 3, 1) ∧ decode cX11_odds 14 = .ok (.iload_n 1, 1) ∧ decode cX11_odds 15 = .ok (.ifCond .ne 43, 3) ∧ decode cX11_odds 18 = .ok (.aload_n 0, 1) ∧ decode cX11_odds 19 = .ok (.getfield 40, 3) ∧ decode cX11_odds 22 = .ok (.iload_n 3, 1) ∧ decode cX11_odds 23 = .ok (.aload_n 0, 1) ∧ decode cX11_odds 24 = .ok (.getfield 10, 3) ∧ decode cX11_odds 27 = .ok (.getfield 79, 3) := by decide +kernel
theorem dX11_odds_0 : decode cX11_odds 0 = .ok (.aload_n 0, 1) := dX11_odds_0_k.1
theorem dX11_odds_1 : decode cX11_odds 1 = .ok (.getfield 10, 3) := dX11_odds_0_k.2.1
theorem dX11_odds_4 : decode cX11_odds 4 = .ok (.getfield 79, 3) := dX11_odds_0_k.2.2.1
theorem dX11_odds_7 : decode cX11_odds 7 = .ok (.iconst 2, 1) := dX11_odds_0_k.2.2.2.1
theorem dX11_odds_8 : decode cX11_odds 8 = .ok (.invokevirtual 157, 3) := dX11_odds_0_k.2.2.2.2.1
theorem dX11_odds_11 : decode cX11_odds 11 = .ok (.iconst 1, 1) := dX11_odds_0_k.2.2.2.2.2.1
theorem dX11_odds_12 : decode cX11_odds 12 = .ok (.isub, 1) := dX11_odds_0_k.2.2.2.2.2.2.1
theorem dX11_odds_13 : decode cX11_odds 13 = .ok (.istore_n 3, 1) := dX11_odds_0_k.2.2.2.2.2.2.2.1
theorem dX11_odds_14 : decode cX11_odds 14 = .ok (.iload_n 1, 1) := dX11_odds_0_k.2.2.2.2.2.2.2.2.1
theorem dX11_odds_15 : decode cX11_odds 15 = .ok (.ifCond .ne 43, 3) := dX11_odds_0_k.2.2.2.2.2.2.2.2.2.1
theorem dX11_odds_18 : decode cX11_odds 18 = .ok (.aload_n 0, 1) := dX11_odds_0_k.2.2.2.2.2.2.2.2.2.2.1
theorem dX11_odds_19 : decode cX11_odds 19 = .ok (.getfield 40, 3) := dX11_odds_0_k.2.2.2.2.2.2.2.2.2.2.2.1
theorem dX11_odds_22 : decode cX11_odds 22 = .ok (.iload_n 3, 1) := dX11_odds_0_k.2.2.2.2.2.2.2.2.2.2.2.2.1
theorem dX11_odds_23 : decode cX11_odds 23 = .ok (.aload_n 0, 1) := dX11_odds_0_k.2.2.2.2.2.2.2.2.2.2.2.2.2.1
theorem dX11_odds_24 : decode cX11_odds 24 = .ok (.getfield 10, 3) := dX11_odds_0_k.2.2.2.2.2.2.2.2.2.2.2.2.2.2.1
theorem dX11_odds_27 : decode cX11_odds 27 = .ok (.getfield 79, 3) := dX11_odds_0_k.2.2.2.2.2.2.2.2.2.2.2.2.2.2.2
theorem dX11_odds_30_k : decode cX11_odds 30 = .ok (.iconst 0, 1) ∧ decode cX11_odds 31 = .ok (.invokevirtual 157, 3) ∧ decode cX11_odds 34 = .ok (.invokevirtual 160, 3) ∧ decode cX11_odds 37 = .ok (.aload_n 0, 1) ∧ decode cX11_odds 38 = .ok (.getfield 40, 3) ∧ decode cX11_odds 41 = .ok (.aload_n 0, 1) ∧ decode cX11_odds 42 = .ok (.getfield 10, 3) ∧ decode cX11_odds 45 = .ok (.getfield 135, 3) ∧ decode cX11_odds 48 = .ok (.getfield 141, 3) ∧ decode cX11_odds 51 = .ok (.iconst 1, 1) ∧ decode cX11_odds 52 = .ok (.isub, 1) ∧ decode cX11_odds 53 = .ok (.iload_n 2, 1) ∧ decode cX11_odds 54 = .ok (.invokevirtual 163, 3) ∧ decode cX11_odds 57 = .ok (.lreturn, 1) ∧ decode cX11_odds 58 = .ok (.iload_n 1, 1) ∧ decode cX11_odds 59 = .ok (.iconst 1, 1) := by decide +kernel
theorem dX11_odds_30 : decode cX11_odds 30 = .ok (.iconst 0, 1) := dX11_odds_30_k.1
theorem dX11_odds_31 : decode cX11_odds 31 = .ok (.invokevirtual 157, 3) := dX11_odds_30_k.2.1
theorem dX11_odds_34 : decode cX11_odds 34 = .ok (.invokevirtual 160, 3) := dX11_odds_30_k.2.2.1
theorem dX11_odds_37 : decode cX11_odds 37 = .ok (.aload_n 0, 1) := dX11_odds_30_k.2.2.2.1
theorem dX11_odds_38 : decode cX11_odds 38 = .ok (.getfield 40, 3) := dX11_odds_30_k.2.2.2.2.1
theorem dX11_odds_41 : decode cX11_odds 41 = .ok (.aload_n 0, 1) := dX11_odds_30_k.2.2.2.2.2.1
theorem dX11_odds_42 : decode cX11_odds 42 = .ok (.getfield 10, 3) := dX11_odds_30_k.2.2.2.2.2.2.1
theorem dX11_odds_45 : decode cX11_odds 45 = .ok (.getfield 135, 3) := dX11_odds_30_k.2.2.2.2.2.2.2.1
theorem dX11_odds_48 : decode cX11_odds 48 = .ok (.getfield 141, 3) := dX11_odds_30_k.2.2.2.2.2.2.2.2.1
theorem dX11_odds_51 : decode cX11_odds 51 = .ok (.iconst 1, 1) := dX11_odds_30_k.2.2.2.2.2.2.2.2.2.1
theorem dX11_odds_52 : decode cX11_odds 52 = .ok (.isub, 1) := dX11_odds_30_k.2.2.2.2.2.2.2.2.2.2.1
theorem dX11_odds_53 : decode cX11_odds 53 = .ok (.iload_n 2, 1) := dX11_odds_30_k.2.2.2.2.2.2.2.2.2.2.2.1
theorem dX11_odds_54 : decode cX11_odds 54 = .ok (.invokevirtual 163, 3) := dX11_odds_30_k.2.2.2.2.2.2.2.2.2.2.2.2.1
theorem dX11_odds_57 : decode cX11_odds 57 = .ok (.lreturn, 1) := dX11_odds_30_k.2.2.2.2.2.2.2.2.2.2.2.2.2.1
theorem dX11_odds_58 : decode cX11_odds 58 = .ok (.iload_n 1, 1) := dX11_odds_30_k.2.2.2.2.2.2.2.2.2.2.2.2.2.2.1
theorem dX11_odds_59 : decode cX11_odds 59 = .ok (.iconst 1, 1) := dX11_odds_30_k.2.2.2.2.2.2.2.2.2.2.2.2.2.2.2
theorem dX11_odds_60_k : decode cX11_odds 60 = .ok (.if_icmp .ne 32, 3) ∧ decode cX11_odds 63 = .ok (.aload_n 0, 1) ∧ decode cX11_odds 64 = .ok (.getfield 40, 3) ∧ decode cX11_odds 67 = .ok (.iload_n 3, 1) ∧ decode cX11_odds 68 = .ok (.bipush 8, 2) ∧ decode cX11_odds 70 = .ok (.invokevirtual 160, 3) ∧ decode cX11_odds 73 = .ok (.aload_n 0, 1) ∧ decode cX11_odds 74 = .ok (.getfield 40, 3) ∧ decode cX11_odds 77 = .ok (.aload_n 0, 1) ∧ decode cX11_odds 78 = .ok (.getfield 10, 3) ∧ decode cX11_odds 81 = .ok (.getfield 135, 3) ∧ decode cX11_odds 84 = .ok (.getfield 144, 3) ∧ decode cX11_odds 87 = .ok (.iload_n 2, 1) ∧ decode cX11_odds 88 = .ok (.invokevirtual 163, 3) ∧ decode cX11_odds 91 = .ok (.lreturn, 1) ∧ decode cX11_odds 92 = .ok (.ldc2_w 167, 3) := by decide +kernel
theorem dX11_odds_60 : decode cX11_odds 60 = .ok (.if_icmp .ne 32, 3) := dX11_odds_60_k.1
theorem dX11_odds_63 : decode cX11_odds 63 = .ok (.aload_n 0, 1) := dX11_odds_60_k.2.1
theorem dX11_odds_64 : decode cX11_odds 64 = .ok (.getfield 40, 3) := dX11_odds_60_k.2.2.1
theorem dX11_odds_67 : decode cX11_odds 67 = .ok (.iload_n 3, 1) := dX11_odds_60_k.2.2.2.1
theorem dX11_odds_68 : decode cX11_odds 68 = .ok (.bipush 8, 2) := dX11_odds_60_k.2.2.2.2.1
theorem dX11_odds_70 : decode cX11_odds 70 = .ok (.invokevirtual 160, 3) := dX11_odds_60_k.2.2.2.2.2.1
theorem dX11_odds_73 : decode cX11_odds 73 = .ok (.aload_n 0, 1) := dX11_odds_60_k.2.2.2.2.2.2.1
theorem dX11_odds_74 : decode cX11_odds 74 = .ok (.getfield 40, 3) := dX11_odds_60_k.2.2.2.2.2.2.2.1
theorem dX11_odds_77 : decode cX11_odds 77 = .ok (.aload_n 0, 1) := dX11_odds_60_k.2.2.2.2.2.2.2.2.1
theorem dX11_odds_78 : decode cX11_odds 78 = .ok (.getfield 10, 3) := dX11_odds_60_k.2.2.2.2.2.2.2.2.2.1
theorem dX11_odds_81 : decode cX11_odds 81 = .ok (.getfield 135, 3) := dX11_odds_60_k.2.2.2.2.2.2.2.2.2.2.1
theorem dX11_odds_84 : decode cX11_odds 84 = .ok (.getfield 144, 3) := dX11_odds_60_k.2.2.2.2.2.2.2.2.2.2.2.1
theorem dX11_odds_87 : decode cX11_odds 87 = .ok (.iload_n 2, 1) := dX11_odds_60_k.2.2.2.2.2.2.2.2.2.2.2.2.1
theorem dX11_odds_88 : decode cX11_odds 88 = .ok (.invokevirtual 163, 3) := dX11_odds_60_k.2.2.2.2.2.2.2.2.2.2.2.2.2.1
theorem dX11_odds_91 : decode cX11_odds 91 = .ok (.lreturn, 1) := dX11_odds_60_k.2.2.2.2.2.2.2.2.2.2.2.2.2.2.1
theorem dX11_odds_92 : decode cX11_odds 92 = .ok (.ldc2_w 167, 3) := dX11_odds_60_k.2.2.2.2.2.2.2.2.2.2.2.2.2.2.2
theorem dX11_odds_95 : decode cX11_odds 95 = .ok (.lreturn, 1) := by decide +kernel
theorem dX11_history_0_k : decode cX11_history 0 = .ok (.aload_n 0, 1) ∧ decode cX11_history 1 = .ok (.getfield 10, 3) ∧ decode cX11_history 4 = .ok (.getfield 169, 3) ∧ decode cX11_history 7 = .ok (.iload_n 1, 1) ∧ decode cX11_history 8 = .ok (.invokevirtual 173, 3) ∧ decode cX11_history 11 = .ok (.ireturn, 1) := by decide +kernel
theorem dX11_history_0 : decode cX11_history 0 = .ok (.aload_n 0, 1) := dX11_history_0_k.1
theorem dX11_history_1 : decode cX11_history 1 = .ok (.getfield 10, 3) := dX11_history_0_k.2.1
theorem dX11_history_4 : decode cX11_history 4 = .ok (.getfield 169, 3) := dX11_history_0_k.2.2.1
theorem dX11_history_7 : decode cX11_history 7 = .ok (.iload_n 1, 1) := dX11_history_0_k.2.2.2.1
theorem dX11_history_8 : decode cX11_history 8 = .ok (.invokevirtual 173, 3) := dX11_history_0_k.2.2.2.2.1
theorem dX11_history_11 : decode cX11_history 11 = .ok (.ireturn, 1) := dX11_history_0_k.2.2.2.2.2
theorem dX11_pool_0_k : decode cX11_pool 0 = .ok (.aload_n 0, 1) ∧ decode cX11_pool 1 = .ok (.getfield 10, 3) ∧ decode cX11_pool 4 = .ok (.getfield 120, 3) ∧ decode cX11_pool 7 = .ok (.getfield 178, 3) ∧ decode cX11_pool 10 = .ok (.iload_n 1, 1) ∧ decode cX11_pool 11 = .ok (.invokevirtual 173, 3) ∧ decode cX11_pool 14 = .ok (.ireturn, 1) := by decide +kernel
theorem dX11_pool_0 : decode cX11_pool 0 = .ok (.aload_n 0, 1) := dX11_pool_0_k.1
theorem dX11_pool_1 : decode cX11_pool 1 = .ok (.getfield 10, 3) := dX11_pool_0_k.2.1
theorem dX11_pool_4 : decode cX11_pool 4 = .ok (.getfield 120, 3) := dX11_pool_0_k.2.2.1
theorem dX11_pool_7 : decode cX11_pool 7 = .ok (.getfield 178, 3) := dX11_pool_0_k.2.2.2.1
theorem dX11_pool_10 : decode cX11_pool 10 = .ok (.iload_n 1, 1) := dX11_pool_0_k.2.2.2.2.1
theorem dX11_pool_11 : decode cX11_pool 11 = .ok (.invokevirtual 173, 3) := dX11_pool_0_k.2.2.2.2.2.1
theorem dX11_pool_14 : decode cX11_pool 14 = .ok (.ireturn, 1) := dX11_pool_0_k.2.2.2.2.2.2
theorem dX11_row_0_k : decode cX11_row 0 = .ok (.iload_n 3, 1) ∧ decode cX11_row 1 = .ok (.ifCond .eq 17, 3) ∧ decode cX11_row 4 = .ok (.aload_n 0, 1) ∧ decode cX11_row 5 = .ok (.getfield 10, 3) ∧ decode cX11_row 8 = .ok (.getfield 181, 3) ∧ decode cX11_row 11 = .ok (.iload_n 1, 1) ∧ decode cX11_row 12 = .ok (.invokevirtual 185, 3) ∧ decode cX11_row 15 = .ok (.goto 15, 3) ∧ decode cX11_row 18 = .ok (.aload_n 0, 1) ∧ decode cX11_row 19 = .ok (.getfield 10, 3) ∧ decode cX11_row 22 = .ok (.getfield 181, 3) ∧ decode cX11_row 25 = .ok (.iload_n 1, 1) ∧ decode cX11_row 26 = .ok (.iload_n 2, 1) ∧ decode cX11_row 27 = .ok (.invokevirtual 190, 3) ∧ decode cX11_row 30 = .ok (.ireturn, 1) := by decide +kernel
theorem dX11_row_0 : decode cX11_row 0 = .ok (.iload_n 3, 1) := dX11_row_0_k.1
theorem dX11_row_1 : decode cX11_row 1 = .ok (.ifCond .eq 17, 3) := dX11_row_0_k.2.1
theorem dX11_row_4 : decode cX11_row 4 = .ok (.aload_n 0, 1) := dX11_row_0_k.2.2.1
theorem dX11_row_5 : decode cX11_row 5 = .ok (.getfield 10, 3) := dX11_row_0_k.2.2.2.1
theorem dX11_row_8 : decode cX11_row 8 = .ok (.getfield 181, 3) := dX11_row_0_k.2.2.2.2.1
theorem dX11_row_11 : decode cX11_row 11 = .ok (.iload_n 1, 1) := dX11_row_0_k.2.2.2.2.2.1
theorem dX11_row_12 : decode cX11_row 12 = .ok (.invokevirtual 185, 3) := dX11_row_0_k.2.2.2.2.2.2.1
theorem dX11_row_15 : decode cX11_row 15 = .ok (.goto 15, 3) := dX11_row_0_k.2.2.2.2.2.2.2.1
theorem dX11_row_18 : decode cX11_row 18 = .ok (.aload_n 0, 1) := dX11_row_0_k.2.2.2.2.2.2.2.2.1
theorem dX11_row_19 : decode cX11_row 19 = .ok (.getfield 10, 3) := dX11_row_0_k.2.2.2.2.2.2.2.2.2.1
theorem dX11_row_22 : decode cX11_row 22 = .ok (.getfield 181, 3) := dX11_row_0_k.2.2.2.2.2.2.2.2.2.2.1
theorem dX11_row_25 : decode cX11_row 25 = .ok (.iload_n 1, 1) := dX11_row_0_k.2.2.2.2.2.2.2.2.2.2.2.1
theorem dX11_row_26 : decode cX11_row 26 = .ok (.iload_n 2, 1) := dX11_row_0_k.2.2.2.2.2.2.2.2.2.2.2.2.1
theorem dX11_row_27 : decode cX11_row 27 = .ok (.invokevirtual 190, 3) := dX11_row_0_k.2.2.2.2.2.2.2.2.2.2.2.2.2.1
theorem dX11_row_30 : decode cX11_row 30 = .ok (.ireturn, 1) := dX11_row_0_k.2.2.2.2.2.2.2.2.2.2.2.2.2.2
theorem dX11_bound_0_k : decode cX11_bound 0 = .ok (.iload_n 1, 1) ∧ decode cX11_bound 1 = .ok (.ifCond .lt 17, 3) ∧ decode cX11_bound 4 = .ok (.iload_n 1, 1) ∧ decode cX11_bound 5 = .ok (.iconst 2, 1) ∧ decode cX11_bound 6 = .ok (.if_icmp .gt 12, 3) ∧ decode cX11_bound 9 = .ok (.aload_n 0, 1) ∧ decode cX11_bound 10 = .ok (.iload_n 2, 1) ∧ decode cX11_bound 11 = .ok (.iconst 2, 1) ∧ decode cX11_bound 12 = .ok (.invokevirtual 194, 3) ∧ decode cX11_bound 15 = .ok (.ifCond .ne 5, 3) ∧ decode cX11_bound 18 = .ok (.iconst (-1), 1) ∧ decode cX11_bound 19 = .ok (.ireturn, 1) ∧ decode cX11_bound 20 = .ok (.aload_n 0, 1) ∧ decode cX11_bound 21 = .ok (.getfield 33, 3) ∧ decode cX11_bound 24 = .ok (.iload_n 1, 1) ∧ decode cX11_bound 25 = .ok (.invokevirtual 198, 3) := by decide +kernel
theorem dX11_bound_0 : decode cX11_bound 0 = .ok (.iload_n 1, 1) := dX11_bound_0_k.1
theorem dX11_bound_1 : decode cX11_bound 1 = .ok (.ifCond .lt 17, 3) := dX11_bound_0_k.2.1
theorem dX11_bound_4 : decode cX11_bound 4 = .ok (.iload_n 1, 1) := dX11_bound_0_k.2.2.1
theorem dX11_bound_5 : decode cX11_bound 5 = .ok (.iconst 2, 1) := dX11_bound_0_k.2.2.2.1
theorem dX11_bound_6 : decode cX11_bound 6 = .ok (.if_icmp .gt 12, 3) := dX11_bound_0_k.2.2.2.2.1
theorem dX11_bound_9 : decode cX11_bound 9 = .ok (.aload_n 0, 1) := dX11_bound_0_k.2.2.2.2.2.1
theorem dX11_bound_10 : decode cX11_bound 10 = .ok (.iload_n 2, 1) := dX11_bound_0_k.2.2.2.2.2.2.1
theorem dX11_bound_11 : decode cX11_bound 11 = .ok (.iconst 2, 1) := dX11_bound_0_k.2.2.2.2.2.2.2.1
theorem dX11_bound_12 : decode cX11_bound 12 = .ok (.invokevirtual 194, 3) := dX11_bound_0_k.2.2.2.2.2.2.2.2.1
theorem dX11_bound_15 : decode cX11_bound 15 = .ok (.ifCond .ne 5, 3) := dX11_bound_0_k.2.2.2.2.2.2.2.2.2.1
theorem dX11_bound_18 : decode cX11_bound 18 = .ok (.iconst (-1), 1) := dX11_bound_0_k.2.2.2.2.2.2.2.2.2.2.1
theorem dX11_bound_19 : decode cX11_bound 19 = .ok (.ireturn, 1) := dX11_bound_0_k.2.2.2.2.2.2.2.2.2.2.2.1
theorem dX11_bound_20 : decode cX11_bound 20 = .ok (.aload_n 0, 1) := dX11_bound_0_k.2.2.2.2.2.2.2.2.2.2.2.2.1
theorem dX11_bound_21 : decode cX11_bound 21 = .ok (.getfield 33, 3) := dX11_bound_0_k.2.2.2.2.2.2.2.2.2.2.2.2.2.1
theorem dX11_bound_24 : decode cX11_bound 24 = .ok (.iload_n 1, 1) := dX11_bound_0_k.2.2.2.2.2.2.2.2.2.2.2.2.2.2.1
theorem dX11_bound_25 : decode cX11_bound 25 = .ok (.invokevirtual 198, 3) := dX11_bound_0_k.2.2.2.2.2.2.2.2.2.2.2.2.2.2.2
theorem dX11_bound_28_k : decode cX11_bound 28 = .ok (.iload_n 3, 1) ∧ decode cX11_bound 29 = .ok (.ifCond .eq 13, 3) ∧ decode cX11_bound 32 = .ok (.aload_n 0, 1) ∧ decode cX11_bound 33 = .ok (.getfield 33, 3) ∧ decode cX11_bound 36 = .ok (.getfield 202, 3) ∧ decode cX11_bound 39 = .ok (.goto 10, 3) ∧ decode cX11_bound 42 = .ok (.aload_n 0, 1) ∧ decode cX11_bound 43 = .ok (.getfield 33, 3) ∧ decode cX11_bound 46 = .ok (.getfield 205, 3) ∧ decode cX11_bound 49 = .ok (.ireturn, 1) := by decide +kernel
theorem dX11_bound_28 : decode cX11_bound 28 = .ok (.iload_n 3, 1) := dX11_bound_28_k.1
theorem dX11_bound_29 : decode cX11_bound 29 = .ok (.ifCond .eq 13, 3) := dX11_bound_28_k.2.1
theorem dX11_bound_32 : decode cX11_bound 32 = .ok (.aload_n 0, 1) := dX11_bound_28_k.2.2.1
theorem dX11_bound_33 : decode cX11_bound 33 = .ok (.getfield 33, 3) := dX11_bound_28_k.2.2.2.1
theorem dX11_bound_36 : decode cX11_bound 36 = .ok (.getfield 202, 3) := dX11_bound_28_k.2.2.2.2.1
theorem dX11_bound_39 : decode cX11_bound 39 = .ok (.goto 10, 3) := dX11_bound_28_k.2.2.2.2.2.1
theorem dX11_bound_42 : decode cX11_bound 42 = .ok (.aload_n 0, 1) := dX11_bound_28_k.2.2.2.2.2.2.1
theorem dX11_bound_43 : decode cX11_bound 43 = .ok (.getfield 33, 3) := dX11_bound_28_k.2.2.2.2.2.2.2.1
theorem dX11_bound_46 : decode cX11_bound 46 = .ok (.getfield 205, 3) := dX11_bound_28_k.2.2.2.2.2.2.2.2.1
theorem dX11_bound_49 : decode cX11_bound 49 = .ok (.ireturn, 1) := dX11_bound_28_k.2.2.2.2.2.2.2.2.2
theorem dX11_holds_0_k : decode cX11_holds 0 = .ok (.aload_n 0, 1) ∧ decode cX11_holds 1 = .ok (.iload_n 1, 1) ∧ decode cX11_holds 2 = .ok (.iconst 2, 1) ∧ decode cX11_holds 3 = .ok (.invokevirtual 194, 3) ∧ decode cX11_holds 6 = .ok (.ifCond .ne 5, 3) ∧ decode cX11_holds 9 = .ok (.iconst (-1), 1) ∧ decode cX11_holds 10 = .ok (.ireturn, 1) ∧ decode cX11_holds 11 = .ok (.iconst 0, 1) ∧ decode cX11_holds 12 = .ok (.istore_n 2, 1) ∧ decode cX11_holds 13 = .ok (.iconst 0, 1) ∧ decode cX11_holds 14 = .ok (.istore_n 3, 1) ∧ decode cX11_holds 15 = .ok (.iload_n 3, 1) ∧ decode cX11_holds 16 = .ok (.iconst 2, 1) ∧ decode cX11_holds 17 = .ok (.if_icmp .gt 45, 3) ∧ decode cX11_holds 20 = .ok (.aload_n 0, 1) ∧ decode cX11_holds 21 = .ok (.getfield 33, 3) := by decide +kernel
theorem dX11_holds_0 : decode cX11_holds 0 = .ok (.aload_n 0, 1) := dX11_holds_0_k.1
theorem dX11_holds_1 : decode cX11_holds 1 = .ok (.iload_n 1, 1) := dX11_holds_0_k.2.1
theorem dX11_holds_2 : decode cX11_holds 2 = .ok (.iconst 2, 1) := dX11_holds_0_k.2.2.1
theorem dX11_holds_3 : decode cX11_holds 3 = .ok (.invokevirtual 194, 3) := dX11_holds_0_k.2.2.2.1
theorem dX11_holds_6 : decode cX11_holds 6 = .ok (.ifCond .ne 5, 3) := dX11_holds_0_k.2.2.2.2.1
theorem dX11_holds_9 : decode cX11_holds 9 = .ok (.iconst (-1), 1) := dX11_holds_0_k.2.2.2.2.2.1
theorem dX11_holds_10 : decode cX11_holds 10 = .ok (.ireturn, 1) := dX11_holds_0_k.2.2.2.2.2.2.1
theorem dX11_holds_11 : decode cX11_holds 11 = .ok (.iconst 0, 1) := dX11_holds_0_k.2.2.2.2.2.2.2.1
theorem dX11_holds_12 : decode cX11_holds 12 = .ok (.istore_n 2, 1) := dX11_holds_0_k.2.2.2.2.2.2.2.2.1
theorem dX11_holds_13 : decode cX11_holds 13 = .ok (.iconst 0, 1) := dX11_holds_0_k.2.2.2.2.2.2.2.2.2.1
theorem dX11_holds_14 : decode cX11_holds 14 = .ok (.istore_n 3, 1) := dX11_holds_0_k.2.2.2.2.2.2.2.2.2.2.1
theorem dX11_holds_15 : decode cX11_holds 15 = .ok (.iload_n 3, 1) := dX11_holds_0_k.2.2.2.2.2.2.2.2.2.2.2.1
theorem dX11_holds_16 : decode cX11_holds 16 = .ok (.iconst 2, 1) := dX11_holds_0_k.2.2.2.2.2.2.2.2.2.2.2.2.1
theorem dX11_holds_17 : decode cX11_holds 17 = .ok (.if_icmp .gt 45, 3) := dX11_holds_0_k.2.2.2.2.2.2.2.2.2.2.2.2.2.1
theorem dX11_holds_20 : decode cX11_holds 20 = .ok (.aload_n 0, 1) := dX11_holds_0_k.2.2.2.2.2.2.2.2.2.2.2.2.2.2.1
theorem dX11_holds_21 : decode cX11_holds 21 = .ok (.getfield 33, 3) := dX11_holds_0_k.2.2.2.2.2.2.2.2.2.2.2.2.2.2.2
theorem dX11_holds_24_k : decode cX11_holds 24 = .ok (.iload_n 3, 1) ∧ decode cX11_holds 25 = .ok (.invokevirtual 198, 3) ∧ decode cX11_holds 28 = .ok (.aload_n 0, 1) ∧ decode cX11_holds 29 = .ok (.getfield 33, 3) ∧ decode cX11_holds 32 = .ok (.iload_n 3, 1) ∧ decode cX11_holds 33 = .ok (.aload_n 0, 1) ∧ decode cX11_holds 34 = .ok (.getfield 10, 3) ∧ decode cX11_holds 37 = .ok (.getfield 79, 3) ∧ decode cX11_holds 40 = .ok (.iconst 0, 1) ∧ decode cX11_holds 41 = .ok (.invokevirtual 157, 3) ∧ decode cX11_holds 44 = .ok (.invokevirtual 208, 3) ∧ decode cX11_holds 47 = .ok (.ifCond .eq 9, 3) ∧ decode cX11_holds 50 = .ok (.iload_n 2, 1) ∧ decode cX11_holds 51 = .ok (.iconst 1, 1) ∧ decode cX11_holds 52 = .ok (.iload_n 3, 1) ∧ decode cX11_holds 53 = .ok (.ishl, 1) := by decide +kernel
theorem dX11_holds_24 : decode cX11_holds 24 = .ok (.iload_n 3, 1) := dX11_holds_24_k.1
theorem dX11_holds_25 : decode cX11_holds 25 = .ok (.invokevirtual 198, 3) := dX11_holds_24_k.2.1
theorem dX11_holds_28 : decode cX11_holds 28 = .ok (.aload_n 0, 1) := dX11_holds_24_k.2.2.1
theorem dX11_holds_29 : decode cX11_holds 29 = .ok (.getfield 33, 3) := dX11_holds_24_k.2.2.2.1
theorem dX11_holds_32 : decode cX11_holds 32 = .ok (.iload_n 3, 1) := dX11_holds_24_k.2.2.2.2.1
theorem dX11_holds_33 : decode cX11_holds 33 = .ok (.aload_n 0, 1) := dX11_holds_24_k.2.2.2.2.2.1
theorem dX11_holds_34 : decode cX11_holds 34 = .ok (.getfield 10, 3) := dX11_holds_24_k.2.2.2.2.2.2.1
theorem dX11_holds_37 : decode cX11_holds 37 = .ok (.getfield 79, 3) := dX11_holds_24_k.2.2.2.2.2.2.2.1
theorem dX11_holds_40 : decode cX11_holds 40 = .ok (.iconst 0, 1) := dX11_holds_24_k.2.2.2.2.2.2.2.2.1
theorem dX11_holds_41 : decode cX11_holds 41 = .ok (.invokevirtual 157, 3) := dX11_holds_24_k.2.2.2.2.2.2.2.2.2.1
theorem dX11_holds_44 : decode cX11_holds 44 = .ok (.invokevirtual 208, 3) := dX11_holds_24_k.2.2.2.2.2.2.2.2.2.2.1
theorem dX11_holds_47 : decode cX11_holds 47 = .ok (.ifCond .eq 9, 3) := dX11_holds_24_k.2.2.2.2.2.2.2.2.2.2.2.1
theorem dX11_holds_50 : decode cX11_holds 50 = .ok (.iload_n 2, 1) := dX11_holds_24_k.2.2.2.2.2.2.2.2.2.2.2.2.1
theorem dX11_holds_51 : decode cX11_holds 51 = .ok (.iconst 1, 1) := dX11_holds_24_k.2.2.2.2.2.2.2.2.2.2.2.2.2.1
theorem dX11_holds_52 : decode cX11_holds 52 = .ok (.iload_n 3, 1) := dX11_holds_24_k.2.2.2.2.2.2.2.2.2.2.2.2.2.2.1
theorem dX11_holds_53 : decode cX11_holds 53 = .ok (.ishl, 1) := dX11_holds_24_k.2.2.2.2.2.2.2.2.2.2.2.2.2.2.2
theorem dX11_holds_54_k : decode cX11_holds 54 = .ok (.ior, 1) ∧ decode cX11_holds 55 = .ok (.istore_n 2, 1) ∧ decode cX11_holds 56 = .ok (.iinc 3 1, 3) ∧ decode cX11_holds 59 = .ok (.goto (-44), 3) ∧ decode cX11_holds 62 = .ok (.iload_n 2, 1) ∧ decode cX11_holds 63 = .ok (.ireturn, 1) := by decide +kernel
theorem dX11_holds_54 : decode cX11_holds 54 = .ok (.ior, 1) := dX11_holds_54_k.1
theorem dX11_holds_55 : decode cX11_holds 55 = .ok (.istore_n 2, 1) := dX11_holds_54_k.2.1
theorem dX11_holds_56 : decode cX11_holds 56 = .ok (.iinc 3 1, 3) := dX11_holds_54_k.2.2.1
theorem dX11_holds_59 : decode cX11_holds 59 = .ok (.goto (-44), 3) := dX11_holds_54_k.2.2.2.1
theorem dX11_holds_62 : decode cX11_holds 62 = .ok (.iload_n 2, 1) := dX11_holds_54_k.2.2.2.2.1
theorem dX11_holds_63 : decode cX11_holds 63 = .ok (.ireturn, 1) := dX11_holds_54_k.2.2.2.2.2
theorem dX11_claim_0_k : decode cX11_claim 0 = .ok (.aload_n 0, 1) ∧ decode cX11_claim 1 = .ok (.iload_n 1, 1) ∧ decode cX11_claim 2 = .ok (.iconst 2, 1) ∧ decode cX11_claim 3 = .ok (.invokevirtual 194, 3) ∧ decode cX11_claim 6 = .ok (.ifCond .ne 5, 3) ∧ decode cX11_claim 9 = .ok (.iconst (-1), 1) ∧ decode cX11_claim 10 = .ok (.ireturn, 1) ∧ decode cX11_claim 11 = .ok (.aload_n 0, 1) ∧ decode cX11_claim 12 = .ok (.iconst 0, 1) ∧ decode cX11_claim 13 = .ok (.invokevirtual 211, 3) ∧ decode cX11_claim 16 = .ok (.aload_n 0, 1) ∧ decode cX11_claim 17 = .ok (.iconst 2, 1) ∧ decode cX11_claim 18 = .ok (.invokevirtual 211, 3) ∧ decode cX11_claim 21 = .ok (.invokestatic 214, 3) ∧ decode cX11_claim 24 = .ok (.ireturn, 1) := by decide +kernel
theorem dX11_claim_0 : decode cX11_claim 0 = .ok (.aload_n 0, 1) := dX11_claim_0_k.1
theorem dX11_claim_1 : decode cX11_claim 1 = .ok (.iload_n 1, 1) := dX11_claim_0_k.2.1
theorem dX11_claim_2 : decode cX11_claim 2 = .ok (.iconst 2, 1) := dX11_claim_0_k.2.2.1
theorem dX11_claim_3 : decode cX11_claim 3 = .ok (.invokevirtual 194, 3) := dX11_claim_0_k.2.2.2.1
theorem dX11_claim_6 : decode cX11_claim 6 = .ok (.ifCond .ne 5, 3) := dX11_claim_0_k.2.2.2.2.1
theorem dX11_claim_9 : decode cX11_claim 9 = .ok (.iconst (-1), 1) := dX11_claim_0_k.2.2.2.2.2.1
theorem dX11_claim_10 : decode cX11_claim 10 = .ok (.ireturn, 1) := dX11_claim_0_k.2.2.2.2.2.2.1
theorem dX11_claim_11 : decode cX11_claim 11 = .ok (.aload_n 0, 1) := dX11_claim_0_k.2.2.2.2.2.2.2.1
theorem dX11_claim_12 : decode cX11_claim 12 = .ok (.iconst 0, 1) := dX11_claim_0_k.2.2.2.2.2.2.2.2.1
theorem dX11_claim_13 : decode cX11_claim 13 = .ok (.invokevirtual 211, 3) := dX11_claim_0_k.2.2.2.2.2.2.2.2.2.1
theorem dX11_claim_16 : decode cX11_claim 16 = .ok (.aload_n 0, 1) := dX11_claim_0_k.2.2.2.2.2.2.2.2.2.2.1
theorem dX11_claim_17 : decode cX11_claim 17 = .ok (.iconst 2, 1) := dX11_claim_0_k.2.2.2.2.2.2.2.2.2.2.2.1
theorem dX11_claim_18 : decode cX11_claim 18 = .ok (.invokevirtual 211, 3) := dX11_claim_0_k.2.2.2.2.2.2.2.2.2.2.2.2.1
theorem dX11_claim_21 : decode cX11_claim 21 = .ok (.invokestatic 214, 3) := dX11_claim_0_k.2.2.2.2.2.2.2.2.2.2.2.2.2.1
theorem dX11_claim_24 : decode cX11_claim 24 = .ok (.ireturn, 1) := dX11_claim_0_k.2.2.2.2.2.2.2.2.2.2.2.2.2.2
theorem dX11_tuple_0_k : decode cX11_tuple 0 = .ok (.aload_n 0, 1) ∧ decode cX11_tuple 1 = .ok (.iload_n 1, 1) ∧ decode cX11_tuple 2 = .ok (.iload_n 2, 1) ∧ decode cX11_tuple 3 = .ok (.invokevirtual 219, 3) ∧ decode cX11_tuple 6 = .ok (.ifCond .eq 14, 3) ∧ decode cX11_tuple 9 = .ok (.aload_n 0, 1) ∧ decode cX11_tuple 10 = .ok (.getfield 33, 3) ∧ decode cX11_tuple 13 = .ok (.iload_n 2, 1) ∧ decode cX11_tuple 14 = .ok (.invokevirtual 222, 3) ∧ decode cX11_tuple 17 = .ok (.goto 4, 3) ∧ decode cX11_tuple 20 = .ok (.iconst (-1), 1) ∧ decode cX11_tuple 21 = .ok (.ireturn, 1) := by decide +kernel
theorem dX11_tuple_0 : decode cX11_tuple 0 = .ok (.aload_n 0, 1) := dX11_tuple_0_k.1
theorem dX11_tuple_1 : decode cX11_tuple 1 = .ok (.iload_n 1, 1) := dX11_tuple_0_k.2.1
theorem dX11_tuple_2 : decode cX11_tuple 2 = .ok (.iload_n 2, 1) := dX11_tuple_0_k.2.2.1
theorem dX11_tuple_3 : decode cX11_tuple 3 = .ok (.invokevirtual 219, 3) := dX11_tuple_0_k.2.2.2.1
theorem dX11_tuple_6 : decode cX11_tuple 6 = .ok (.ifCond .eq 14, 3) := dX11_tuple_0_k.2.2.2.2.1
theorem dX11_tuple_9 : decode cX11_tuple 9 = .ok (.aload_n 0, 1) := dX11_tuple_0_k.2.2.2.2.2.1
theorem dX11_tuple_10 : decode cX11_tuple 10 = .ok (.getfield 33, 3) := dX11_tuple_0_k.2.2.2.2.2.2.1
theorem dX11_tuple_13 : decode cX11_tuple 13 = .ok (.iload_n 2, 1) := dX11_tuple_0_k.2.2.2.2.2.2.2.1
theorem dX11_tuple_14 : decode cX11_tuple 14 = .ok (.invokevirtual 222, 3) := dX11_tuple_0_k.2.2.2.2.2.2.2.2.1
theorem dX11_tuple_17 : decode cX11_tuple 17 = .ok (.goto 4, 3) := dX11_tuple_0_k.2.2.2.2.2.2.2.2.2.1
theorem dX11_tuple_20 : decode cX11_tuple 20 = .ok (.iconst (-1), 1) := dX11_tuple_0_k.2.2.2.2.2.2.2.2.2.2.1
theorem dX11_tuple_21 : decode cX11_tuple 21 = .ok (.ireturn, 1) := dX11_tuple_0_k.2.2.2.2.2.2.2.2.2.2.2
theorem dX11_spreads_0_k : decode cX11_spreads 0 = .ok (.aload_n 0, 1) ∧ decode cX11_spreads 1 = .ok (.iload_n 1, 1) ∧ decode cX11_spreads 2 = .ok (.iload_n 2, 1) ∧ decode cX11_spreads 3 = .ok (.invokevirtual 219, 3) ∧ decode cX11_spreads 6 = .ok (.ifCond .ne 5, 3) ∧ decode cX11_spreads 9 = .ok (.iconst 0, 1) ∧ decode cX11_spreads 10 = .ok (.ireturn, 1) ∧ decode cX11_spreads 11 = .ok (.aload_n 0, 1) ∧ decode cX11_spreads 12 = .ok (.getfield 33, 3) ∧ decode cX11_spreads 15 = .ok (.iload_n 2, 1) ∧ decode cX11_spreads 16 = .ok (.invokevirtual 222, 3) ∧ decode cX11_spreads 19 = .ok (.i2l, 1) ∧ decode cX11_spreads 20 = .ok (.lstore_n 3, 1) ∧ decode cX11_spreads 21 = .ok (.iload_n 1, 1) ∧ decode cX11_spreads 22 = .ok (.iload_n 2, 1) ∧ decode cX11_spreads 23 = .ok (.isub, 1) := by decide +kernel
theorem dX11_spreads_0 : decode cX11_spreads 0 = .ok (.aload_n 0, 1) := dX11_spreads_0_k.1
theorem dX11_spreads_1 : decode cX11_spreads 1 = .ok (.iload_n 1, 1) := dX11_spreads_0_k.2.1
theorem dX11_spreads_2 : decode cX11_spreads 2 = .ok (.iload_n 2, 1) := dX11_spreads_0_k.2.2.1
theorem dX11_spreads_3 : decode cX11_spreads 3 = .ok (.invokevirtual 219, 3) := dX11_spreads_0_k.2.2.2.1
theorem dX11_spreads_6 : decode cX11_spreads 6 = .ok (.ifCond .ne 5, 3) := dX11_spreads_0_k.2.2.2.2.1
theorem dX11_spreads_9 : decode cX11_spreads 9 = .ok (.iconst 0, 1) := dX11_spreads_0_k.2.2.2.2.2.1
theorem dX11_spreads_10 : decode cX11_spreads 10 = .ok (.ireturn, 1) := dX11_spreads_0_k.2.2.2.2.2.2.1
theorem dX11_spreads_11 : decode cX11_spreads 11 = .ok (.aload_n 0, 1) := dX11_spreads_0_k.2.2.2.2.2.2.2.1
theorem dX11_spreads_12 : decode cX11_spreads 12 = .ok (.getfield 33, 3) := dX11_spreads_0_k.2.2.2.2.2.2.2.2.1
theorem dX11_spreads_15 : decode cX11_spreads 15 = .ok (.iload_n 2, 1) := dX11_spreads_0_k.2.2.2.2.2.2.2.2.2.1
theorem dX11_spreads_16 : decode cX11_spreads 16 = .ok (.invokevirtual 222, 3) := dX11_spreads_0_k.2.2.2.2.2.2.2.2.2.2.1
theorem dX11_spreads_19 : decode cX11_spreads 19 = .ok (.i2l, 1) := dX11_spreads_0_k.2.2.2.2.2.2.2.2.2.2.2.1
theorem dX11_spreads_20 : decode cX11_spreads 20 = .ok (.lstore_n 3, 1) := dX11_spreads_0_k.2.2.2.2.2.2.2.2.2.2.2.2.1
theorem dX11_spreads_21 : decode cX11_spreads 21 = .ok (.iload_n 1, 1) := dX11_spreads_0_k.2.2.2.2.2.2.2.2.2.2.2.2.2.1
theorem dX11_spreads_22 : decode cX11_spreads 22 = .ok (.iload_n 2, 1) := dX11_spreads_0_k.2.2.2.2.2.2.2.2.2.2.2.2.2.2.1
theorem dX11_spreads_23 : decode cX11_spreads 23 = .ok (.isub, 1) := dX11_spreads_0_k.2.2.2.2.2.2.2.2.2.2.2.2.2.2.2
theorem dX11_spreads_24_k : decode cX11_spreads 24 = .ok (.iconst 1, 1) ∧ decode cX11_spreads 25 = .ok (.iadd, 1) ∧ decode cX11_spreads 26 = .ok (.i2l, 1) ∧ decode cX11_spreads 27 = .ok (.lstore 5, 2) ∧ decode cX11_spreads 29 = .ok (.iconst 0, 1) ∧ decode cX11_spreads 30 = .ok (.istore 7, 2) ∧ decode cX11_spreads 32 = .ok (.iload 7, 2) ∧ decode cX11_spreads 34 = .ok (.iload_n 2, 1) ∧ decode cX11_spreads 35 = .ok (.if_icmp .ge 32, 3) ∧ decode cX11_spreads 38 = .ok (.lload_n 3, 1) ∧ decode cX11_spreads 39 = .ok (.ldc2_w 225, 3) ∧ decode cX11_spreads 42 = .ok (.lmul, 1) ∧ decode cX11_spreads 43 = .ok (.lstore_n 3, 1) ∧ decode cX11_spreads 44 = .ok (.lload 5, 2) ∧ decode cX11_spreads 46 = .ok (.aload_n 0, 1) ∧ decode cX11_spreads 47 = .ok (.getfield 10, 3) := by decide +kernel
theorem dX11_spreads_24 : decode cX11_spreads 24 = .ok (.iconst 1, 1) := dX11_spreads_24_k.1
theorem dX11_spreads_25 : decode cX11_spreads 25 = .ok (.iadd, 1) := dX11_spreads_24_k.2.1
theorem dX11_spreads_26 : decode cX11_spreads 26 = .ok (.i2l, 1) := dX11_spreads_24_k.2.2.1
theorem dX11_spreads_27 : decode cX11_spreads 27 = .ok (.lstore 5, 2) := dX11_spreads_24_k.2.2.2.1
theorem dX11_spreads_29 : decode cX11_spreads 29 = .ok (.iconst 0, 1) := dX11_spreads_24_k.2.2.2.2.1
theorem dX11_spreads_30 : decode cX11_spreads 30 = .ok (.istore 7, 2) := dX11_spreads_24_k.2.2.2.2.2.1
theorem dX11_spreads_32 : decode cX11_spreads 32 = .ok (.iload 7, 2) := dX11_spreads_24_k.2.2.2.2.2.2.1
theorem dX11_spreads_34 : decode cX11_spreads 34 = .ok (.iload_n 2, 1) := dX11_spreads_24_k.2.2.2.2.2.2.2.1
theorem dX11_spreads_35 : decode cX11_spreads 35 = .ok (.if_icmp .ge 32, 3) := dX11_spreads_24_k.2.2.2.2.2.2.2.2.1
theorem dX11_spreads_38 : decode cX11_spreads 38 = .ok (.lload_n 3, 1) := dX11_spreads_24_k.2.2.2.2.2.2.2.2.2.1
theorem dX11_spreads_39 : decode cX11_spreads 39 = .ok (.ldc2_w 225, 3) := dX11_spreads_24_k.2.2.2.2.2.2.2.2.2.2.1
theorem dX11_spreads_42 : decode cX11_spreads 42 = .ok (.lmul, 1) := dX11_spreads_24_k.2.2.2.2.2.2.2.2.2.2.2.1
theorem dX11_spreads_43 : decode cX11_spreads 43 = .ok (.lstore_n 3, 1) := dX11_spreads_24_k.2.2.2.2.2.2.2.2.2.2.2.2.1
theorem dX11_spreads_44 : decode cX11_spreads 44 = .ok (.lload 5, 2) := dX11_spreads_24_k.2.2.2.2.2.2.2.2.2.2.2.2.2.1
theorem dX11_spreads_46 : decode cX11_spreads 46 = .ok (.aload_n 0, 1) := dX11_spreads_24_k.2.2.2.2.2.2.2.2.2.2.2.2.2.2.1
theorem dX11_spreads_47 : decode cX11_spreads 47 = .ok (.getfield 10, 3) := dX11_spreads_24_k.2.2.2.2.2.2.2.2.2.2.2.2.2.2.2
theorem dX11_spreads_50_k : decode cX11_spreads 50 = .ok (.getfield 79, 3) ∧ decode cX11_spreads 53 = .ok (.iconst 0, 1) ∧ decode cX11_spreads 54 = .ok (.invokevirtual 157, 3) ∧ decode cX11_spreads 57 = .ok (.i2l, 1) ∧ decode cX11_spreads 58 = .ok (.lmul, 1) ∧ decode cX11_spreads 59 = .ok (.lstore 5, 2) ∧ decode cX11_spreads 61 = .ok (.iinc 7 1, 3) ∧ decode cX11_spreads 64 = .ok (.goto (-32), 3) ∧ decode cX11_spreads 67 = .ok (.lload_n 3, 1) ∧ decode cX11_spreads 68 = .ok (.lload 5, 2) ∧ decode cX11_spreads 70 = .ok (.lcmp, 1) ∧ decode cX11_spreads 71 = .ok (.ifCond .gt 7, 3) ∧ decode cX11_spreads 74 = .ok (.iconst 1, 1) ∧ decode cX11_spreads 75 = .ok (.goto 4, 3) ∧ decode cX11_spreads 78 = .ok (.iconst 0, 1) ∧ decode cX11_spreads 79 = .ok (.ireturn, 1) := by decide +kernel
theorem dX11_spreads_50 : decode cX11_spreads 50 = .ok (.getfield 79, 3) := dX11_spreads_50_k.1
theorem dX11_spreads_53 : decode cX11_spreads 53 = .ok (.iconst 0, 1) := dX11_spreads_50_k.2.1
theorem dX11_spreads_54 : decode cX11_spreads 54 = .ok (.invokevirtual 157, 3) := dX11_spreads_50_k.2.2.1
theorem dX11_spreads_57 : decode cX11_spreads 57 = .ok (.i2l, 1) := dX11_spreads_50_k.2.2.2.1
theorem dX11_spreads_58 : decode cX11_spreads 58 = .ok (.lmul, 1) := dX11_spreads_50_k.2.2.2.2.1
theorem dX11_spreads_59 : decode cX11_spreads 59 = .ok (.lstore 5, 2) := dX11_spreads_50_k.2.2.2.2.2.1
theorem dX11_spreads_61 : decode cX11_spreads 61 = .ok (.iinc 7 1, 3) := dX11_spreads_50_k.2.2.2.2.2.2.1
theorem dX11_spreads_64 : decode cX11_spreads 64 = .ok (.goto (-32), 3) := dX11_spreads_50_k.2.2.2.2.2.2.2.1
theorem dX11_spreads_67 : decode cX11_spreads 67 = .ok (.lload_n 3, 1) := dX11_spreads_50_k.2.2.2.2.2.2.2.2.1
theorem dX11_spreads_68 : decode cX11_spreads 68 = .ok (.lload 5, 2) := dX11_spreads_50_k.2.2.2.2.2.2.2.2.2.1
theorem dX11_spreads_70 : decode cX11_spreads 70 = .ok (.lcmp, 1) := dX11_spreads_50_k.2.2.2.2.2.2.2.2.2.2.1
theorem dX11_spreads_71 : decode cX11_spreads 71 = .ok (.ifCond .gt 7, 3) := dX11_spreads_50_k.2.2.2.2.2.2.2.2.2.2.2.1
theorem dX11_spreads_74 : decode cX11_spreads 74 = .ok (.iconst 1, 1) := dX11_spreads_50_k.2.2.2.2.2.2.2.2.2.2.2.2.1
theorem dX11_spreads_75 : decode cX11_spreads 75 = .ok (.goto 4, 3) := dX11_spreads_50_k.2.2.2.2.2.2.2.2.2.2.2.2.2.1
theorem dX11_spreads_78 : decode cX11_spreads 78 = .ok (.iconst 0, 1) := dX11_spreads_50_k.2.2.2.2.2.2.2.2.2.2.2.2.2.2.1
theorem dX11_spreads_79 : decode cX11_spreads 79 = .ok (.ireturn, 1) := dX11_spreads_50_k.2.2.2.2.2.2.2.2.2.2.2.2.2.2.2
theorem dX11_lag_0_k : decode cX11_lag 0 = .ok (.iload_n 2, 1) ∧ decode cX11_lag 1 = .ok (.iconst 1, 1) ∧ decode cX11_lag 2 = .ok (.if_icmp .lt 23, 3) ∧ decode cX11_lag 5 = .ok (.iload_n 2, 1) ∧ decode cX11_lag 6 = .ok (.bipush 32, 2) ∧ decode cX11_lag 8 = .ok (.if_icmp .gt 17, 3) ∧ decode cX11_lag 11 = .ok (.iload_n 2, 1) ∧ decode cX11_lag 12 = .ok (.iload_n 1, 1) ∧ decode cX11_lag 13 = .ok (.if_icmp .ge 12, 3) ∧ decode cX11_lag 16 = .ok (.aload_n 0, 1) ∧ decode cX11_lag 17 = .ok (.iload_n 1, 1) ∧ decode cX11_lag 18 = .ok (.iconst 2, 1) ∧ decode cX11_lag 19 = .ok (.invokevirtual 194, 3) ∧ decode cX11_lag 22 = .ok (.ifCond .ne 5, 3) ∧ decode cX11_lag 25 = .ok (.iconst (-1), 1) ∧ decode cX11_lag 26 = .ok (.ireturn, 1) := by decide +kernel
theorem dX11_lag_0 : decode cX11_lag 0 = .ok (.iload_n 2, 1) := dX11_lag_0_k.1
theorem dX11_lag_1 : decode cX11_lag 1 = .ok (.iconst 1, 1) := dX11_lag_0_k.2.1
theorem dX11_lag_2 : decode cX11_lag 2 = .ok (.if_icmp .lt 23, 3) := dX11_lag_0_k.2.2.1
theorem dX11_lag_5 : decode cX11_lag 5 = .ok (.iload_n 2, 1) := dX11_lag_0_k.2.2.2.1
theorem dX11_lag_6 : decode cX11_lag 6 = .ok (.bipush 32, 2) := dX11_lag_0_k.2.2.2.2.1
theorem dX11_lag_8 : decode cX11_lag 8 = .ok (.if_icmp .gt 17, 3) := dX11_lag_0_k.2.2.2.2.2.1
theorem dX11_lag_11 : decode cX11_lag 11 = .ok (.iload_n 2, 1) := dX11_lag_0_k.2.2.2.2.2.2.1
theorem dX11_lag_12 : decode cX11_lag 12 = .ok (.iload_n 1, 1) := dX11_lag_0_k.2.2.2.2.2.2.2.1
theorem dX11_lag_13 : decode cX11_lag 13 = .ok (.if_icmp .ge 12, 3) := dX11_lag_0_k.2.2.2.2.2.2.2.2.1
theorem dX11_lag_16 : decode cX11_lag 16 = .ok (.aload_n 0, 1) := dX11_lag_0_k.2.2.2.2.2.2.2.2.2.1
theorem dX11_lag_17 : decode cX11_lag 17 = .ok (.iload_n 1, 1) := dX11_lag_0_k.2.2.2.2.2.2.2.2.2.2.1
theorem dX11_lag_18 : decode cX11_lag 18 = .ok (.iconst 2, 1) := dX11_lag_0_k.2.2.2.2.2.2.2.2.2.2.2.1
theorem dX11_lag_19 : decode cX11_lag 19 = .ok (.invokevirtual 194, 3) := dX11_lag_0_k.2.2.2.2.2.2.2.2.2.2.2.2.1
theorem dX11_lag_22 : decode cX11_lag 22 = .ok (.ifCond .ne 5, 3) := dX11_lag_0_k.2.2.2.2.2.2.2.2.2.2.2.2.2.1
theorem dX11_lag_25 : decode cX11_lag 25 = .ok (.iconst (-1), 1) := dX11_lag_0_k.2.2.2.2.2.2.2.2.2.2.2.2.2.2.1
theorem dX11_lag_26 : decode cX11_lag 26 = .ok (.ireturn, 1) := dX11_lag_0_k.2.2.2.2.2.2.2.2.2.2.2.2.2.2.2
theorem dX11_lag_27_k : decode cX11_lag 27 = .ok (.aload_n 0, 1) ∧ decode cX11_lag 28 = .ok (.getfield 33, 3) ∧ decode cX11_lag 31 = .ok (.iload_n 2, 1) ∧ decode cX11_lag 32 = .ok (.invokevirtual 227, 3) ∧ decode cX11_lag 35 = .ok (.ireturn, 1) := by decide +kernel
theorem dX11_lag_27 : decode cX11_lag 27 = .ok (.aload_n 0, 1) := dX11_lag_27_k.1
theorem dX11_lag_28 : decode cX11_lag 28 = .ok (.getfield 33, 3) := dX11_lag_27_k.2.1
theorem dX11_lag_31 : decode cX11_lag 31 = .ok (.iload_n 2, 1) := dX11_lag_27_k.2.2.1
theorem dX11_lag_32 : decode cX11_lag 32 = .ok (.invokevirtual 227, 3) := dX11_lag_27_k.2.2.2.1
theorem dX11_lag_35 : decode cX11_lag 35 = .ok (.ireturn, 1) := dX11_lag_27_k.2.2.2.2
theorem dX11_echo_0_k : decode cX11_echo 0 = .ok (.aload_n 0, 1) ∧ decode cX11_echo 1 = .ok (.iload_n 1, 1) ∧ decode cX11_echo 2 = .ok (.iconst 2, 1) ∧ decode cX11_echo 3 = .ok (.invokevirtual 194, 3) ∧ decode cX11_echo 6 = .ok (.ifCond .ne 5, 3) ∧ decode cX11_echo 9 = .ok (.iconst (-1), 1) ∧ decode cX11_echo 10 = .ok (.ireturn, 1) ∧ decode cX11_echo 11 = .ok (.iconst 1, 1) ∧ decode cX11_echo 12 = .ok (.istore_n 2, 1) ∧ decode cX11_echo 13 = .ok (.aload_n 0, 1) ∧ decode cX11_echo 14 = .ok (.getfield 33, 3) ∧ decode cX11_echo 17 = .ok (.iconst 1, 1) ∧ decode cX11_echo 18 = .ok (.invokevirtual 227, 3) ∧ decode cX11_echo 21 = .ok (.istore_n 3, 1) ∧ decode cX11_echo 22 = .ok (.iconst 2, 1) ∧ decode cX11_echo 23 = .ok (.istore 4, 2) := by decide +kernel
theorem dX11_echo_0 : decode cX11_echo 0 = .ok (.aload_n 0, 1) := dX11_echo_0_k.1
theorem dX11_echo_1 : decode cX11_echo 1 = .ok (.iload_n 1, 1) := dX11_echo_0_k.2.1
theorem dX11_echo_2 : decode cX11_echo 2 = .ok (.iconst 2, 1) := dX11_echo_0_k.2.2.1
theorem dX11_echo_3 : decode cX11_echo 3 = .ok (.invokevirtual 194, 3) := dX11_echo_0_k.2.2.2.1
theorem dX11_echo_6 : decode cX11_echo 6 = .ok (.ifCond .ne 5, 3) := dX11_echo_0_k.2.2.2.2.1
theorem dX11_echo_9 : decode cX11_echo 9 = .ok (.iconst (-1), 1) := dX11_echo_0_k.2.2.2.2.2.1
theorem dX11_echo_10 : decode cX11_echo 10 = .ok (.ireturn, 1) := dX11_echo_0_k.2.2.2.2.2.2.1
theorem dX11_echo_11 : decode cX11_echo 11 = .ok (.iconst 1, 1) := dX11_echo_0_k.2.2.2.2.2.2.2.1
theorem dX11_echo_12 : decode cX11_echo 12 = .ok (.istore_n 2, 1) := dX11_echo_0_k.2.2.2.2.2.2.2.2.1
theorem dX11_echo_13 : decode cX11_echo 13 = .ok (.aload_n 0, 1) := dX11_echo_0_k.2.2.2.2.2.2.2.2.2.1
theorem dX11_echo_14 : decode cX11_echo 14 = .ok (.getfield 33, 3) := dX11_echo_0_k.2.2.2.2.2.2.2.2.2.2.1
theorem dX11_echo_17 : decode cX11_echo 17 = .ok (.iconst 1, 1) := dX11_echo_0_k.2.2.2.2.2.2.2.2.2.2.2.1
theorem dX11_echo_18 : decode cX11_echo 18 = .ok (.invokevirtual 227, 3) := dX11_echo_0_k.2.2.2.2.2.2.2.2.2.2.2.2.1
theorem dX11_echo_21 : decode cX11_echo 21 = .ok (.istore_n 3, 1) := dX11_echo_0_k.2.2.2.2.2.2.2.2.2.2.2.2.2.1
theorem dX11_echo_22 : decode cX11_echo 22 = .ok (.iconst 2, 1) := dX11_echo_0_k.2.2.2.2.2.2.2.2.2.2.2.2.2.2.1
theorem dX11_echo_23 : decode cX11_echo 23 = .ok (.istore 4, 2) := dX11_echo_0_k.2.2.2.2.2.2.2.2.2.2.2.2.2.2.2
theorem dX11_echo_25_k : decode cX11_echo 25 = .ok (.iload 4, 2) ∧ decode cX11_echo 27 = .ok (.bipush 32, 2) ∧ decode cX11_echo 29 = .ok (.if_icmp .gt 47, 3) ∧ decode cX11_echo 32 = .ok (.iload 4, 2) ∧ decode cX11_echo 34 = .ok (.iload_n 1, 1) ∧ decode cX11_echo 35 = .ok (.if_icmp .ge 41, 3) ∧ decode cX11_echo 38 = .ok (.aload_n 0, 1) ∧ decode cX11_echo 39 = .ok (.getfield 33, 3) ∧ decode cX11_echo 42 = .ok (.iload 4, 2) ∧ decode cX11_echo 44 = .ok (.invokevirtual 227, 3) ∧ decode cX11_echo 47 = .ok (.istore 5, 2) ∧ decode cX11_echo 49 = .ok (.iload 5, 2) ∧ decode cX11_echo 51 = .ok (.iload_n 1, 1) ∧ decode cX11_echo 52 = .ok (.iload_n 2, 1) ∧ decode cX11_echo 53 = .ok (.isub, 1) ∧ decode cX11_echo 54 = .ok (.imul, 1) := by decide +kernel
theorem dX11_echo_25 : decode cX11_echo 25 = .ok (.iload 4, 2) := dX11_echo_25_k.1
theorem dX11_echo_27 : decode cX11_echo 27 = .ok (.bipush 32, 2) := dX11_echo_25_k.2.1
theorem dX11_echo_29 : decode cX11_echo 29 = .ok (.if_icmp .gt 47, 3) := dX11_echo_25_k.2.2.1
theorem dX11_echo_32 : decode cX11_echo 32 = .ok (.iload 4, 2) := dX11_echo_25_k.2.2.2.1
theorem dX11_echo_34 : decode cX11_echo 34 = .ok (.iload_n 1, 1) := dX11_echo_25_k.2.2.2.2.1
theorem dX11_echo_35 : decode cX11_echo 35 = .ok (.if_icmp .ge 41, 3) := dX11_echo_25_k.2.2.2.2.2.1
theorem dX11_echo_38 : decode cX11_echo 38 = .ok (.aload_n 0, 1) := dX11_echo_25_k.2.2.2.2.2.2.1
theorem dX11_echo_39 : decode cX11_echo 39 = .ok (.getfield 33, 3) := dX11_echo_25_k.2.2.2.2.2.2.2.1
theorem dX11_echo_42 : decode cX11_echo 42 = .ok (.iload 4, 2) := dX11_echo_25_k.2.2.2.2.2.2.2.2.1
theorem dX11_echo_44 : decode cX11_echo 44 = .ok (.invokevirtual 227, 3) := dX11_echo_25_k.2.2.2.2.2.2.2.2.2.1
theorem dX11_echo_47 : decode cX11_echo 47 = .ok (.istore 5, 2) := dX11_echo_25_k.2.2.2.2.2.2.2.2.2.2.1
theorem dX11_echo_49 : decode cX11_echo 49 = .ok (.iload 5, 2) := dX11_echo_25_k.2.2.2.2.2.2.2.2.2.2.2.1
theorem dX11_echo_51 : decode cX11_echo 51 = .ok (.iload_n 1, 1) := dX11_echo_25_k.2.2.2.2.2.2.2.2.2.2.2.2.1
theorem dX11_echo_52 : decode cX11_echo 52 = .ok (.iload_n 2, 1) := dX11_echo_25_k.2.2.2.2.2.2.2.2.2.2.2.2.2.1
theorem dX11_echo_53 : decode cX11_echo 53 = .ok (.isub, 1) := dX11_echo_25_k.2.2.2.2.2.2.2.2.2.2.2.2.2.2.1
theorem dX11_echo_54 : decode cX11_echo 54 = .ok (.imul, 1) := dX11_echo_25_k.2.2.2.2.2.2.2.2.2.2.2.2.2.2.2
theorem dX11_echo_55_k : decode cX11_echo 55 = .ok (.iload_n 3, 1) ∧ decode cX11_echo 56 = .ok (.iload_n 1, 1) ∧ decode cX11_echo 57 = .ok (.iload 4, 2) ∧ decode cX11_echo 59 = .ok (.isub, 1) ∧ decode cX11_echo 60 = .ok (.imul, 1) ∧ decode cX11_echo 61 = .ok (.if_icmp .le 9, 3) ∧ decode cX11_echo 64 = .ok (.iload 4, 2) ∧ decode cX11_echo 66 = .ok (.istore_n 2, 1) ∧ decode cX11_echo 67 = .ok (.iload 5, 2) ∧ decode cX11_echo 69 = .ok (.istore_n 3, 1) ∧ decode cX11_echo 70 = .ok (.iinc 4 1, 3) ∧ decode cX11_echo 73 = .ok (.goto (-48), 3) ∧ decode cX11_echo 76 = .ok (.iload_n 2, 1) ∧ decode cX11_echo 77 = .ok (.ireturn, 1) := by decide +kernel
theorem dX11_echo_55 : decode cX11_echo 55 = .ok (.iload_n 3, 1) := dX11_echo_55_k.1
theorem dX11_echo_56 : decode cX11_echo 56 = .ok (.iload_n 1, 1) := dX11_echo_55_k.2.1
theorem dX11_echo_57 : decode cX11_echo 57 = .ok (.iload 4, 2) := dX11_echo_55_k.2.2.1
theorem dX11_echo_59 : decode cX11_echo 59 = .ok (.isub, 1) := dX11_echo_55_k.2.2.2.1
theorem dX11_echo_60 : decode cX11_echo 60 = .ok (.imul, 1) := dX11_echo_55_k.2.2.2.2.1
theorem dX11_echo_61 : decode cX11_echo 61 = .ok (.if_icmp .le 9, 3) := dX11_echo_55_k.2.2.2.2.2.1
theorem dX11_echo_64 : decode cX11_echo 64 = .ok (.iload 4, 2) := dX11_echo_55_k.2.2.2.2.2.2.1
theorem dX11_echo_66 : decode cX11_echo 66 = .ok (.istore_n 2, 1) := dX11_echo_55_k.2.2.2.2.2.2.2.1
theorem dX11_echo_67 : decode cX11_echo 67 = .ok (.iload 5, 2) := dX11_echo_55_k.2.2.2.2.2.2.2.2.1
theorem dX11_echo_69 : decode cX11_echo 69 = .ok (.istore_n 3, 1) := dX11_echo_55_k.2.2.2.2.2.2.2.2.2.1
theorem dX11_echo_70 : decode cX11_echo 70 = .ok (.iinc 4 1, 3) := dX11_echo_55_k.2.2.2.2.2.2.2.2.2.2.1
theorem dX11_echo_73 : decode cX11_echo 73 = .ok (.goto (-48), 3) := dX11_echo_55_k.2.2.2.2.2.2.2.2.2.2.2.1
theorem dX11_echo_76 : decode cX11_echo 76 = .ok (.iload_n 2, 1) := dX11_echo_55_k.2.2.2.2.2.2.2.2.2.2.2.2.1
theorem dX11_echo_77 : decode cX11_echo 77 = .ok (.ireturn, 1) := dX11_echo_55_k.2.2.2.2.2.2.2.2.2.2.2.2.2
theorem dX11_compared_0_k : decode cX11_compared 0 = .ok (.iload_n 1, 1) ∧ decode cX11_compared 1 = .ok (.tableswitch 110 0 4 #[35, 46, 57, 68, 85], 35) ∧ decode cX11_compared 36 = .ok (.aload_n 0, 1) ∧ decode cX11_compared 37 = .ok (.getfield 10, 3) ∧ decode cX11_compared 40 = .ok (.getfield 181, 3) ∧ decode cX11_compared 43 = .ok (.invokevirtual 230, 3) ∧ decode cX11_compared 46 = .ok (.ireturn, 1) ∧ decode cX11_compared 47 = .ok (.aload_n 0, 1) ∧ decode cX11_compared 48 = .ok (.getfield 10, 3) ∧ decode cX11_compared 51 = .ok (.getfield 181, 3) ∧ decode cX11_compared 54 = .ok (.invokevirtual 233, 3) ∧ decode cX11_compared 57 = .ok (.ireturn, 1) ∧ decode cX11_compared 58 = .ok (.aload_n 0, 1) ∧ decode cX11_compared 59 = .ok (.getfield 10, 3) ∧ decode cX11_compared 62 = .ok (.getfield 181, 3) ∧ decode cX11_compared 65 = .ok (.invokevirtual 236, 3) := by decide +kernel
theorem dX11_compared_0 : decode cX11_compared 0 = .ok (.iload_n 1, 1) := dX11_compared_0_k.1
theorem dX11_compared_1 : decode cX11_compared 1 = .ok (.tableswitch 110 0 4 #[35, 46, 57, 68, 85], 35) := dX11_compared_0_k.2.1
theorem dX11_compared_36 : decode cX11_compared 36 = .ok (.aload_n 0, 1) := dX11_compared_0_k.2.2.1
theorem dX11_compared_37 : decode cX11_compared 37 = .ok (.getfield 10, 3) := dX11_compared_0_k.2.2.2.1
theorem dX11_compared_40 : decode cX11_compared 40 = .ok (.getfield 181, 3) := dX11_compared_0_k.2.2.2.2.1
theorem dX11_compared_43 : decode cX11_compared 43 = .ok (.invokevirtual 230, 3) := dX11_compared_0_k.2.2.2.2.2.1
theorem dX11_compared_46 : decode cX11_compared 46 = .ok (.ireturn, 1) := dX11_compared_0_k.2.2.2.2.2.2.1
theorem dX11_compared_47 : decode cX11_compared 47 = .ok (.aload_n 0, 1) := dX11_compared_0_k.2.2.2.2.2.2.2.1
theorem dX11_compared_48 : decode cX11_compared 48 = .ok (.getfield 10, 3) := dX11_compared_0_k.2.2.2.2.2.2.2.2.1
theorem dX11_compared_51 : decode cX11_compared 51 = .ok (.getfield 181, 3) := dX11_compared_0_k.2.2.2.2.2.2.2.2.2.1
theorem dX11_compared_54 : decode cX11_compared 54 = .ok (.invokevirtual 233, 3) := dX11_compared_0_k.2.2.2.2.2.2.2.2.2.2.1
theorem dX11_compared_57 : decode cX11_compared 57 = .ok (.ireturn, 1) := dX11_compared_0_k.2.2.2.2.2.2.2.2.2.2.2.1
theorem dX11_compared_58 : decode cX11_compared 58 = .ok (.aload_n 0, 1) := dX11_compared_0_k.2.2.2.2.2.2.2.2.2.2.2.2.1
theorem dX11_compared_59 : decode cX11_compared 59 = .ok (.getfield 10, 3) := dX11_compared_0_k.2.2.2.2.2.2.2.2.2.2.2.2.2.1
theorem dX11_compared_62 : decode cX11_compared 62 = .ok (.getfield 181, 3) := dX11_compared_0_k.2.2.2.2.2.2.2.2.2.2.2.2.2.2.1
theorem dX11_compared_65 : decode cX11_compared 65 = .ok (.invokevirtual 236, 3) := dX11_compared_0_k.2.2.2.2.2.2.2.2.2.2.2.2.2.2.2
theorem dX11_compared_68_k : decode cX11_compared 68 = .ok (.ireturn, 1) ∧ decode cX11_compared 69 = .ok (.aload_n 0, 1) ∧ decode cX11_compared 70 = .ok (.getfield 10, 3) ∧ decode cX11_compared 73 = .ok (.getfield 181, 3) ∧ decode cX11_compared 76 = .ok (.aload_n 0, 1) ∧ decode cX11_compared 77 = .ok (.bipush 15, 2) ∧ decode cX11_compared 79 = .ok (.invokevirtual 132, 3) ∧ decode cX11_compared 82 = .ok (.invokevirtual 239, 3) ∧ decode cX11_compared 85 = .ok (.ireturn, 1) ∧ decode cX11_compared 86 = .ok (.aload_n 0, 1) ∧ decode cX11_compared 87 = .ok (.getfield 10, 3) ∧ decode cX11_compared 90 = .ok (.getfield 181, 3) ∧ decode cX11_compared 93 = .ok (.aload_n 0, 1) ∧ decode cX11_compared 94 = .ok (.aload_n 0, 1) ∧ decode cX11_compared 95 = .ok (.getfield 10, 3) ∧ decode cX11_compared 98 = .ok (.getfield 181, 3) := by decide +kernel
theorem dX11_compared_68 : decode cX11_compared 68 = .ok (.ireturn, 1) := dX11_compared_68_k.1
theorem dX11_compared_69 : decode cX11_compared 69 = .ok (.aload_n 0, 1) := dX11_compared_68_k.2.1
theorem dX11_compared_70 : decode cX11_compared 70 = .ok (.getfield 10, 3) := dX11_compared_68_k.2.2.1
theorem dX11_compared_73 : decode cX11_compared 73 = .ok (.getfield 181, 3) := dX11_compared_68_k.2.2.2.1
theorem dX11_compared_76 : decode cX11_compared 76 = .ok (.aload_n 0, 1) := dX11_compared_68_k.2.2.2.2.1
theorem dX11_compared_77 : decode cX11_compared 77 = .ok (.bipush 15, 2) := dX11_compared_68_k.2.2.2.2.2.1
theorem dX11_compared_79 : decode cX11_compared 79 = .ok (.invokevirtual 132, 3) := dX11_compared_68_k.2.2.2.2.2.2.1
theorem dX11_compared_82 : decode cX11_compared 82 = .ok (.invokevirtual 239, 3) := dX11_compared_68_k.2.2.2.2.2.2.2.1
theorem dX11_compared_85 : decode cX11_compared 85 = .ok (.ireturn, 1) := dX11_compared_68_k.2.2.2.2.2.2.2.2.1
theorem dX11_compared_86 : decode cX11_compared 86 = .ok (.aload_n 0, 1) := dX11_compared_68_k.2.2.2.2.2.2.2.2.2.1
theorem dX11_compared_87 : decode cX11_compared 87 = .ok (.getfield 10, 3) := dX11_compared_68_k.2.2.2.2.2.2.2.2.2.2.1
theorem dX11_compared_90 : decode cX11_compared 90 = .ok (.getfield 181, 3) := dX11_compared_68_k.2.2.2.2.2.2.2.2.2.2.2.1
theorem dX11_compared_93 : decode cX11_compared 93 = .ok (.aload_n 0, 1) := dX11_compared_68_k.2.2.2.2.2.2.2.2.2.2.2.2.1
theorem dX11_compared_94 : decode cX11_compared 94 = .ok (.aload_n 0, 1) := dX11_compared_68_k.2.2.2.2.2.2.2.2.2.2.2.2.2.1
theorem dX11_compared_95 : decode cX11_compared 95 = .ok (.getfield 10, 3) := dX11_compared_68_k.2.2.2.2.2.2.2.2.2.2.2.2.2.2.1
theorem dX11_compared_98 : decode cX11_compared 98 = .ok (.getfield 181, 3) := dX11_compared_68_k.2.2.2.2.2.2.2.2.2.2.2.2.2.2.2
theorem dX11_compared_101_k : decode cX11_compared 101 = .ok (.invokevirtual 230, 3) ∧ decode cX11_compared 104 = .ok (.invokevirtual 132, 3) ∧ decode cX11_compared 107 = .ok (.invokevirtual 242, 3) ∧ decode cX11_compared 110 = .ok (.ireturn, 1) ∧ decode cX11_compared 111 = .ok (.iconst (-1), 1) ∧ decode cX11_compared 112 = .ok (.ireturn, 1) := by decide +kernel
theorem dX11_compared_101 : decode cX11_compared 101 = .ok (.invokevirtual 230, 3) := dX11_compared_101_k.1
theorem dX11_compared_104 : decode cX11_compared 104 = .ok (.invokevirtual 132, 3) := dX11_compared_101_k.2.1
theorem dX11_compared_107 : decode cX11_compared 107 = .ok (.invokevirtual 242, 3) := dX11_compared_101_k.2.2.1
theorem dX11_compared_110 : decode cX11_compared 110 = .ok (.ireturn, 1) := dX11_compared_101_k.2.2.2.1
theorem dX11_compared_111 : decode cX11_compared 111 = .ok (.iconst (-1), 1) := dX11_compared_101_k.2.2.2.2.1
theorem dX11_compared_112 : decode cX11_compared 112 = .ok (.ireturn, 1) := dX11_compared_101_k.2.2.2.2.2
theorem dX11_longest_0_k : decode cX11_longest 0 = .ok (.aload_n 0, 1) ∧ decode cX11_longest 1 = .ok (.iload_n 1, 1) ∧ decode cX11_longest 2 = .ok (.iconst 1, 1) ∧ decode cX11_longest 3 = .ok (.invokevirtual 194, 3) ∧ decode cX11_longest 6 = .ok (.ifCond .ne 5, 3) ∧ decode cX11_longest 9 = .ok (.iconst (-1), 1) ∧ decode cX11_longest 10 = .ok (.ireturn, 1) ∧ decode cX11_longest 11 = .ok (.aload_n 0, 1) ∧ decode cX11_longest 12 = .ok (.getfield 33, 3) ∧ decode cX11_longest 15 = .ok (.invokevirtual 245, 3) ∧ decode cX11_longest 18 = .ok (.iload_n 2, 1) ∧ decode cX11_longest 19 = .ok (.ifCond .eq 26, 3) ∧ decode cX11_longest 22 = .ok (.aload_n 0, 1) ∧ decode cX11_longest 23 = .ok (.getfield 10, 3) ∧ decode cX11_longest 26 = .ok (.getfield 169, 3) ∧ decode cX11_longest 29 = .ok (.getfield 248, 3) := by decide +kernel
theorem dX11_longest_0 : decode cX11_longest 0 = .ok (.aload_n 0, 1) := dX11_longest_0_k.1
theorem dX11_longest_1 : decode cX11_longest 1 = .ok (.iload_n 1, 1) := dX11_longest_0_k.2.1
theorem dX11_longest_2 : decode cX11_longest 2 = .ok (.iconst 1, 1) := dX11_longest_0_k.2.2.1
theorem dX11_longest_3 : decode cX11_longest 3 = .ok (.invokevirtual 194, 3) := dX11_longest_0_k.2.2.2.1
theorem dX11_longest_6 : decode cX11_longest 6 = .ok (.ifCond .ne 5, 3) := dX11_longest_0_k.2.2.2.2.1
theorem dX11_longest_9 : decode cX11_longest 9 = .ok (.iconst (-1), 1) := dX11_longest_0_k.2.2.2.2.2.1
theorem dX11_longest_10 : decode cX11_longest 10 = .ok (.ireturn, 1) := dX11_longest_0_k.2.2.2.2.2.2.1
theorem dX11_longest_11 : decode cX11_longest 11 = .ok (.aload_n 0, 1) := dX11_longest_0_k.2.2.2.2.2.2.2.1
theorem dX11_longest_12 : decode cX11_longest 12 = .ok (.getfield 33, 3) := dX11_longest_0_k.2.2.2.2.2.2.2.2.1
theorem dX11_longest_15 : decode cX11_longest 15 = .ok (.invokevirtual 245, 3) := dX11_longest_0_k.2.2.2.2.2.2.2.2.2.1
theorem dX11_longest_18 : decode cX11_longest 18 = .ok (.iload_n 2, 1) := dX11_longest_0_k.2.2.2.2.2.2.2.2.2.2.1
theorem dX11_longest_19 : decode cX11_longest 19 = .ok (.ifCond .eq 26, 3) := dX11_longest_0_k.2.2.2.2.2.2.2.2.2.2.2.1
theorem dX11_longest_22 : decode cX11_longest 22 = .ok (.aload_n 0, 1) := dX11_longest_0_k.2.2.2.2.2.2.2.2.2.2.2.2.1
theorem dX11_longest_23 : decode cX11_longest 23 = .ok (.getfield 10, 3) := dX11_longest_0_k.2.2.2.2.2.2.2.2.2.2.2.2.2.1
theorem dX11_longest_26 : decode cX11_longest 26 = .ok (.getfield 169, 3) := dX11_longest_0_k.2.2.2.2.2.2.2.2.2.2.2.2.2.2.1
theorem dX11_longest_29 : decode cX11_longest 29 = .ok (.getfield 248, 3) := dX11_longest_0_k.2.2.2.2.2.2.2.2.2.2.2.2.2.2.2
theorem dX11_longest_32_k : decode cX11_longest 32 = .ok (.iload_n 1, 1) ∧ decode cX11_longest 33 = .ok (.isub, 1) ∧ decode cX11_longest 34 = .ok (.aload_n 0, 1) ∧ decode cX11_longest 35 = .ok (.getfield 33, 3) ∧ decode cX11_longest 38 = .ok (.getfield 202, 3) ∧ decode cX11_longest 41 = .ok (.iadd, 1) ∧ decode cX11_longest 42 = .ok (.goto 10, 3) ∧ decode cX11_longest 45 = .ok (.aload_n 0, 1) ∧ decode cX11_longest 46 = .ok (.getfield 33, 3) ∧ decode cX11_longest 49 = .ok (.getfield 205, 3) ∧ decode cX11_longest 52 = .ok (.ireturn, 1) := by decide +kernel
theorem dX11_longest_32 : decode cX11_longest 32 = .ok (.iload_n 1, 1) := dX11_longest_32_k.1
theorem dX11_longest_33 : decode cX11_longest 33 = .ok (.isub, 1) := dX11_longest_32_k.2.1
theorem dX11_longest_34 : decode cX11_longest 34 = .ok (.aload_n 0, 1) := dX11_longest_32_k.2.2.1
theorem dX11_longest_35 : decode cX11_longest 35 = .ok (.getfield 33, 3) := dX11_longest_32_k.2.2.2.1
theorem dX11_longest_38 : decode cX11_longest 38 = .ok (.getfield 202, 3) := dX11_longest_32_k.2.2.2.2.1
theorem dX11_longest_41 : decode cX11_longest 41 = .ok (.iadd, 1) := dX11_longest_32_k.2.2.2.2.2.1
theorem dX11_longest_42 : decode cX11_longest 42 = .ok (.goto 10, 3) := dX11_longest_32_k.2.2.2.2.2.2.1
theorem dX11_longest_45 : decode cX11_longest 45 = .ok (.aload_n 0, 1) := dX11_longest_32_k.2.2.2.2.2.2.2.1
theorem dX11_longest_46 : decode cX11_longest 46 = .ok (.getfield 33, 3) := dX11_longest_32_k.2.2.2.2.2.2.2.2.1
theorem dX11_longest_49 : decode cX11_longest 49 = .ok (.getfield 205, 3) := dX11_longest_32_k.2.2.2.2.2.2.2.2.2.1
theorem dX11_longest_52 : decode cX11_longest 52 = .ok (.ireturn, 1) := dX11_longest_32_k.2.2.2.2.2.2.2.2.2.2
theorem dX11_ahead_0_k : decode cX11_ahead 0 = .ok (.iload_n 1, 1) ∧ decode cX11_ahead 1 = .ok (.iconst 1, 1) ∧ decode cX11_ahead 2 = .ok (.if_icmp .lt 20, 3) ∧ decode cX11_ahead 5 = .ok (.iload_n 1, 1) ∧ decode cX11_ahead 6 = .ok (.sipush 400, 3) ∧ decode cX11_ahead 9 = .ok (.if_icmp .gt 13, 3) ∧ decode cX11_ahead 12 = .ok (.iload_n 2, 1) ∧ decode cX11_ahead 13 = .ok (.ifCond .lt 9, 3) ∧ decode cX11_ahead 16 = .ok (.iload_n 2, 1) ∧ decode cX11_ahead 17 = .ok (.bipush 28, 2) ∧ decode cX11_ahead 19 = .ok (.if_icmp .le 5, 3) ∧ decode cX11_ahead 22 = .ok (.iconst (-1), 1) ∧ decode cX11_ahead 23 = .ok (.ireturn, 1) ∧ decode cX11_ahead 24 = .ok (.aload_n 0, 1) ∧ decode cX11_ahead 25 = .ok (.getfield 16, 3) ∧ decode cX11_ahead 28 = .ok (.aload_n 0, 1) := by decide +kernel
theorem dX11_ahead_0 : decode cX11_ahead 0 = .ok (.iload_n 1, 1) := dX11_ahead_0_k.1
theorem dX11_ahead_1 : decode cX11_ahead 1 = .ok (.iconst 1, 1) := dX11_ahead_0_k.2.1
theorem dX11_ahead_2 : decode cX11_ahead 2 = .ok (.if_icmp .lt 20, 3) := dX11_ahead_0_k.2.2.1
theorem dX11_ahead_5 : decode cX11_ahead 5 = .ok (.iload_n 1, 1) := dX11_ahead_0_k.2.2.2.1
theorem dX11_ahead_6 : decode cX11_ahead 6 = .ok (.sipush 400, 3) := dX11_ahead_0_k.2.2.2.2.1
theorem dX11_ahead_9 : decode cX11_ahead 9 = .ok (.if_icmp .gt 13, 3) := dX11_ahead_0_k.2.2.2.2.2.1
theorem dX11_ahead_12 : decode cX11_ahead 12 = .ok (.iload_n 2, 1) := dX11_ahead_0_k.2.2.2.2.2.2.1
theorem dX11_ahead_13 : decode cX11_ahead 13 = .ok (.ifCond .lt 9, 3) := dX11_ahead_0_k.2.2.2.2.2.2.2.1
theorem dX11_ahead_16 : decode cX11_ahead 16 = .ok (.iload_n 2, 1) := dX11_ahead_0_k.2.2.2.2.2.2.2.2.1
theorem dX11_ahead_17 : decode cX11_ahead 17 = .ok (.bipush 28, 2) := dX11_ahead_0_k.2.2.2.2.2.2.2.2.2.1
theorem dX11_ahead_19 : decode cX11_ahead 19 = .ok (.if_icmp .le 5, 3) := dX11_ahead_0_k.2.2.2.2.2.2.2.2.2.2.1
theorem dX11_ahead_22 : decode cX11_ahead 22 = .ok (.iconst (-1), 1) := dX11_ahead_0_k.2.2.2.2.2.2.2.2.2.2.2.1
theorem dX11_ahead_23 : decode cX11_ahead 23 = .ok (.ireturn, 1) := dX11_ahead_0_k.2.2.2.2.2.2.2.2.2.2.2.2.1
theorem dX11_ahead_24 : decode cX11_ahead 24 = .ok (.aload_n 0, 1) := dX11_ahead_0_k.2.2.2.2.2.2.2.2.2.2.2.2.2.1
theorem dX11_ahead_25 : decode cX11_ahead 25 = .ok (.getfield 16, 3) := dX11_ahead_0_k.2.2.2.2.2.2.2.2.2.2.2.2.2.2.1
theorem dX11_ahead_28 : decode cX11_ahead 28 = .ok (.aload_n 0, 1) := dX11_ahead_0_k.2.2.2.2.2.2.2.2.2.2.2.2.2.2.2
theorem dX11_ahead_29_k : decode cX11_ahead 29 = .ok (.getfield 10, 3) ∧ decode cX11_ahead 32 = .ok (.invokevirtual 251, 3) ∧ decode cX11_ahead 35 = .ok (.aload_n 0, 1) ∧ decode cX11_ahead 36 = .ok (.getfield 16, 3) ∧ decode cX11_ahead 39 = .ok (.iload_n 1, 1) ∧ decode cX11_ahead 40 = .ok (.invokevirtual 112, 3) ∧ decode cX11_ahead 43 = .ok (.pop, 1) ∧ decode cX11_ahead 44 = .ok (.aload_n 0, 1) ∧ decode cX11_ahead 45 = .ok (.getfield 16, 3) ∧ decode cX11_ahead 48 = .ok (.iload_n 2, 1) ∧ decode cX11_ahead 49 = .ok (.invokevirtual 129, 3) ∧ decode cX11_ahead 52 = .ok (.ireturn, 1) := by decide +kernel
theorem dX11_ahead_29 : decode cX11_ahead 29 = .ok (.getfield 10, 3) := dX11_ahead_29_k.1
theorem dX11_ahead_32 : decode cX11_ahead 32 = .ok (.invokevirtual 251, 3) := dX11_ahead_29_k.2.1
theorem dX11_ahead_35 : decode cX11_ahead 35 = .ok (.aload_n 0, 1) := dX11_ahead_29_k.2.2.1
theorem dX11_ahead_36 : decode cX11_ahead 36 = .ok (.getfield 16, 3) := dX11_ahead_29_k.2.2.2.1
theorem dX11_ahead_39 : decode cX11_ahead 39 = .ok (.iload_n 1, 1) := dX11_ahead_29_k.2.2.2.2.1
theorem dX11_ahead_40 : decode cX11_ahead 40 = .ok (.invokevirtual 112, 3) := dX11_ahead_29_k.2.2.2.2.2.1
theorem dX11_ahead_43 : decode cX11_ahead 43 = .ok (.pop, 1) := dX11_ahead_29_k.2.2.2.2.2.2.1
theorem dX11_ahead_44 : decode cX11_ahead 44 = .ok (.aload_n 0, 1) := dX11_ahead_29_k.2.2.2.2.2.2.2.1
theorem dX11_ahead_45 : decode cX11_ahead 45 = .ok (.getfield 16, 3) := dX11_ahead_29_k.2.2.2.2.2.2.2.2.1
theorem dX11_ahead_48 : decode cX11_ahead 48 = .ok (.iload_n 2, 1) := dX11_ahead_29_k.2.2.2.2.2.2.2.2.2.1
theorem dX11_ahead_49 : decode cX11_ahead 49 = .ok (.invokevirtual 129, 3) := dX11_ahead_29_k.2.2.2.2.2.2.2.2.2.2.1
theorem dX11_ahead_52 : decode cX11_ahead 52 = .ok (.ireturn, 1) := dX11_ahead_29_k.2.2.2.2.2.2.2.2.2.2.2
theorem dX11_quiet_0_k : decode cX11_quiet 0 = .ok (.aload_n 0, 1) ∧ decode cX11_quiet 1 = .ok (.getfield 10, 3) ∧ decode cX11_quiet 4 = .ok (.getfield 106, 3) ∧ decode cX11_quiet 7 = .ok (.iconst 3, 1) ∧ decode cX11_quiet 8 = .ok (.if_icmp .ne 5, 3) ∧ decode cX11_quiet 11 = .ok (.iconst 0, 1) ∧ decode cX11_quiet 12 = .ok (.ireturn, 1) ∧ decode cX11_quiet 13 = .ok (.aload_n 0, 1) ∧ decode cX11_quiet 14 = .ok (.getfield 10, 3) ∧ decode cX11_quiet 17 = .ok (.getfield 106, 3) ∧ decode cX11_quiet 20 = .ok (.ifCond .ne 5, 3) ∧ decode cX11_quiet 23 = .ok (.iconst (-1), 1) ∧ decode cX11_quiet 24 = .ok (.ireturn, 1) ∧ decode cX11_quiet 25 = .ok (.aload_n 0, 1) ∧ decode cX11_quiet 26 = .ok (.getfield 16, 3) ∧ decode cX11_quiet 29 = .ok (.aload_n 0, 1) := by decide +kernel
theorem dX11_quiet_0 : decode cX11_quiet 0 = .ok (.aload_n 0, 1) := dX11_quiet_0_k.1
theorem dX11_quiet_1 : decode cX11_quiet 1 = .ok (.getfield 10, 3) := dX11_quiet_0_k.2.1
theorem dX11_quiet_4 : decode cX11_quiet 4 = .ok (.getfield 106, 3) := dX11_quiet_0_k.2.2.1
theorem dX11_quiet_7 : decode cX11_quiet 7 = .ok (.iconst 3, 1) := dX11_quiet_0_k.2.2.2.1
theorem dX11_quiet_8 : decode cX11_quiet 8 = .ok (.if_icmp .ne 5, 3) := dX11_quiet_0_k.2.2.2.2.1
theorem dX11_quiet_11 : decode cX11_quiet 11 = .ok (.iconst 0, 1) := dX11_quiet_0_k.2.2.2.2.2.1
theorem dX11_quiet_12 : decode cX11_quiet 12 = .ok (.ireturn, 1) := dX11_quiet_0_k.2.2.2.2.2.2.1
theorem dX11_quiet_13 : decode cX11_quiet 13 = .ok (.aload_n 0, 1) := dX11_quiet_0_k.2.2.2.2.2.2.2.1
theorem dX11_quiet_14 : decode cX11_quiet 14 = .ok (.getfield 10, 3) := dX11_quiet_0_k.2.2.2.2.2.2.2.2.1
theorem dX11_quiet_17 : decode cX11_quiet 17 = .ok (.getfield 106, 3) := dX11_quiet_0_k.2.2.2.2.2.2.2.2.2.1
theorem dX11_quiet_20 : decode cX11_quiet 20 = .ok (.ifCond .ne 5, 3) := dX11_quiet_0_k.2.2.2.2.2.2.2.2.2.2.1
theorem dX11_quiet_23 : decode cX11_quiet 23 = .ok (.iconst (-1), 1) := dX11_quiet_0_k.2.2.2.2.2.2.2.2.2.2.2.1
theorem dX11_quiet_24 : decode cX11_quiet 24 = .ok (.ireturn, 1) := dX11_quiet_0_k.2.2.2.2.2.2.2.2.2.2.2.2.1
theorem dX11_quiet_25 : decode cX11_quiet 25 = .ok (.aload_n 0, 1) := dX11_quiet_0_k.2.2.2.2.2.2.2.2.2.2.2.2.2.1
theorem dX11_quiet_26 : decode cX11_quiet 26 = .ok (.getfield 16, 3) := dX11_quiet_0_k.2.2.2.2.2.2.2.2.2.2.2.2.2.2.1
theorem dX11_quiet_29 : decode cX11_quiet 29 = .ok (.aload_n 0, 1) := dX11_quiet_0_k.2.2.2.2.2.2.2.2.2.2.2.2.2.2.2
theorem dX11_quiet_30_k : decode cX11_quiet 30 = .ok (.getfield 10, 3) ∧ decode cX11_quiet 33 = .ok (.invokevirtual 251, 3) ∧ decode cX11_quiet 36 = .ok (.iconst 1, 1) ∧ decode cX11_quiet 37 = .ok (.istore_n 1, 1) ∧ decode cX11_quiet 38 = .ok (.iload_n 1, 1) ∧ decode cX11_quiet 39 = .ok (.sipush 400, 3) ∧ decode cX11_quiet 42 = .ok (.if_icmp .gt 31, 3) ∧ decode cX11_quiet 45 = .ok (.aload_n 0, 1) ∧ decode cX11_quiet 46 = .ok (.getfield 16, 3) ∧ decode cX11_quiet 49 = .ok (.iconst 1, 1) ∧ decode cX11_quiet 50 = .ok (.invokevirtual 112, 3) ∧ decode cX11_quiet 53 = .ok (.pop, 1) ∧ decode cX11_quiet 54 = .ok (.aload_n 0, 1) ∧ decode cX11_quiet 55 = .ok (.getfield 16, 3) ∧ decode cX11_quiet 58 = .ok (.getfield 106, 3) ∧ decode cX11_quiet 61 = .ok (.iconst 3, 1) := by decide +kernel
theorem dX11_quiet_30 : decode cX11_quiet 30 = .ok (.getfield 10, 3) := dX11_quiet_30_k.1
theorem dX11_quiet_33 : decode cX11_quiet 33 = .ok (.invokevirtual 251, 3) := dX11_quiet_30_k.2.1
theorem dX11_quiet_36 : decode cX11_quiet 36 = .ok (.iconst 1, 1) := dX11_quiet_30_k.2.2.1
theorem dX11_quiet_37 : decode cX11_quiet 37 = .ok (.istore_n 1, 1) := dX11_quiet_30_k.2.2.2.1
theorem dX11_quiet_38 : decode cX11_quiet 38 = .ok (.iload_n 1, 1) := dX11_quiet_30_k.2.2.2.2.1
theorem dX11_quiet_39 : decode cX11_quiet 39 = .ok (.sipush 400, 3) := dX11_quiet_30_k.2.2.2.2.2.1
theorem dX11_quiet_42 : decode cX11_quiet 42 = .ok (.if_icmp .gt 31, 3) := dX11_quiet_30_k.2.2.2.2.2.2.1
theorem dX11_quiet_45 : decode cX11_quiet 45 = .ok (.aload_n 0, 1) := dX11_quiet_30_k.2.2.2.2.2.2.2.1
theorem dX11_quiet_46 : decode cX11_quiet 46 = .ok (.getfield 16, 3) := dX11_quiet_30_k.2.2.2.2.2.2.2.2.1
theorem dX11_quiet_49 : decode cX11_quiet 49 = .ok (.iconst 1, 1) := dX11_quiet_30_k.2.2.2.2.2.2.2.2.2.1
theorem dX11_quiet_50 : decode cX11_quiet 50 = .ok (.invokevirtual 112, 3) := dX11_quiet_30_k.2.2.2.2.2.2.2.2.2.2.1
theorem dX11_quiet_53 : decode cX11_quiet 53 = .ok (.pop, 1) := dX11_quiet_30_k.2.2.2.2.2.2.2.2.2.2.2.1
theorem dX11_quiet_54 : decode cX11_quiet 54 = .ok (.aload_n 0, 1) := dX11_quiet_30_k.2.2.2.2.2.2.2.2.2.2.2.2.1
theorem dX11_quiet_55 : decode cX11_quiet 55 = .ok (.getfield 16, 3) := dX11_quiet_30_k.2.2.2.2.2.2.2.2.2.2.2.2.2.1
theorem dX11_quiet_58 : decode cX11_quiet 58 = .ok (.getfield 106, 3) := dX11_quiet_30_k.2.2.2.2.2.2.2.2.2.2.2.2.2.2.1
theorem dX11_quiet_61 : decode cX11_quiet 61 = .ok (.iconst 3, 1) := dX11_quiet_30_k.2.2.2.2.2.2.2.2.2.2.2.2.2.2.2
theorem dX11_quiet_62_k : decode cX11_quiet 62 = .ok (.if_icmp .ne 5, 3) ∧ decode cX11_quiet 65 = .ok (.iload_n 1, 1) ∧ decode cX11_quiet 66 = .ok (.ireturn, 1) ∧ decode cX11_quiet 67 = .ok (.iinc 1 1, 3) ∧ decode cX11_quiet 70 = .ok (.goto (-32), 3) ∧ decode cX11_quiet 73 = .ok (.iconst (-1), 1) ∧ decode cX11_quiet 74 = .ok (.ireturn, 1) := by decide +kernel
theorem dX11_quiet_62 : decode cX11_quiet 62 = .ok (.if_icmp .ne 5, 3) := dX11_quiet_62_k.1
theorem dX11_quiet_65 : decode cX11_quiet 65 = .ok (.iload_n 1, 1) := dX11_quiet_62_k.2.1
theorem dX11_quiet_66 : decode cX11_quiet 66 = .ok (.ireturn, 1) := dX11_quiet_62_k.2.2.1
theorem dX11_quiet_67 : decode cX11_quiet 67 = .ok (.iinc 1 1, 3) := dX11_quiet_62_k.2.2.2.1
theorem dX11_quiet_70 : decode cX11_quiet 70 = .ok (.goto (-32), 3) := dX11_quiet_62_k.2.2.2.2.1
theorem dX11_quiet_73 : decode cX11_quiet 73 = .ok (.iconst (-1), 1) := dX11_quiet_62_k.2.2.2.2.2.1
theorem dX11_quiet_74 : decode cX11_quiet 74 = .ok (.ireturn, 1) := dX11_quiet_62_k.2.2.2.2.2.2
theorem dX11_replayed_0_k : decode cX11_replayed 0 = .ok (.iload_n 1, 1) ∧ decode cX11_replayed 1 = .ok (.getstatic 254, 3) ∧ decode cX11_replayed 4 = .ok (.iconst 0, 1) ∧ decode cX11_replayed 5 = .ok (.iaload, 1) ∧ decode cX11_replayed 6 = .ok (.if_icmp .lt 12, 3) ∧ decode cX11_replayed 9 = .ok (.iload_n 1, 1) ∧ decode cX11_replayed 10 = .ok (.getstatic 258, 3) ∧ decode cX11_replayed 13 = .ok (.iconst 0, 1) ∧ decode cX11_replayed 14 = .ok (.iaload, 1) ∧ decode cX11_replayed 15 = .ok (.if_icmp .le 5, 3) ∧ decode cX11_replayed 18 = .ok (.iconst (-1), 1) ∧ decode cX11_replayed 19 = .ok (.ireturn, 1) ∧ decode cX11_replayed 20 = .ok (.aload_n 0, 1) ∧ decode cX11_replayed 21 = .ok (.getfield 10, 3) ∧ decode cX11_replayed 24 = .ok (.getfield 79, 3) ∧ decode cX11_replayed 27 = .ok (.iconst 2, 1) := by decide +kernel
theorem dX11_replayed_0 : decode cX11_replayed 0 = .ok (.iload_n 1, 1) := dX11_replayed_0_k.1
theorem dX11_replayed_1 : decode cX11_replayed 1 = .ok (.getstatic 254, 3) := dX11_replayed_0_k.2.1
theorem dX11_replayed_4 : decode cX11_replayed 4 = .ok (.iconst 0, 1) := dX11_replayed_0_k.2.2.1
theorem dX11_replayed_5 : decode cX11_replayed 5 = .ok (.iaload, 1) := dX11_replayed_0_k.2.2.2.1
theorem dX11_replayed_6 : decode cX11_replayed 6 = .ok (.if_icmp .lt 12, 3) := dX11_replayed_0_k.2.2.2.2.1
theorem dX11_replayed_9 : decode cX11_replayed 9 = .ok (.iload_n 1, 1) := dX11_replayed_0_k.2.2.2.2.2.1
theorem dX11_replayed_10 : decode cX11_replayed 10 = .ok (.getstatic 258, 3) := dX11_replayed_0_k.2.2.2.2.2.2.1
theorem dX11_replayed_13 : decode cX11_replayed 13 = .ok (.iconst 0, 1) := dX11_replayed_0_k.2.2.2.2.2.2.2.1
theorem dX11_replayed_14 : decode cX11_replayed 14 = .ok (.iaload, 1) := dX11_replayed_0_k.2.2.2.2.2.2.2.2.1
theorem dX11_replayed_15 : decode cX11_replayed 15 = .ok (.if_icmp .le 5, 3) := dX11_replayed_0_k.2.2.2.2.2.2.2.2.2.1
theorem dX11_replayed_18 : decode cX11_replayed 18 = .ok (.iconst (-1), 1) := dX11_replayed_0_k.2.2.2.2.2.2.2.2.2.2.1
theorem dX11_replayed_19 : decode cX11_replayed 19 = .ok (.ireturn, 1) := dX11_replayed_0_k.2.2.2.2.2.2.2.2.2.2.2.1
theorem dX11_replayed_20 : decode cX11_replayed 20 = .ok (.aload_n 0, 1) := dX11_replayed_0_k.2.2.2.2.2.2.2.2.2.2.2.2.1
theorem dX11_replayed_21 : decode cX11_replayed 21 = .ok (.getfield 10, 3) := dX11_replayed_0_k.2.2.2.2.2.2.2.2.2.2.2.2.2.1
theorem dX11_replayed_24 : decode cX11_replayed 24 = .ok (.getfield 79, 3) := dX11_replayed_0_k.2.2.2.2.2.2.2.2.2.2.2.2.2.2.1
theorem dX11_replayed_27 : decode cX11_replayed 27 = .ok (.iconst 2, 1) := dX11_replayed_0_k.2.2.2.2.2.2.2.2.2.2.2.2.2.2.2
theorem dX11_replayed_28_k : decode cX11_replayed 28 = .ok (.invokevirtual 157, 3) ∧ decode cX11_replayed 31 = .ok (.istore_n 2, 1) ∧ decode cX11_replayed 32 = .ok (.aload_n 0, 1) ∧ decode cX11_replayed 33 = .ok (.getfield 40, 3) ∧ decode cX11_replayed 36 = .ok (.iload_n 1, 1) ∧ decode cX11_replayed 37 = .ok (.aload_n 0, 1) ∧ decode cX11_replayed 38 = .ok (.getfield 10, 3) ∧ decode cX11_replayed 41 = .ok (.getfield 79, 3) ∧ decode cX11_replayed 44 = .ok (.iconst 1, 1) ∧ decode cX11_replayed 45 = .ok (.invokevirtual 157, 3) ∧ decode cX11_replayed 48 = .ok (.iload_n 2, 1) ∧ decode cX11_replayed 49 = .ok (.invokevirtual 261, 3) ∧ decode cX11_replayed 52 = .ok (.aload_n 0, 1) ∧ decode cX11_replayed 53 = .ok (.getfield 47, 3) ∧ decode cX11_replayed 56 = .ok (.invokevirtual 265, 3) ∧ decode cX11_replayed 59 = .ok (.iconst 0, 1) := by decide +kernel
theorem dX11_replayed_28 : decode cX11_replayed 28 = .ok (.invokevirtual 157, 3) := dX11_replayed_28_k.1
theorem dX11_replayed_31 : decode cX11_replayed 31 = .ok (.istore_n 2, 1) := dX11_replayed_28_k.2.1
theorem dX11_replayed_32 : decode cX11_replayed 32 = .ok (.aload_n 0, 1) := dX11_replayed_28_k.2.2.1
theorem dX11_replayed_33 : decode cX11_replayed 33 = .ok (.getfield 40, 3) := dX11_replayed_28_k.2.2.2.1
theorem dX11_replayed_36 : decode cX11_replayed 36 = .ok (.iload_n 1, 1) := dX11_replayed_28_k.2.2.2.2.1
theorem dX11_replayed_37 : decode cX11_replayed 37 = .ok (.aload_n 0, 1) := dX11_replayed_28_k.2.2.2.2.2.1
theorem dX11_replayed_38 : decode cX11_replayed 38 = .ok (.getfield 10, 3) := dX11_replayed_28_k.2.2.2.2.2.2.1
theorem dX11_replayed_41 : decode cX11_replayed 41 = .ok (.getfield 79, 3) := dX11_replayed_28_k.2.2.2.2.2.2.2.1
theorem dX11_replayed_44 : decode cX11_replayed 44 = .ok (.iconst 1, 1) := dX11_replayed_28_k.2.2.2.2.2.2.2.2.1
theorem dX11_replayed_45 : decode cX11_replayed 45 = .ok (.invokevirtual 157, 3) := dX11_replayed_28_k.2.2.2.2.2.2.2.2.2.1
theorem dX11_replayed_48 : decode cX11_replayed 48 = .ok (.iload_n 2, 1) := dX11_replayed_28_k.2.2.2.2.2.2.2.2.2.2.1
theorem dX11_replayed_49 : decode cX11_replayed 49 = .ok (.invokevirtual 261, 3) := dX11_replayed_28_k.2.2.2.2.2.2.2.2.2.2.2.1
theorem dX11_replayed_52 : decode cX11_replayed 52 = .ok (.aload_n 0, 1) := dX11_replayed_28_k.2.2.2.2.2.2.2.2.2.2.2.2.1
theorem dX11_replayed_53 : decode cX11_replayed 53 = .ok (.getfield 47, 3) := dX11_replayed_28_k.2.2.2.2.2.2.2.2.2.2.2.2.2.1
theorem dX11_replayed_56 : decode cX11_replayed 56 = .ok (.invokevirtual 265, 3) := dX11_replayed_28_k.2.2.2.2.2.2.2.2.2.2.2.2.2.2.1
theorem dX11_replayed_59 : decode cX11_replayed 59 = .ok (.iconst 0, 1) := dX11_replayed_28_k.2.2.2.2.2.2.2.2.2.2.2.2.2.2.2
theorem dX11_replayed_60_k : decode cX11_replayed 60 = .ok (.istore_n 3, 1) ∧ decode cX11_replayed 61 = .ok (.iconst 0, 1) ∧ decode cX11_replayed 62 = .ok (.istore 4, 2) ∧ decode cX11_replayed 64 = .ok (.iload 4, 2) ∧ decode cX11_replayed 66 = .ok (.aload_n 0, 1) ∧ decode cX11_replayed 67 = .ok (.getfield 10, 3) ∧ decode cX11_replayed 70 = .ok (.getfield 169, 3) ∧ decode cX11_replayed 73 = .ok (.getfield 248, 3) ∧ decode cX11_replayed 76 = .ok (.if_icmp .ge 53, 3) ∧ decode cX11_replayed 79 = .ok (.aload_n 0, 1) ∧ decode cX11_replayed 80 = .ok (.getfield 47, 3) ∧ decode cX11_replayed 83 = .ok (.aload_n 0, 1) ∧ decode cX11_replayed 84 = .ok (.getfield 10, 3) ∧ decode cX11_replayed 87 = .ok (.getfield 169, 3) ∧ decode cX11_replayed 90 = .ok (.iload 4, 2) ∧ decode cX11_replayed 92 = .ok (.invokevirtual 173, 3) := by decide +kernel
theorem dX11_replayed_60 : decode cX11_replayed 60 = .ok (.istore_n 3, 1) := dX11_replayed_60_k.1
theorem dX11_replayed_61 : decode cX11_replayed 61 = .ok (.iconst 0, 1) := dX11_replayed_60_k.2.1
theorem dX11_replayed_62 : decode cX11_replayed 62 = .ok (.istore 4, 2) := dX11_replayed_60_k.2.2.1
theorem dX11_replayed_64 : decode cX11_replayed 64 = .ok (.iload 4, 2) := dX11_replayed_60_k.2.2.2.1
theorem dX11_replayed_66 : decode cX11_replayed 66 = .ok (.aload_n 0, 1) := dX11_replayed_60_k.2.2.2.2.1
theorem dX11_replayed_67 : decode cX11_replayed 67 = .ok (.getfield 10, 3) := dX11_replayed_60_k.2.2.2.2.2.1
theorem dX11_replayed_70 : decode cX11_replayed 70 = .ok (.getfield 169, 3) := dX11_replayed_60_k.2.2.2.2.2.2.1
theorem dX11_replayed_73 : decode cX11_replayed 73 = .ok (.getfield 248, 3) := dX11_replayed_60_k.2.2.2.2.2.2.2.1
theorem dX11_replayed_76 : decode cX11_replayed 76 = .ok (.if_icmp .ge 53, 3) := dX11_replayed_60_k.2.2.2.2.2.2.2.2.1
theorem dX11_replayed_79 : decode cX11_replayed 79 = .ok (.aload_n 0, 1) := dX11_replayed_60_k.2.2.2.2.2.2.2.2.2.1
theorem dX11_replayed_80 : decode cX11_replayed 80 = .ok (.getfield 47, 3) := dX11_replayed_60_k.2.2.2.2.2.2.2.2.2.2.1
theorem dX11_replayed_83 : decode cX11_replayed 83 = .ok (.aload_n 0, 1) := dX11_replayed_60_k.2.2.2.2.2.2.2.2.2.2.2.1
theorem dX11_replayed_84 : decode cX11_replayed 84 = .ok (.getfield 10, 3) := dX11_replayed_60_k.2.2.2.2.2.2.2.2.2.2.2.2.1
theorem dX11_replayed_87 : decode cX11_replayed 87 = .ok (.getfield 169, 3) := dX11_replayed_60_k.2.2.2.2.2.2.2.2.2.2.2.2.2.1
theorem dX11_replayed_90 : decode cX11_replayed 90 = .ok (.iload 4, 2) := dX11_replayed_60_k.2.2.2.2.2.2.2.2.2.2.2.2.2.2.1
theorem dX11_replayed_92 : decode cX11_replayed 92 = .ok (.invokevirtual 173, 3) := dX11_replayed_60_k.2.2.2.2.2.2.2.2.2.2.2.2.2.2.2
theorem dX11_replayed_95_k : decode cX11_replayed 95 = .ok (.iload_n 2, 1) ∧ decode cX11_replayed 96 = .ok (.invokevirtual 268, 3) ∧ decode cX11_replayed 99 = .ok (.aload_n 0, 1) ∧ decode cX11_replayed 100 = .ok (.getfield 40, 3) ∧ decode cX11_replayed 103 = .ok (.aload_n 0, 1) ∧ decode cX11_replayed 104 = .ok (.getfield 47, 3) ∧ decode cX11_replayed 107 = .ok (.invokevirtual 270, 3) ∧ decode cX11_replayed 110 = .ok (.ifCond .eq 13, 3) ∧ decode cX11_replayed 113 = .ok (.iinc 3 1, 3) ∧ decode cX11_replayed 116 = .ok (.aload_n 0, 1) ∧ decode cX11_replayed 117 = .ok (.getfield 47, 3) ∧ decode cX11_replayed 120 = .ok (.invokevirtual 265, 3) ∧ decode cX11_replayed 123 = .ok (.iinc 4 1, 3) ∧ decode cX11_replayed 126 = .ok (.goto (-62), 3) ∧ decode cX11_replayed 129 = .ok (.iload_n 3, 1) ∧ decode cX11_replayed 130 = .ok (.ireturn, 1) := by decide +kernel
theorem dX11_replayed_95 : decode cX11_replayed 95 = .ok (.iload_n 2, 1) := dX11_replayed_95_k.1
theorem dX11_replayed_96 : decode cX11_replayed 96 = .ok (.invokevirtual 268, 3) := dX11_replayed_95_k.2.1
theorem dX11_replayed_99 : decode cX11_replayed 99 = .ok (.aload_n 0, 1) := dX11_replayed_95_k.2.2.1
theorem dX11_replayed_100 : decode cX11_replayed 100 = .ok (.getfield 40, 3) := dX11_replayed_95_k.2.2.2.1
theorem dX11_replayed_103 : decode cX11_replayed 103 = .ok (.aload_n 0, 1) := dX11_replayed_95_k.2.2.2.2.1
theorem dX11_replayed_104 : decode cX11_replayed 104 = .ok (.getfield 47, 3) := dX11_replayed_95_k.2.2.2.2.2.1
theorem dX11_replayed_107 : decode cX11_replayed 107 = .ok (.invokevirtual 270, 3) := dX11_replayed_95_k.2.2.2.2.2.2.1
theorem dX11_replayed_110 : decode cX11_replayed 110 = .ok (.ifCond .eq 13, 3) := dX11_replayed_95_k.2.2.2.2.2.2.2.1
theorem dX11_replayed_113 : decode cX11_replayed 113 = .ok (.iinc 3 1, 3) := dX11_replayed_95_k.2.2.2.2.2.2.2.2.1
theorem dX11_replayed_116 : decode cX11_replayed 116 = .ok (.aload_n 0, 1) := dX11_replayed_95_k.2.2.2.2.2.2.2.2.2.1
theorem dX11_replayed_117 : decode cX11_replayed 117 = .ok (.getfield 47, 3) := dX11_replayed_95_k.2.2.2.2.2.2.2.2.2.2.1
theorem dX11_replayed_120 : decode cX11_replayed 120 = .ok (.invokevirtual 265, 3) := dX11_replayed_95_k.2.2.2.2.2.2.2.2.2.2.2.1
theorem dX11_replayed_123 : decode cX11_replayed 123 = .ok (.iinc 4 1, 3) := dX11_replayed_95_k.2.2.2.2.2.2.2.2.2.2.2.2.1
theorem dX11_replayed_126 : decode cX11_replayed 126 = .ok (.goto (-62), 3) := dX11_replayed_95_k.2.2.2.2.2.2.2.2.2.2.2.2.2.1
theorem dX11_replayed_129 : decode cX11_replayed 129 = .ok (.iload_n 3, 1) := dX11_replayed_95_k.2.2.2.2.2.2.2.2.2.2.2.2.2.2.1
theorem dX11_replayed_130 : decode cX11_replayed 130 = .ok (.ireturn, 1) := dX11_replayed_95_k.2.2.2.2.2.2.2.2.2.2.2.2.2.2.2
theorem dX11_fit_0_k : decode cX11_fit 0 = .ok (.aload_n 0, 1) ∧ decode cX11_fit 1 = .ok (.invokevirtual 274, 3) ∧ decode cX11_fit 4 = .ok (.getstatic 254, 3) ∧ decode cX11_fit 7 = .ok (.iconst 0, 1) ∧ decode cX11_fit 8 = .ok (.iaload, 1) ∧ decode cX11_fit 9 = .ok (.istore_n 1, 1) ∧ decode cX11_fit 10 = .ok (.iload_n 1, 1) ∧ decode cX11_fit 11 = .ok (.getstatic 258, 3) ∧ decode cX11_fit 14 = .ok (.iconst 0, 1) ∧ decode cX11_fit 15 = .ok (.iaload, 1) ∧ decode cX11_fit 16 = .ok (.if_icmp .gt 30, 3) ∧ decode cX11_fit 19 = .ok (.aload_n 0, 1) ∧ decode cX11_fit 20 = .ok (.iload_n 1, 1) ∧ decode cX11_fit 21 = .ok (.aload_n 0, 1) ∧ decode cX11_fit 22 = .ok (.getfield 10, 3) ∧ decode cX11_fit 25 = .ok (.getfield 79, 3) := by decide +kernel
theorem dX11_fit_0 : decode cX11_fit 0 = .ok (.aload_n 0, 1) := dX11_fit_0_k.1
theorem dX11_fit_1 : decode cX11_fit 1 = .ok (.invokevirtual 274, 3) := dX11_fit_0_k.2.1
theorem dX11_fit_4 : decode cX11_fit 4 = .ok (.getstatic 254, 3) := dX11_fit_0_k.2.2.1
theorem dX11_fit_7 : decode cX11_fit 7 = .ok (.iconst 0, 1) := dX11_fit_0_k.2.2.2.1
theorem dX11_fit_8 : decode cX11_fit 8 = .ok (.iaload, 1) := dX11_fit_0_k.2.2.2.2.1
theorem dX11_fit_9 : decode cX11_fit 9 = .ok (.istore_n 1, 1) := dX11_fit_0_k.2.2.2.2.2.1
theorem dX11_fit_10 : decode cX11_fit 10 = .ok (.iload_n 1, 1) := dX11_fit_0_k.2.2.2.2.2.2.1
theorem dX11_fit_11 : decode cX11_fit 11 = .ok (.getstatic 258, 3) := dX11_fit_0_k.2.2.2.2.2.2.2.1
theorem dX11_fit_14 : decode cX11_fit 14 = .ok (.iconst 0, 1) := dX11_fit_0_k.2.2.2.2.2.2.2.2.1
theorem dX11_fit_15 : decode cX11_fit 15 = .ok (.iaload, 1) := dX11_fit_0_k.2.2.2.2.2.2.2.2.2.1
theorem dX11_fit_16 : decode cX11_fit 16 = .ok (.if_icmp .gt 30, 3) := dX11_fit_0_k.2.2.2.2.2.2.2.2.2.2.1
theorem dX11_fit_19 : decode cX11_fit 19 = .ok (.aload_n 0, 1) := dX11_fit_0_k.2.2.2.2.2.2.2.2.2.2.2.1
theorem dX11_fit_20 : decode cX11_fit 20 = .ok (.iload_n 1, 1) := dX11_fit_0_k.2.2.2.2.2.2.2.2.2.2.2.2.1
theorem dX11_fit_21 : decode cX11_fit 21 = .ok (.aload_n 0, 1) := dX11_fit_0_k.2.2.2.2.2.2.2.2.2.2.2.2.2.1
theorem dX11_fit_22 : decode cX11_fit 22 = .ok (.getfield 10, 3) := dX11_fit_0_k.2.2.2.2.2.2.2.2.2.2.2.2.2.2.1
theorem dX11_fit_25 : decode cX11_fit 25 = .ok (.getfield 79, 3) := dX11_fit_0_k.2.2.2.2.2.2.2.2.2.2.2.2.2.2.2
theorem dX11_fit_28_k : decode cX11_fit 28 = .ok (.iconst 1, 1) ∧ decode cX11_fit 29 = .ok (.invokevirtual 157, 3) ∧ decode cX11_fit 32 = .ok (.invokevirtual 277, 3) ∧ decode cX11_fit 35 = .ok (.ifCond .eq 5, 3) ∧ decode cX11_fit 38 = .ok (.iload_n 1, 1) ∧ decode cX11_fit 39 = .ok (.ireturn, 1) ∧ decode cX11_fit 40 = .ok (.iinc 1 1, 3) ∧ decode cX11_fit 43 = .ok (.goto (-33), 3) ∧ decode cX11_fit 46 = .ok (.iconst (-1), 1) ∧ decode cX11_fit 47 = .ok (.ireturn, 1) := by decide +kernel
theorem dX11_fit_28 : decode cX11_fit 28 = .ok (.iconst 1, 1) := dX11_fit_28_k.1
theorem dX11_fit_29 : decode cX11_fit 29 = .ok (.invokevirtual 157, 3) := dX11_fit_28_k.2.1
theorem dX11_fit_32 : decode cX11_fit 32 = .ok (.invokevirtual 277, 3) := dX11_fit_28_k.2.2.1
theorem dX11_fit_35 : decode cX11_fit 35 = .ok (.ifCond .eq 5, 3) := dX11_fit_28_k.2.2.2.1
theorem dX11_fit_38 : decode cX11_fit 38 = .ok (.iload_n 1, 1) := dX11_fit_28_k.2.2.2.2.1
theorem dX11_fit_39 : decode cX11_fit 39 = .ok (.ireturn, 1) := dX11_fit_28_k.2.2.2.2.2.1
theorem dX11_fit_40 : decode cX11_fit 40 = .ok (.iinc 1 1, 3) := dX11_fit_28_k.2.2.2.2.2.2.1
theorem dX11_fit_43 : decode cX11_fit 43 = .ok (.goto (-33), 3) := dX11_fit_28_k.2.2.2.2.2.2.2.1
theorem dX11_fit_46 : decode cX11_fit 46 = .ok (.iconst (-1), 1) := dX11_fit_28_k.2.2.2.2.2.2.2.2.1
theorem dX11_fit_47 : decode cX11_fit 47 = .ok (.ireturn, 1) := dX11_fit_28_k.2.2.2.2.2.2.2.2.2
theorem dX11_keen_0_k : decode cX11_keen 0 = .ok (.aload_n 0, 1) ∧ decode cX11_keen 1 = .ok (.invokevirtual 274, 3) ∧ decode cX11_keen 4 = .ok (.getstatic 254, 3) ∧ decode cX11_keen 7 = .ok (.iconst 1, 1) ∧ decode cX11_keen 8 = .ok (.iaload, 1) ∧ decode cX11_keen 9 = .ok (.istore_n 1, 1) ∧ decode cX11_keen 10 = .ok (.iload_n 1, 1) ∧ decode cX11_keen 11 = .ok (.getstatic 258, 3) ∧ decode cX11_keen 14 = .ok (.iconst 1, 1) ∧ decode cX11_keen 15 = .ok (.iaload, 1) ∧ decode cX11_keen 16 = .ok (.if_icmp .gt 30, 3) ∧ decode cX11_keen 19 = .ok (.aload_n 0, 1) ∧ decode cX11_keen 20 = .ok (.aload_n 0, 1) ∧ decode cX11_keen 21 = .ok (.getfield 10, 3) ∧ decode cX11_keen 24 = .ok (.getfield 79, 3) ∧ decode cX11_keen 27 = .ok (.iconst 0, 1) := by decide +kernel
theorem dX11_keen_0 : decode cX11_keen 0 = .ok (.aload_n 0, 1) := dX11_keen_0_k.1
theorem dX11_keen_1 : decode cX11_keen 1 = .ok (.invokevirtual 274, 3) := dX11_keen_0_k.2.1
theorem dX11_keen_4 : decode cX11_keen 4 = .ok (.getstatic 254, 3) := dX11_keen_0_k.2.2.1
theorem dX11_keen_7 : decode cX11_keen 7 = .ok (.iconst 1, 1) := dX11_keen_0_k.2.2.2.1
theorem dX11_keen_8 : decode cX11_keen 8 = .ok (.iaload, 1) := dX11_keen_0_k.2.2.2.2.1
theorem dX11_keen_9 : decode cX11_keen 9 = .ok (.istore_n 1, 1) := dX11_keen_0_k.2.2.2.2.2.1
theorem dX11_keen_10 : decode cX11_keen 10 = .ok (.iload_n 1, 1) := dX11_keen_0_k.2.2.2.2.2.2.1
theorem dX11_keen_11 : decode cX11_keen 11 = .ok (.getstatic 258, 3) := dX11_keen_0_k.2.2.2.2.2.2.2.1
theorem dX11_keen_14 : decode cX11_keen 14 = .ok (.iconst 1, 1) := dX11_keen_0_k.2.2.2.2.2.2.2.2.1
theorem dX11_keen_15 : decode cX11_keen 15 = .ok (.iaload, 1) := dX11_keen_0_k.2.2.2.2.2.2.2.2.2.1
theorem dX11_keen_16 : decode cX11_keen 16 = .ok (.if_icmp .gt 30, 3) := dX11_keen_0_k.2.2.2.2.2.2.2.2.2.2.1
theorem dX11_keen_19 : decode cX11_keen 19 = .ok (.aload_n 0, 1) := dX11_keen_0_k.2.2.2.2.2.2.2.2.2.2.2.1
theorem dX11_keen_20 : decode cX11_keen 20 = .ok (.aload_n 0, 1) := dX11_keen_0_k.2.2.2.2.2.2.2.2.2.2.2.2.1
theorem dX11_keen_21 : decode cX11_keen 21 = .ok (.getfield 10, 3) := dX11_keen_0_k.2.2.2.2.2.2.2.2.2.2.2.2.2.1
theorem dX11_keen_24 : decode cX11_keen 24 = .ok (.getfield 79, 3) := dX11_keen_0_k.2.2.2.2.2.2.2.2.2.2.2.2.2.2.1
theorem dX11_keen_27 : decode cX11_keen 27 = .ok (.iconst 0, 1) := dX11_keen_0_k.2.2.2.2.2.2.2.2.2.2.2.2.2.2.2
theorem dX11_keen_28_k : decode cX11_keen 28 = .ok (.invokevirtual 157, 3) ∧ decode cX11_keen 31 = .ok (.iload_n 1, 1) ∧ decode cX11_keen 32 = .ok (.invokevirtual 277, 3) ∧ decode cX11_keen 35 = .ok (.ifCond .eq 5, 3) ∧ decode cX11_keen 38 = .ok (.iload_n 1, 1) ∧ decode cX11_keen 39 = .ok (.ireturn, 1) ∧ decode cX11_keen 40 = .ok (.iinc 1 1, 3) ∧ decode cX11_keen 43 = .ok (.goto (-33), 3) ∧ decode cX11_keen 46 = .ok (.iconst (-1), 1) ∧ decode cX11_keen 47 = .ok (.ireturn, 1) := by decide +kernel
theorem dX11_keen_28 : decode cX11_keen 28 = .ok (.invokevirtual 157, 3) := dX11_keen_28_k.1
theorem dX11_keen_31 : decode cX11_keen 31 = .ok (.iload_n 1, 1) := dX11_keen_28_k.2.1
theorem dX11_keen_32 : decode cX11_keen 32 = .ok (.invokevirtual 277, 3) := dX11_keen_28_k.2.2.1
theorem dX11_keen_35 : decode cX11_keen 35 = .ok (.ifCond .eq 5, 3) := dX11_keen_28_k.2.2.2.1
theorem dX11_keen_38 : decode cX11_keen 38 = .ok (.iload_n 1, 1) := dX11_keen_28_k.2.2.2.2.1
theorem dX11_keen_39 : decode cX11_keen 39 = .ok (.ireturn, 1) := dX11_keen_28_k.2.2.2.2.2.1
theorem dX11_keen_40 : decode cX11_keen 40 = .ok (.iinc 1 1, 3) := dX11_keen_28_k.2.2.2.2.2.2.1
theorem dX11_keen_43 : decode cX11_keen 43 = .ok (.goto (-33), 3) := dX11_keen_28_k.2.2.2.2.2.2.2.1
theorem dX11_keen_46 : decode cX11_keen 46 = .ok (.iconst (-1), 1) := dX11_keen_28_k.2.2.2.2.2.2.2.2.1
theorem dX11_keen_47 : decode cX11_keen 47 = .ok (.ireturn, 1) := dX11_keen_28_k.2.2.2.2.2.2.2.2.2
theorem dX11_image_0_k : decode cX11_image 0 = .ok (.iload_n 1, 1) ∧ decode cX11_image 1 = .ok (.ifCond .lt 8, 3) ∧ decode cX11_image 4 = .ok (.iload_n 1, 1) ∧ decode cX11_image 5 = .ok (.iconst 3, 1) ∧ decode cX11_image 6 = .ok (.if_icmp .lt 5, 3) ∧ decode cX11_image 9 = .ok (.iconst 0, 1) ∧ decode cX11_image 10 = .ok (.ireturn, 1) ∧ decode cX11_image 11 = .ok (.aload_n 0, 1) ∧ decode cX11_image 12 = .ok (.getfield 19, 3) ∧ decode cX11_image 15 = .ok (.iload_n 1, 1) ∧ decode cX11_image 16 = .ok (.aaload, 1) ∧ decode cX11_image 17 = .ok (.ifnonnull 16, 3) ∧ decode cX11_image 20 = .ok (.aload_n 0, 1) ∧ decode cX11_image 21 = .ok (.getfield 19, 3) ∧ decode cX11_image 24 = .ok (.iload_n 1, 1) ∧ decode cX11_image 25 = .ok (.new 7, 3) := by decide +kernel
theorem dX11_image_0 : decode cX11_image 0 = .ok (.iload_n 1, 1) := dX11_image_0_k.1
theorem dX11_image_1 : decode cX11_image 1 = .ok (.ifCond .lt 8, 3) := dX11_image_0_k.2.1
theorem dX11_image_4 : decode cX11_image 4 = .ok (.iload_n 1, 1) := dX11_image_0_k.2.2.1
theorem dX11_image_5 : decode cX11_image 5 = .ok (.iconst 3, 1) := dX11_image_0_k.2.2.2.1
theorem dX11_image_6 : decode cX11_image 6 = .ok (.if_icmp .lt 5, 3) := dX11_image_0_k.2.2.2.2.1
theorem dX11_image_9 : decode cX11_image 9 = .ok (.iconst 0, 1) := dX11_image_0_k.2.2.2.2.2.1
theorem dX11_image_10 : decode cX11_image 10 = .ok (.ireturn, 1) := dX11_image_0_k.2.2.2.2.2.2.1
theorem dX11_image_11 : decode cX11_image 11 = .ok (.aload_n 0, 1) := dX11_image_0_k.2.2.2.2.2.2.2.1
theorem dX11_image_12 : decode cX11_image 12 = .ok (.getfield 19, 3) := dX11_image_0_k.2.2.2.2.2.2.2.2.1
theorem dX11_image_15 : decode cX11_image 15 = .ok (.iload_n 1, 1) := dX11_image_0_k.2.2.2.2.2.2.2.2.2.1
theorem dX11_image_16 : decode cX11_image 16 = .ok (.aaload, 1) := dX11_image_0_k.2.2.2.2.2.2.2.2.2.2.1
theorem dX11_image_17 : decode cX11_image 17 = .ok (.ifnonnull 16, 3) := dX11_image_0_k.2.2.2.2.2.2.2.2.2.2.2.1
theorem dX11_image_20 : decode cX11_image 20 = .ok (.aload_n 0, 1) := dX11_image_0_k.2.2.2.2.2.2.2.2.2.2.2.2.1
theorem dX11_image_21 : decode cX11_image 21 = .ok (.getfield 19, 3) := dX11_image_0_k.2.2.2.2.2.2.2.2.2.2.2.2.2.1
theorem dX11_image_24 : decode cX11_image 24 = .ok (.iload_n 1, 1) := dX11_image_0_k.2.2.2.2.2.2.2.2.2.2.2.2.2.2.1
theorem dX11_image_25 : decode cX11_image 25 = .ok (.new 7, 3) := dX11_image_0_k.2.2.2.2.2.2.2.2.2.2.2.2.2.2.2
theorem dX11_image_28_k : decode cX11_image 28 = .ok (.dup, 1) ∧ decode cX11_image 29 = .ok (.invokespecial 9, 3) ∧ decode cX11_image 32 = .ok (.aastore, 1) ∧ decode cX11_image 33 = .ok (.aload_n 0, 1) ∧ decode cX11_image 34 = .ok (.getfield 19, 3) ∧ decode cX11_image 37 = .ok (.iload_n 1, 1) ∧ decode cX11_image 38 = .ok (.aaload, 1) ∧ decode cX11_image 39 = .ok (.aload_n 0, 1) ∧ decode cX11_image 40 = .ok (.getfield 10, 3) ∧ decode cX11_image 43 = .ok (.invokevirtual 251, 3) ∧ decode cX11_image 46 = .ok (.iconst 1, 1) ∧ decode cX11_image 47 = .ok (.ireturn, 1) := by decide +kernel
theorem dX11_image_28 : decode cX11_image 28 = .ok (.dup, 1) := dX11_image_28_k.1
theorem dX11_image_29 : decode cX11_image 29 = .ok (.invokespecial 9, 3) := dX11_image_28_k.2.1
theorem dX11_image_32 : decode cX11_image 32 = .ok (.aastore, 1) := dX11_image_28_k.2.2.1
theorem dX11_image_33 : decode cX11_image 33 = .ok (.aload_n 0, 1) := dX11_image_28_k.2.2.2.1
theorem dX11_image_34 : decode cX11_image 34 = .ok (.getfield 19, 3) := dX11_image_28_k.2.2.2.2.1
theorem dX11_image_37 : decode cX11_image 37 = .ok (.iload_n 1, 1) := dX11_image_28_k.2.2.2.2.2.1
theorem dX11_image_38 : decode cX11_image 38 = .ok (.aaload, 1) := dX11_image_28_k.2.2.2.2.2.2.1
theorem dX11_image_39 : decode cX11_image 39 = .ok (.aload_n 0, 1) := dX11_image_28_k.2.2.2.2.2.2.2.1
theorem dX11_image_40 : decode cX11_image 40 = .ok (.getfield 10, 3) := dX11_image_28_k.2.2.2.2.2.2.2.2.1
theorem dX11_image_43 : decode cX11_image 43 = .ok (.invokevirtual 251, 3) := dX11_image_28_k.2.2.2.2.2.2.2.2.2.1
theorem dX11_image_46 : decode cX11_image 46 = .ok (.iconst 1, 1) := dX11_image_28_k.2.2.2.2.2.2.2.2.2.2.1
theorem dX11_image_47 : decode cX11_image 47 = .ok (.ireturn, 1) := dX11_image_28_k.2.2.2.2.2.2.2.2.2.2.2
theorem dX11_again_0_k : decode cX11_again 0 = .ok (.iload_n 1, 1) ∧ decode cX11_again 1 = .ok (.ifCond .lt 17, 3) ∧ decode cX11_again 4 = .ok (.iload_n 1, 1) ∧ decode cX11_again 5 = .ok (.iconst 3, 1) ∧ decode cX11_again 6 = .ok (.if_icmp .ge 12, 3) ∧ decode cX11_again 9 = .ok (.aload_n 0, 1) ∧ decode cX11_again 10 = .ok (.getfield 19, 3) ∧ decode cX11_again 13 = .ok (.iload_n 1, 1) ∧ decode cX11_again 14 = .ok (.aaload, 1) ∧ decode cX11_again 15 = .ok (.ifnonnull 5, 3) ∧ decode cX11_again 18 = .ok (.iconst 0, 1) ∧ decode cX11_again 19 = .ok (.ireturn, 1) ∧ decode cX11_again 20 = .ok (.aload_n 0, 1) ∧ decode cX11_again 21 = .ok (.getfield 10, 3) ∧ decode cX11_again 24 = .ok (.aload_n 0, 1) ∧ decode cX11_again 25 = .ok (.getfield 19, 3) := by decide +kernel
theorem dX11_again_0 : decode cX11_again 0 = .ok (.iload_n 1, 1) := dX11_again_0_k.1
theorem dX11_again_1 : decode cX11_again 1 = .ok (.ifCond .lt 17, 3) := dX11_again_0_k.2.1
theorem dX11_again_4 : decode cX11_again 4 = .ok (.iload_n 1, 1) := dX11_again_0_k.2.2.1
theorem dX11_again_5 : decode cX11_again 5 = .ok (.iconst 3, 1) := dX11_again_0_k.2.2.2.1
theorem dX11_again_6 : decode cX11_again 6 = .ok (.if_icmp .ge 12, 3) := dX11_again_0_k.2.2.2.2.1
theorem dX11_again_9 : decode cX11_again 9 = .ok (.aload_n 0, 1) := dX11_again_0_k.2.2.2.2.2.1
theorem dX11_again_10 : decode cX11_again 10 = .ok (.getfield 19, 3) := dX11_again_0_k.2.2.2.2.2.2.1
theorem dX11_again_13 : decode cX11_again 13 = .ok (.iload_n 1, 1) := dX11_again_0_k.2.2.2.2.2.2.2.1
theorem dX11_again_14 : decode cX11_again 14 = .ok (.aaload, 1) := dX11_again_0_k.2.2.2.2.2.2.2.2.1
theorem dX11_again_15 : decode cX11_again 15 = .ok (.ifnonnull 5, 3) := dX11_again_0_k.2.2.2.2.2.2.2.2.2.1
theorem dX11_again_18 : decode cX11_again 18 = .ok (.iconst 0, 1) := dX11_again_0_k.2.2.2.2.2.2.2.2.2.2.1
theorem dX11_again_19 : decode cX11_again 19 = .ok (.ireturn, 1) := dX11_again_0_k.2.2.2.2.2.2.2.2.2.2.2.1
theorem dX11_again_20 : decode cX11_again 20 = .ok (.aload_n 0, 1) := dX11_again_0_k.2.2.2.2.2.2.2.2.2.2.2.2.1
theorem dX11_again_21 : decode cX11_again 21 = .ok (.getfield 10, 3) := dX11_again_0_k.2.2.2.2.2.2.2.2.2.2.2.2.2.1
theorem dX11_again_24 : decode cX11_again 24 = .ok (.aload_n 0, 1) := dX11_again_0_k.2.2.2.2.2.2.2.2.2.2.2.2.2.2.1
theorem dX11_again_25 : decode cX11_again 25 = .ok (.getfield 19, 3) := dX11_again_0_k.2.2.2.2.2.2.2.2.2.2.2.2.2.2.2
theorem dX11_again_28_k : decode cX11_again 28 = .ok (.iload_n 1, 1) ∧ decode cX11_again 29 = .ok (.aaload, 1) ∧ decode cX11_again 30 = .ok (.invokevirtual 251, 3) ∧ decode cX11_again 33 = .ok (.iconst 1, 1) ∧ decode cX11_again 34 = .ok (.ireturn, 1) := by decide +kernel
theorem dX11_again_28 : decode cX11_again 28 = .ok (.iload_n 1, 1) := dX11_again_28_k.1
theorem dX11_again_29 : decode cX11_again 29 = .ok (.aaload, 1) := dX11_again_28_k.2.1
theorem dX11_again_30 : decode cX11_again 30 = .ok (.invokevirtual 251, 3) := dX11_again_28_k.2.2.1
theorem dX11_again_33 : decode cX11_again 33 = .ok (.iconst 1, 1) := dX11_again_28_k.2.2.2.1
theorem dX11_again_34 : decode cX11_again 34 = .ok (.ireturn, 1) := dX11_again_28_k.2.2.2.2
theorem dX11_rowsOf_0_k : decode cX11_rowsOf 0 = .ok (.aload_n 0, 1) ∧ decode cX11_rowsOf 1 = .ok (.getfield 40, 3) ∧ decode cX11_rowsOf 4 = .ok (.iload_n 1, 1) ∧ decode cX11_rowsOf 5 = .ok (.aload_n 0, 1) ∧ decode cX11_rowsOf 6 = .ok (.getfield 10, 3) ∧ decode cX11_rowsOf 9 = .ok (.getfield 79, 3) ∧ decode cX11_rowsOf 12 = .ok (.iconst 0, 1) ∧ decode cX11_rowsOf 13 = .ok (.invokevirtual 157, 3) ∧ decode cX11_rowsOf 16 = .ok (.invokevirtual 160, 3) ∧ decode cX11_rowsOf 19 = .ok (.aload_n 0, 1) ∧ decode cX11_rowsOf 20 = .ok (.getfield 40, 3) ∧ decode cX11_rowsOf 23 = .ok (.aload_n 0, 1) ∧ decode cX11_rowsOf 24 = .ok (.getfield 10, 3) ∧ decode cX11_rowsOf 27 = .ok (.getfield 79, 3) ∧ decode cX11_rowsOf 30 = .ok (.iconst 1, 1) ∧ decode cX11_rowsOf 31 = .ok (.invokevirtual 157, 3) := by decide +kernel
theorem dX11_rowsOf_0 : decode cX11_rowsOf 0 = .ok (.aload_n 0, 1) := dX11_rowsOf_0_k.1
theorem dX11_rowsOf_1 : decode cX11_rowsOf 1 = .ok (.getfield 40, 3) := dX11_rowsOf_0_k.2.1
theorem dX11_rowsOf_4 : decode cX11_rowsOf 4 = .ok (.iload_n 1, 1) := dX11_rowsOf_0_k.2.2.1
theorem dX11_rowsOf_5 : decode cX11_rowsOf 5 = .ok (.aload_n 0, 1) := dX11_rowsOf_0_k.2.2.2.1
theorem dX11_rowsOf_6 : decode cX11_rowsOf 6 = .ok (.getfield 10, 3) := dX11_rowsOf_0_k.2.2.2.2.1
theorem dX11_rowsOf_9 : decode cX11_rowsOf 9 = .ok (.getfield 79, 3) := dX11_rowsOf_0_k.2.2.2.2.2.1
theorem dX11_rowsOf_12 : decode cX11_rowsOf 12 = .ok (.iconst 0, 1) := dX11_rowsOf_0_k.2.2.2.2.2.2.1
theorem dX11_rowsOf_13 : decode cX11_rowsOf 13 = .ok (.invokevirtual 157, 3) := dX11_rowsOf_0_k.2.2.2.2.2.2.2.1
theorem dX11_rowsOf_16 : decode cX11_rowsOf 16 = .ok (.invokevirtual 160, 3) := dX11_rowsOf_0_k.2.2.2.2.2.2.2.2.1
theorem dX11_rowsOf_19 : decode cX11_rowsOf 19 = .ok (.aload_n 0, 1) := dX11_rowsOf_0_k.2.2.2.2.2.2.2.2.2.1
theorem dX11_rowsOf_20 : decode cX11_rowsOf 20 = .ok (.getfield 40, 3) := dX11_rowsOf_0_k.2.2.2.2.2.2.2.2.2.2.1
theorem dX11_rowsOf_23 : decode cX11_rowsOf 23 = .ok (.aload_n 0, 1) := dX11_rowsOf_0_k.2.2.2.2.2.2.2.2.2.2.2.1
theorem dX11_rowsOf_24 : decode cX11_rowsOf 24 = .ok (.getfield 10, 3) := dX11_rowsOf_0_k.2.2.2.2.2.2.2.2.2.2.2.2.1
theorem dX11_rowsOf_27 : decode cX11_rowsOf 27 = .ok (.getfield 79, 3) := dX11_rowsOf_0_k.2.2.2.2.2.2.2.2.2.2.2.2.2.1
theorem dX11_rowsOf_30 : decode cX11_rowsOf 30 = .ok (.iconst 1, 1) := dX11_rowsOf_0_k.2.2.2.2.2.2.2.2.2.2.2.2.2.2.1
theorem dX11_rowsOf_31 : decode cX11_rowsOf 31 = .ok (.invokevirtual 157, 3) := dX11_rowsOf_0_k.2.2.2.2.2.2.2.2.2.2.2.2.2.2.2
theorem dX11_rowsOf_34_k : decode cX11_rowsOf 34 = .ok (.invokevirtual 280, 3) ∧ decode cX11_rowsOf 37 = .ok (.ireturn, 1) := by decide +kernel
theorem dX11_rowsOf_34 : decode cX11_rowsOf 34 = .ok (.invokevirtual 280, 3) := dX11_rowsOf_34_k.1
theorem dX11_rowsOf_37 : decode cX11_rowsOf 37 = .ok (.ireturn, 1) := dX11_rowsOf_34_k.2
theorem dX11_loadLatest_0_k : decode cX11_loadLatest 0 = .ok (.iload_n 1, 1) ∧ decode cX11_loadLatest 1 = .ok (.iload_n 2, 1) ∧ decode cX11_loadLatest 2 = .ok (.if_icmp .lt 17, 3) ∧ decode cX11_loadLatest 5 = .ok (.iload_n 1, 1) ∧ decode cX11_loadLatest 6 = .ok (.aload_n 0, 1) ∧ decode cX11_loadLatest 7 = .ok (.getfield 10, 3) ∧ decode cX11_loadLatest 10 = .ok (.getfield 169, 3) ∧ decode cX11_loadLatest 13 = .ok (.getfield 248, 3) ∧ decode cX11_loadLatest 16 = .ok (.if_icmp .le 5, 3) ∧ decode cX11_loadLatest 19 = .ok (.iconst 0, 1) ∧ decode cX11_loadLatest 20 = .ok (.ireturn, 1) ∧ decode cX11_loadLatest 21 = .ok (.aload_n 0, 1) ∧ decode cX11_loadLatest 22 = .ok (.getfield 33, 3) ∧ decode cX11_loadLatest 25 = .ok (.aload_n 0, 1) ∧ decode cX11_loadLatest 26 = .ok (.getfield 10, 3) ∧ decode cX11_loadLatest 29 = .ok (.getfield 169, 3) := by decide +kernel
theorem dX11_loadLatest_0 : decode cX11_loadLatest 0 = .ok (.iload_n 1, 1) := dX11_loadLatest_0_k.1
theorem dX11_loadLatest_1 : decode cX11_loadLatest 1 = .ok (.iload_n 2, 1) := dX11_loadLatest_0_k.2.1
theorem dX11_loadLatest_2 : decode cX11_loadLatest 2 = .ok (.if_icmp .lt 17, 3) := dX11_loadLatest_0_k.2.2.1
theorem dX11_loadLatest_5 : decode cX11_loadLatest 5 = .ok (.iload_n 1, 1) := dX11_loadLatest_0_k.2.2.2.1
theorem dX11_loadLatest_6 : decode cX11_loadLatest 6 = .ok (.aload_n 0, 1) := dX11_loadLatest_0_k.2.2.2.2.1
theorem dX11_loadLatest_7 : decode cX11_loadLatest 7 = .ok (.getfield 10, 3) := dX11_loadLatest_0_k.2.2.2.2.2.1
theorem dX11_loadLatest_10 : decode cX11_loadLatest 10 = .ok (.getfield 169, 3) := dX11_loadLatest_0_k.2.2.2.2.2.2.1
theorem dX11_loadLatest_13 : decode cX11_loadLatest 13 = .ok (.getfield 248, 3) := dX11_loadLatest_0_k.2.2.2.2.2.2.2.1
theorem dX11_loadLatest_16 : decode cX11_loadLatest 16 = .ok (.if_icmp .le 5, 3) := dX11_loadLatest_0_k.2.2.2.2.2.2.2.2.1
theorem dX11_loadLatest_19 : decode cX11_loadLatest 19 = .ok (.iconst 0, 1) := dX11_loadLatest_0_k.2.2.2.2.2.2.2.2.2.1
theorem dX11_loadLatest_20 : decode cX11_loadLatest 20 = .ok (.ireturn, 1) := dX11_loadLatest_0_k.2.2.2.2.2.2.2.2.2.2.1
theorem dX11_loadLatest_21 : decode cX11_loadLatest 21 = .ok (.aload_n 0, 1) := dX11_loadLatest_0_k.2.2.2.2.2.2.2.2.2.2.2.1
theorem dX11_loadLatest_22 : decode cX11_loadLatest 22 = .ok (.getfield 33, 3) := dX11_loadLatest_0_k.2.2.2.2.2.2.2.2.2.2.2.2.1
theorem dX11_loadLatest_25 : decode cX11_loadLatest 25 = .ok (.aload_n 0, 1) := dX11_loadLatest_0_k.2.2.2.2.2.2.2.2.2.2.2.2.2.1
theorem dX11_loadLatest_26 : decode cX11_loadLatest 26 = .ok (.getfield 10, 3) := dX11_loadLatest_0_k.2.2.2.2.2.2.2.2.2.2.2.2.2.2.1
theorem dX11_loadLatest_29 : decode cX11_loadLatest 29 = .ok (.getfield 169, 3) := dX11_loadLatest_0_k.2.2.2.2.2.2.2.2.2.2.2.2.2.2.2
theorem dX11_loadLatest_32_k : decode cX11_loadLatest 32 = .ok (.iload_n 1, 1) ∧ decode cX11_loadLatest 33 = .ok (.invokevirtual 283, 3) ∧ decode cX11_loadLatest 36 = .ok (.iconst 1, 1) ∧ decode cX11_loadLatest 37 = .ok (.ireturn, 1) := by decide +kernel
theorem dX11_loadLatest_32 : decode cX11_loadLatest 32 = .ok (.iload_n 1, 1) := dX11_loadLatest_32_k.1
theorem dX11_loadLatest_33 : decode cX11_loadLatest 33 = .ok (.invokevirtual 283, 3) := dX11_loadLatest_32_k.2.1
theorem dX11_loadLatest_36 : decode cX11_loadLatest 36 = .ok (.iconst 1, 1) := dX11_loadLatest_32_k.2.2.1
theorem dX11_loadLatest_37 : decode cX11_loadLatest 37 = .ok (.ireturn, 1) := dX11_loadLatest_32_k.2.2.2
theorem dX11_loadTuples_0_k : decode cX11_loadTuples 0 = .ok (.iload_n 2, 1) ∧ decode cX11_loadTuples 1 = .ok (.iconst 1, 1) ∧ decode cX11_loadTuples 2 = .ok (.if_icmp .lt 27, 3) ∧ decode cX11_loadTuples 5 = .ok (.iload_n 2, 1) ∧ decode cX11_loadTuples 6 = .ok (.bipush 8, 2) ∧ decode cX11_loadTuples 8 = .ok (.if_icmp .gt 21, 3) ∧ decode cX11_loadTuples 11 = .ok (.iload_n 2, 1) ∧ decode cX11_loadTuples 12 = .ok (.iload_n 1, 1) ∧ decode cX11_loadTuples 13 = .ok (.if_icmp .gt 16, 3) ∧ decode cX11_loadTuples 16 = .ok (.aload_n 0, 1) ∧ decode cX11_loadTuples 17 = .ok (.iload_n 1, 1) ∧ decode cX11_loadTuples 18 = .ok (.iconst 1, 1) ∧ decode cX11_loadTuples 19 = .ok (.invokevirtual 194, 3) ∧ decode cX11_loadTuples 22 = .ok (.ifCond .eq 7, 3) ∧ decode cX11_loadTuples 25 = .ok (.iconst 1, 1) ∧ decode cX11_loadTuples 26 = .ok (.goto 4, 3) := by decide +kernel
theorem dX11_loadTuples_0 : decode cX11_loadTuples 0 = .ok (.iload_n 2, 1) := dX11_loadTuples_0_k.1
theorem dX11_loadTuples_1 : decode cX11_loadTuples 1 = .ok (.iconst 1, 1) := dX11_loadTuples_0_k.2.1
theorem dX11_loadTuples_2 : decode cX11_loadTuples 2 = .ok (.if_icmp .lt 27, 3) := dX11_loadTuples_0_k.2.2.1
theorem dX11_loadTuples_5 : decode cX11_loadTuples 5 = .ok (.iload_n 2, 1) := dX11_loadTuples_0_k.2.2.2.1
theorem dX11_loadTuples_6 : decode cX11_loadTuples 6 = .ok (.bipush 8, 2) := dX11_loadTuples_0_k.2.2.2.2.1
theorem dX11_loadTuples_8 : decode cX11_loadTuples 8 = .ok (.if_icmp .gt 21, 3) := dX11_loadTuples_0_k.2.2.2.2.2.1
theorem dX11_loadTuples_11 : decode cX11_loadTuples 11 = .ok (.iload_n 2, 1) := dX11_loadTuples_0_k.2.2.2.2.2.2.1
theorem dX11_loadTuples_12 : decode cX11_loadTuples 12 = .ok (.iload_n 1, 1) := dX11_loadTuples_0_k.2.2.2.2.2.2.2.1
theorem dX11_loadTuples_13 : decode cX11_loadTuples 13 = .ok (.if_icmp .gt 16, 3) := dX11_loadTuples_0_k.2.2.2.2.2.2.2.2.1
theorem dX11_loadTuples_16 : decode cX11_loadTuples 16 = .ok (.aload_n 0, 1) := dX11_loadTuples_0_k.2.2.2.2.2.2.2.2.2.1
theorem dX11_loadTuples_17 : decode cX11_loadTuples 17 = .ok (.iload_n 1, 1) := dX11_loadTuples_0_k.2.2.2.2.2.2.2.2.2.2.1
theorem dX11_loadTuples_18 : decode cX11_loadTuples 18 = .ok (.iconst 1, 1) := dX11_loadTuples_0_k.2.2.2.2.2.2.2.2.2.2.2.1
theorem dX11_loadTuples_19 : decode cX11_loadTuples 19 = .ok (.invokevirtual 194, 3) := dX11_loadTuples_0_k.2.2.2.2.2.2.2.2.2.2.2.2.1
theorem dX11_loadTuples_22 : decode cX11_loadTuples 22 = .ok (.ifCond .eq 7, 3) := dX11_loadTuples_0_k.2.2.2.2.2.2.2.2.2.2.2.2.2.1
theorem dX11_loadTuples_25 : decode cX11_loadTuples 25 = .ok (.iconst 1, 1) := dX11_loadTuples_0_k.2.2.2.2.2.2.2.2.2.2.2.2.2.2.1
theorem dX11_loadTuples_26 : decode cX11_loadTuples 26 = .ok (.goto 4, 3) := dX11_loadTuples_0_k.2.2.2.2.2.2.2.2.2.2.2.2.2.2.2
theorem dX11_loadTuples_29_k : decode cX11_loadTuples 29 = .ok (.iconst 0, 1) ∧ decode cX11_loadTuples 30 = .ok (.ireturn, 1) := by decide +kernel
theorem dX11_loadTuples_29 : decode cX11_loadTuples 29 = .ok (.iconst 0, 1) := dX11_loadTuples_29_k.1
theorem dX11_loadTuples_30 : decode cX11_loadTuples 30 = .ok (.ireturn, 1) := dX11_loadTuples_29_k.2
theorem dX11_leastChance_0_k : decode cX11_leastChance 0 = .ok (.aload_n 0, 1) ∧ decode cX11_leastChance 1 = .ok (.getfield 33, 3) ∧ decode cX11_leastChance 4 = .ok (.iload_n 1, 1) ∧ decode cX11_leastChance 5 = .ok (.invokevirtual 198, 3) ∧ decode cX11_leastChance 8 = .ok (.bipush 8, 2) ∧ decode cX11_leastChance 10 = .ok (.istore_n 2, 1) ∧ decode cX11_leastChance 11 = .ok (.iload_n 2, 1) ∧ decode cX11_leastChance 12 = .ok (.bipush 16, 2) ∧ decode cX11_leastChance 14 = .ok (.if_icmp .ge 23, 3) ∧ decode cX11_leastChance 17 = .ok (.aload_n 0, 1) ∧ decode cX11_leastChance 18 = .ok (.getfield 33, 3) ∧ decode cX11_leastChance 21 = .ok (.iload_n 1, 1) ∧ decode cX11_leastChance 22 = .ok (.iload_n 2, 1) ∧ decode cX11_leastChance 23 = .ok (.invokevirtual 208, 3) ∧ decode cX11_leastChance 26 = .ok (.ifCond .eq 5, 3) ∧ decode cX11_leastChance 29 = .ok (.iload_n 2, 1) := by decide +kernel
theorem dX11_leastChance_0 : decode cX11_leastChance 0 = .ok (.aload_n 0, 1) := dX11_leastChance_0_k.1
theorem dX11_leastChance_1 : decode cX11_leastChance 1 = .ok (.getfield 33, 3) := dX11_leastChance_0_k.2.1
theorem dX11_leastChance_4 : decode cX11_leastChance 4 = .ok (.iload_n 1, 1) := dX11_leastChance_0_k.2.2.1
theorem dX11_leastChance_5 : decode cX11_leastChance 5 = .ok (.invokevirtual 198, 3) := dX11_leastChance_0_k.2.2.2.1
theorem dX11_leastChance_8 : decode cX11_leastChance 8 = .ok (.bipush 8, 2) := dX11_leastChance_0_k.2.2.2.2.1
theorem dX11_leastChance_10 : decode cX11_leastChance 10 = .ok (.istore_n 2, 1) := dX11_leastChance_0_k.2.2.2.2.2.1
theorem dX11_leastChance_11 : decode cX11_leastChance 11 = .ok (.iload_n 2, 1) := dX11_leastChance_0_k.2.2.2.2.2.2.1
theorem dX11_leastChance_12 : decode cX11_leastChance 12 = .ok (.bipush 16, 2) := dX11_leastChance_0_k.2.2.2.2.2.2.2.1
theorem dX11_leastChance_14 : decode cX11_leastChance 14 = .ok (.if_icmp .ge 23, 3) := dX11_leastChance_0_k.2.2.2.2.2.2.2.2.1
theorem dX11_leastChance_17 : decode cX11_leastChance 17 = .ok (.aload_n 0, 1) := dX11_leastChance_0_k.2.2.2.2.2.2.2.2.2.1
theorem dX11_leastChance_18 : decode cX11_leastChance 18 = .ok (.getfield 33, 3) := dX11_leastChance_0_k.2.2.2.2.2.2.2.2.2.2.1
theorem dX11_leastChance_21 : decode cX11_leastChance 21 = .ok (.iload_n 1, 1) := dX11_leastChance_0_k.2.2.2.2.2.2.2.2.2.2.2.1
theorem dX11_leastChance_22 : decode cX11_leastChance 22 = .ok (.iload_n 2, 1) := dX11_leastChance_0_k.2.2.2.2.2.2.2.2.2.2.2.2.1
theorem dX11_leastChance_23 : decode cX11_leastChance 23 = .ok (.invokevirtual 208, 3) := dX11_leastChance_0_k.2.2.2.2.2.2.2.2.2.2.2.2.2.1
theorem dX11_leastChance_26 : decode cX11_leastChance 26 = .ok (.ifCond .eq 5, 3) := dX11_leastChance_0_k.2.2.2.2.2.2.2.2.2.2.2.2.2.2.1
theorem dX11_leastChance_29 : decode cX11_leastChance 29 = .ok (.iload_n 2, 1) := dX11_leastChance_0_k.2.2.2.2.2.2.2.2.2.2.2.2.2.2.2
theorem dX11_leastChance_30_k : decode cX11_leastChance 30 = .ok (.ireturn, 1) ∧ decode cX11_leastChance 31 = .ok (.iinc 2 1, 3) ∧ decode cX11_leastChance 34 = .ok (.goto (-23), 3) ∧ decode cX11_leastChance 37 = .ok (.bipush 16, 2) ∧ decode cX11_leastChance 39 = .ok (.ireturn, 1) := by decide +kernel
theorem dX11_leastChance_30 : decode cX11_leastChance 30 = .ok (.ireturn, 1) := dX11_leastChance_30_k.1
theorem dX11_leastChance_31 : decode cX11_leastChance 31 = .ok (.iinc 2 1, 3) := dX11_leastChance_30_k.2.1
theorem dX11_leastChance_34 : decode cX11_leastChance 34 = .ok (.goto (-23), 3) := dX11_leastChance_30_k.2.2.1
theorem dX11_leastChance_37 : decode cX11_leastChance 37 = .ok (.bipush 16, 2) := dX11_leastChance_30_k.2.2.2.1
theorem dX11_leastChance_39 : decode cX11_leastChance 39 = .ok (.ireturn, 1) := dX11_leastChance_30_k.2.2.2.2
theorem dX11_measurePeaks_0_k : decode cX11_measurePeaks 0 = .ok (.aload_n 0, 1) ∧ decode cX11_measurePeaks 1 = .ok (.getfield 47, 3) ∧ decode cX11_measurePeaks 4 = .ok (.invokevirtual 265, 3) ∧ decode cX11_measurePeaks 7 = .ok (.aload_n 0, 1) ∧ decode cX11_measurePeaks 8 = .ok (.getfield 51, 3) ∧ decode cX11_measurePeaks 11 = .ok (.invokevirtual 265, 3) ∧ decode cX11_measurePeaks 14 = .ok (.iconst 0, 1) ∧ decode cX11_measurePeaks 15 = .ok (.istore_n 1, 1) ∧ decode cX11_measurePeaks 16 = .ok (.iload_n 1, 1) ∧ decode cX11_measurePeaks 17 = .ok (.aload_n 0, 1) ∧ decode cX11_measurePeaks 18 = .ok (.getfield 10, 3) ∧ decode cX11_measurePeaks 21 = .ok (.getfield 169, 3) ∧ decode cX11_measurePeaks 24 = .ok (.getfield 248, 3) ∧ decode cX11_measurePeaks 27 = .ok (.if_icmp .ge 49, 3) ∧ decode cX11_measurePeaks 30 = .ok (.aload_n 0, 1) ∧ decode cX11_measurePeaks 31 = .ok (.getfield 47, 3) := by decide +kernel
theorem dX11_measurePeaks_0 : decode cX11_measurePeaks 0 = .ok (.aload_n 0, 1) := dX11_measurePeaks_0_k.1
theorem dX11_measurePeaks_1 : decode cX11_measurePeaks 1 = .ok (.getfield 47, 3) := dX11_measurePeaks_0_k.2.1
theorem dX11_measurePeaks_4 : decode cX11_measurePeaks 4 = .ok (.invokevirtual 265, 3) := dX11_measurePeaks_0_k.2.2.1
theorem dX11_measurePeaks_7 : decode cX11_measurePeaks 7 = .ok (.aload_n 0, 1) := dX11_measurePeaks_0_k.2.2.2.1
theorem dX11_measurePeaks_8 : decode cX11_measurePeaks 8 = .ok (.getfield 51, 3) := dX11_measurePeaks_0_k.2.2.2.2.1
theorem dX11_measurePeaks_11 : decode cX11_measurePeaks 11 = .ok (.invokevirtual 265, 3) := dX11_measurePeaks_0_k.2.2.2.2.2.1
theorem dX11_measurePeaks_14 : decode cX11_measurePeaks 14 = .ok (.iconst 0, 1) := dX11_measurePeaks_0_k.2.2.2.2.2.2.1
theorem dX11_measurePeaks_15 : decode cX11_measurePeaks 15 = .ok (.istore_n 1, 1) := dX11_measurePeaks_0_k.2.2.2.2.2.2.2.1
theorem dX11_measurePeaks_16 : decode cX11_measurePeaks 16 = .ok (.iload_n 1, 1) := dX11_measurePeaks_0_k.2.2.2.2.2.2.2.2.1
theorem dX11_measurePeaks_17 : decode cX11_measurePeaks 17 = .ok (.aload_n 0, 1) := dX11_measurePeaks_0_k.2.2.2.2.2.2.2.2.2.1
theorem dX11_measurePeaks_18 : decode cX11_measurePeaks 18 = .ok (.getfield 10, 3) := dX11_measurePeaks_0_k.2.2.2.2.2.2.2.2.2.2.1
theorem dX11_measurePeaks_21 : decode cX11_measurePeaks 21 = .ok (.getfield 169, 3) := dX11_measurePeaks_0_k.2.2.2.2.2.2.2.2.2.2.2.1
theorem dX11_measurePeaks_24 : decode cX11_measurePeaks 24 = .ok (.getfield 248, 3) := dX11_measurePeaks_0_k.2.2.2.2.2.2.2.2.2.2.2.2.1
theorem dX11_measurePeaks_27 : decode cX11_measurePeaks 27 = .ok (.if_icmp .ge 49, 3) := dX11_measurePeaks_0_k.2.2.2.2.2.2.2.2.2.2.2.2.2.1
theorem dX11_measurePeaks_30 : decode cX11_measurePeaks 30 = .ok (.aload_n 0, 1) := dX11_measurePeaks_0_k.2.2.2.2.2.2.2.2.2.2.2.2.2.2.1
theorem dX11_measurePeaks_31 : decode cX11_measurePeaks 31 = .ok (.getfield 47, 3) := dX11_measurePeaks_0_k.2.2.2.2.2.2.2.2.2.2.2.2.2.2.2
theorem dX11_measurePeaks_34_k : decode cX11_measurePeaks 34 = .ok (.aload_n 0, 1) ∧ decode cX11_measurePeaks 35 = .ok (.getfield 10, 3) ∧ decode cX11_measurePeaks 38 = .ok (.getfield 169, 3) ∧ decode cX11_measurePeaks 41 = .ok (.iload_n 1, 1) ∧ decode cX11_measurePeaks 42 = .ok (.invokevirtual 173, 3) ∧ decode cX11_measurePeaks 45 = .ok (.aload_n 0, 1) ∧ decode cX11_measurePeaks 46 = .ok (.getfield 10, 3) ∧ decode cX11_measurePeaks 49 = .ok (.getfield 79, 3) ∧ decode cX11_measurePeaks 52 = .ok (.iconst 2, 1) ∧ decode cX11_measurePeaks 53 = .ok (.invokevirtual 157, 3) ∧ decode cX11_measurePeaks 56 = .ok (.invokevirtual 268, 3) ∧ decode cX11_measurePeaks 59 = .ok (.aload_n 0, 1) ∧ decode cX11_measurePeaks 60 = .ok (.getfield 51, 3) ∧ decode cX11_measurePeaks 63 = .ok (.aload_n 0, 1) ∧ decode cX11_measurePeaks 64 = .ok (.getfield 47, 3) ∧ decode cX11_measurePeaks 67 = .ok (.invokevirtual 287, 3) := by decide +kernel
theorem dX11_measurePeaks_34 : decode cX11_measurePeaks 34 = .ok (.aload_n 0, 1) := dX11_measurePeaks_34_k.1
theorem dX11_measurePeaks_35 : decode cX11_measurePeaks 35 = .ok (.getfield 10, 3) := dX11_measurePeaks_34_k.2.1
theorem dX11_measurePeaks_38 : decode cX11_measurePeaks 38 = .ok (.getfield 169, 3) := dX11_measurePeaks_34_k.2.2.1
theorem dX11_measurePeaks_41 : decode cX11_measurePeaks 41 = .ok (.iload_n 1, 1) := dX11_measurePeaks_34_k.2.2.2.1
theorem dX11_measurePeaks_42 : decode cX11_measurePeaks 42 = .ok (.invokevirtual 173, 3) := dX11_measurePeaks_34_k.2.2.2.2.1
theorem dX11_measurePeaks_45 : decode cX11_measurePeaks 45 = .ok (.aload_n 0, 1) := dX11_measurePeaks_34_k.2.2.2.2.2.1
theorem dX11_measurePeaks_46 : decode cX11_measurePeaks 46 = .ok (.getfield 10, 3) := dX11_measurePeaks_34_k.2.2.2.2.2.2.1
theorem dX11_measurePeaks_49 : decode cX11_measurePeaks 49 = .ok (.getfield 79, 3) := dX11_measurePeaks_34_k.2.2.2.2.2.2.2.1
theorem dX11_measurePeaks_52 : decode cX11_measurePeaks 52 = .ok (.iconst 2, 1) := dX11_measurePeaks_34_k.2.2.2.2.2.2.2.2.1
theorem dX11_measurePeaks_53 : decode cX11_measurePeaks 53 = .ok (.invokevirtual 157, 3) := dX11_measurePeaks_34_k.2.2.2.2.2.2.2.2.2.1
theorem dX11_measurePeaks_56 : decode cX11_measurePeaks 56 = .ok (.invokevirtual 268, 3) := dX11_measurePeaks_34_k.2.2.2.2.2.2.2.2.2.2.1
theorem dX11_measurePeaks_59 : decode cX11_measurePeaks 59 = .ok (.aload_n 0, 1) := dX11_measurePeaks_34_k.2.2.2.2.2.2.2.2.2.2.2.1
theorem dX11_measurePeaks_60 : decode cX11_measurePeaks 60 = .ok (.getfield 51, 3) := dX11_measurePeaks_34_k.2.2.2.2.2.2.2.2.2.2.2.2.1
theorem dX11_measurePeaks_63 : decode cX11_measurePeaks 63 = .ok (.aload_n 0, 1) := dX11_measurePeaks_34_k.2.2.2.2.2.2.2.2.2.2.2.2.2.1
theorem dX11_measurePeaks_64 : decode cX11_measurePeaks 64 = .ok (.getfield 47, 3) := dX11_measurePeaks_34_k.2.2.2.2.2.2.2.2.2.2.2.2.2.2.1
theorem dX11_measurePeaks_67 : decode cX11_measurePeaks 67 = .ok (.invokevirtual 287, 3) := dX11_measurePeaks_34_k.2.2.2.2.2.2.2.2.2.2.2.2.2.2.2
theorem dX11_measurePeaks_70_k : decode cX11_measurePeaks 70 = .ok (.iinc 1 1, 3) ∧ decode cX11_measurePeaks 73 = .ok (.goto (-57), 3) ∧ decode cX11_measurePeaks 76 = .ok (.return_, 1) := by decide +kernel
theorem dX11_measurePeaks_70 : decode cX11_measurePeaks 70 = .ok (.iinc 1 1, 3) := dX11_measurePeaks_70_k.1
theorem dX11_measurePeaks_73 : decode cX11_measurePeaks 73 = .ok (.goto (-57), 3) := dX11_measurePeaks_70_k.2.1
theorem dX11_measurePeaks_76 : decode cX11_measurePeaks 76 = .ok (.return_, 1) := dX11_measurePeaks_70_k.2.2
theorem dX11_peaksPass_0_k : decode cX11_peaksPass 0 = .ok (.aload_n 0, 1) ∧ decode cX11_peaksPass 1 = .ok (.getfield 40, 3) ∧ decode cX11_peaksPass 4 = .ok (.iload_n 1, 1) ∧ decode cX11_peaksPass 5 = .ok (.iload_n 2, 1) ∧ decode cX11_peaksPass 6 = .ok (.aload_n 0, 1) ∧ decode cX11_peaksPass 7 = .ok (.getfield 10, 3) ∧ decode cX11_peaksPass 10 = .ok (.getfield 79, 3) ∧ decode cX11_peaksPass 13 = .ok (.iconst 2, 1) ∧ decode cX11_peaksPass 14 = .ok (.invokevirtual 157, 3) ∧ decode cX11_peaksPass 17 = .ok (.invokevirtual 261, 3) ∧ decode cX11_peaksPass 20 = .ok (.aload_n 0, 1) ∧ decode cX11_peaksPass 21 = .ok (.getfield 40, 3) ∧ decode cX11_peaksPass 24 = .ok (.aload_n 0, 1) ∧ decode cX11_peaksPass 25 = .ok (.getfield 51, 3) ∧ decode cX11_peaksPass 28 = .ok (.invokevirtual 270, 3) ∧ decode cX11_peaksPass 31 = .ok (.ifCond .ne 7, 3) := by decide +kernel
theorem dX11_peaksPass_0 : decode cX11_peaksPass 0 = .ok (.aload_n 0, 1) := dX11_peaksPass_0_k.1
theorem dX11_peaksPass_1 : decode cX11_peaksPass 1 = .ok (.getfield 40, 3) := dX11_peaksPass_0_k.2.1
theorem dX11_peaksPass_4 : decode cX11_peaksPass 4 = .ok (.iload_n 1, 1) := dX11_peaksPass_0_k.2.2.1
theorem dX11_peaksPass_5 : decode cX11_peaksPass 5 = .ok (.iload_n 2, 1) := dX11_peaksPass_0_k.2.2.2.1
theorem dX11_peaksPass_6 : decode cX11_peaksPass 6 = .ok (.aload_n 0, 1) := dX11_peaksPass_0_k.2.2.2.2.1
theorem dX11_peaksPass_7 : decode cX11_peaksPass 7 = .ok (.getfield 10, 3) := dX11_peaksPass_0_k.2.2.2.2.2.1
theorem dX11_peaksPass_10 : decode cX11_peaksPass 10 = .ok (.getfield 79, 3) := dX11_peaksPass_0_k.2.2.2.2.2.2.1
theorem dX11_peaksPass_13 : decode cX11_peaksPass 13 = .ok (.iconst 2, 1) := dX11_peaksPass_0_k.2.2.2.2.2.2.2.1
theorem dX11_peaksPass_14 : decode cX11_peaksPass 14 = .ok (.invokevirtual 157, 3) := dX11_peaksPass_0_k.2.2.2.2.2.2.2.2.1
theorem dX11_peaksPass_17 : decode cX11_peaksPass 17 = .ok (.invokevirtual 261, 3) := dX11_peaksPass_0_k.2.2.2.2.2.2.2.2.2.1
theorem dX11_peaksPass_20 : decode cX11_peaksPass 20 = .ok (.aload_n 0, 1) := dX11_peaksPass_0_k.2.2.2.2.2.2.2.2.2.2.1
theorem dX11_peaksPass_21 : decode cX11_peaksPass 21 = .ok (.getfield 40, 3) := dX11_peaksPass_0_k.2.2.2.2.2.2.2.2.2.2.2.1
theorem dX11_peaksPass_24 : decode cX11_peaksPass 24 = .ok (.aload_n 0, 1) := dX11_peaksPass_0_k.2.2.2.2.2.2.2.2.2.2.2.2.1
theorem dX11_peaksPass_25 : decode cX11_peaksPass 25 = .ok (.getfield 51, 3) := dX11_peaksPass_0_k.2.2.2.2.2.2.2.2.2.2.2.2.2.1
theorem dX11_peaksPass_28 : decode cX11_peaksPass 28 = .ok (.invokevirtual 270, 3) := dX11_peaksPass_0_k.2.2.2.2.2.2.2.2.2.2.2.2.2.2.1
theorem dX11_peaksPass_31 : decode cX11_peaksPass 31 = .ok (.ifCond .ne 7, 3) := dX11_peaksPass_0_k.2.2.2.2.2.2.2.2.2.2.2.2.2.2.2
theorem dX11_peaksPass_34_k : decode cX11_peaksPass 34 = .ok (.iconst 1, 1) ∧ decode cX11_peaksPass 35 = .ok (.goto 4, 3) ∧ decode cX11_peaksPass 38 = .ok (.iconst 0, 1) ∧ decode cX11_peaksPass 39 = .ok (.ireturn, 1) := by decide +kernel
theorem dX11_peaksPass_34 : decode cX11_peaksPass 34 = .ok (.iconst 1, 1) := dX11_peaksPass_34_k.1
theorem dX11_peaksPass_35 : decode cX11_peaksPass 35 = .ok (.goto 4, 3) := dX11_peaksPass_34_k.2.1
theorem dX11_peaksPass_38 : decode cX11_peaksPass 38 = .ok (.iconst 0, 1) := dX11_peaksPass_34_k.2.2.1
theorem dX11_peaksPass_39 : decode cX11_peaksPass 39 = .ok (.ireturn, 1) := dX11_peaksPass_34_k.2.2.2
theorem dJ6_bitCount_0f7a4_0_k : decode cJ6_bitCount_0f7a4 0 = .ok (.iload_n 0, 1) ∧ decode cJ6_bitCount_0f7a4 1 = .ok (.iload_n 0, 1) ∧ decode cJ6_bitCount_0f7a4 2 = .ok (.iconst 1, 1) ∧ decode cJ6_bitCount_0f7a4 3 = .ok (.iushr, 1) ∧ decode cJ6_bitCount_0f7a4 4 = .ok (.ldc_w 265, 3) ∧ decode cJ6_bitCount_0f7a4 7 = .ok (.iand, 1) ∧ decode cJ6_bitCount_0f7a4 8 = .ok (.isub, 1) ∧ decode cJ6_bitCount_0f7a4 9 = .ok (.istore_n 0, 1) ∧ decode cJ6_bitCount_0f7a4 10 = .ok (.iload_n 0, 1) ∧ decode cJ6_bitCount_0f7a4 11 = .ok (.ldc_w 266, 3) ∧ decode cJ6_bitCount_0f7a4 14 = .ok (.iand, 1) ∧ decode cJ6_bitCount_0f7a4 15 = .ok (.iload_n 0, 1) ∧ decode cJ6_bitCount_0f7a4 16 = .ok (.iconst 2, 1) ∧ decode cJ6_bitCount_0f7a4 17 = .ok (.iushr, 1) ∧ decode cJ6_bitCount_0f7a4 18 = .ok (.ldc_w 266, 3) ∧ decode cJ6_bitCount_0f7a4 21 = .ok (.iand, 1) := by decide +kernel
theorem dJ6_bitCount_0f7a4_0 : decode cJ6_bitCount_0f7a4 0 = .ok (.iload_n 0, 1) := dJ6_bitCount_0f7a4_0_k.1
theorem dJ6_bitCount_0f7a4_1 : decode cJ6_bitCount_0f7a4 1 = .ok (.iload_n 0, 1) := dJ6_bitCount_0f7a4_0_k.2.1
theorem dJ6_bitCount_0f7a4_2 : decode cJ6_bitCount_0f7a4 2 = .ok (.iconst 1, 1) := dJ6_bitCount_0f7a4_0_k.2.2.1
theorem dJ6_bitCount_0f7a4_3 : decode cJ6_bitCount_0f7a4 3 = .ok (.iushr, 1) := dJ6_bitCount_0f7a4_0_k.2.2.2.1
theorem dJ6_bitCount_0f7a4_4 : decode cJ6_bitCount_0f7a4 4 = .ok (.ldc_w 265, 3) := dJ6_bitCount_0f7a4_0_k.2.2.2.2.1
theorem dJ6_bitCount_0f7a4_7 : decode cJ6_bitCount_0f7a4 7 = .ok (.iand, 1) := dJ6_bitCount_0f7a4_0_k.2.2.2.2.2.1
theorem dJ6_bitCount_0f7a4_8 : decode cJ6_bitCount_0f7a4 8 = .ok (.isub, 1) := dJ6_bitCount_0f7a4_0_k.2.2.2.2.2.2.1
theorem dJ6_bitCount_0f7a4_9 : decode cJ6_bitCount_0f7a4 9 = .ok (.istore_n 0, 1) := dJ6_bitCount_0f7a4_0_k.2.2.2.2.2.2.2.1
theorem dJ6_bitCount_0f7a4_10 : decode cJ6_bitCount_0f7a4 10 = .ok (.iload_n 0, 1) := dJ6_bitCount_0f7a4_0_k.2.2.2.2.2.2.2.2.1
theorem dJ6_bitCount_0f7a4_11 : decode cJ6_bitCount_0f7a4 11 = .ok (.ldc_w 266, 3) := dJ6_bitCount_0f7a4_0_k.2.2.2.2.2.2.2.2.2.1
theorem dJ6_bitCount_0f7a4_14 : decode cJ6_bitCount_0f7a4 14 = .ok (.iand, 1) := dJ6_bitCount_0f7a4_0_k.2.2.2.2.2.2.2.2.2.2.1
theorem dJ6_bitCount_0f7a4_15 : decode cJ6_bitCount_0f7a4 15 = .ok (.iload_n 0, 1) := dJ6_bitCount_0f7a4_0_k.2.2.2.2.2.2.2.2.2.2.2.1
theorem dJ6_bitCount_0f7a4_16 : decode cJ6_bitCount_0f7a4 16 = .ok (.iconst 2, 1) := dJ6_bitCount_0f7a4_0_k.2.2.2.2.2.2.2.2.2.2.2.2.1
theorem dJ6_bitCount_0f7a4_17 : decode cJ6_bitCount_0f7a4 17 = .ok (.iushr, 1) := dJ6_bitCount_0f7a4_0_k.2.2.2.2.2.2.2.2.2.2.2.2.2.1
theorem dJ6_bitCount_0f7a4_18 : decode cJ6_bitCount_0f7a4 18 = .ok (.ldc_w 266, 3) := dJ6_bitCount_0f7a4_0_k.2.2.2.2.2.2.2.2.2.2.2.2.2.2.1
theorem dJ6_bitCount_0f7a4_21 : decode cJ6_bitCount_0f7a4 21 = .ok (.iand, 1) := dJ6_bitCount_0f7a4_0_k.2.2.2.2.2.2.2.2.2.2.2.2.2.2.2
theorem dJ6_bitCount_0f7a4_22_k : decode cJ6_bitCount_0f7a4 22 = .ok (.iadd, 1) ∧ decode cJ6_bitCount_0f7a4 23 = .ok (.istore_n 0, 1) ∧ decode cJ6_bitCount_0f7a4 24 = .ok (.iload_n 0, 1) ∧ decode cJ6_bitCount_0f7a4 25 = .ok (.iload_n 0, 1) ∧ decode cJ6_bitCount_0f7a4 26 = .ok (.iconst 4, 1) ∧ decode cJ6_bitCount_0f7a4 27 = .ok (.iushr, 1) ∧ decode cJ6_bitCount_0f7a4 28 = .ok (.iadd, 1) ∧ decode cJ6_bitCount_0f7a4 29 = .ok (.ldc_w 267, 3) ∧ decode cJ6_bitCount_0f7a4 32 = .ok (.iand, 1) ∧ decode cJ6_bitCount_0f7a4 33 = .ok (.istore_n 0, 1) ∧ decode cJ6_bitCount_0f7a4 34 = .ok (.iload_n 0, 1) ∧ decode cJ6_bitCount_0f7a4 35 = .ok (.iload_n 0, 1) ∧ decode cJ6_bitCount_0f7a4 36 = .ok (.bipush 8, 2) ∧ decode cJ6_bitCount_0f7a4 38 = .ok (.iushr, 1) ∧ decode cJ6_bitCount_0f7a4 39 = .ok (.iadd, 1) ∧ decode cJ6_bitCount_0f7a4 40 = .ok (.istore_n 0, 1) := by decide +kernel
theorem dJ6_bitCount_0f7a4_22 : decode cJ6_bitCount_0f7a4 22 = .ok (.iadd, 1) := dJ6_bitCount_0f7a4_22_k.1
theorem dJ6_bitCount_0f7a4_23 : decode cJ6_bitCount_0f7a4 23 = .ok (.istore_n 0, 1) := dJ6_bitCount_0f7a4_22_k.2.1
theorem dJ6_bitCount_0f7a4_24 : decode cJ6_bitCount_0f7a4 24 = .ok (.iload_n 0, 1) := dJ6_bitCount_0f7a4_22_k.2.2.1
theorem dJ6_bitCount_0f7a4_25 : decode cJ6_bitCount_0f7a4 25 = .ok (.iload_n 0, 1) := dJ6_bitCount_0f7a4_22_k.2.2.2.1
theorem dJ6_bitCount_0f7a4_26 : decode cJ6_bitCount_0f7a4 26 = .ok (.iconst 4, 1) := dJ6_bitCount_0f7a4_22_k.2.2.2.2.1
theorem dJ6_bitCount_0f7a4_27 : decode cJ6_bitCount_0f7a4 27 = .ok (.iushr, 1) := dJ6_bitCount_0f7a4_22_k.2.2.2.2.2.1
theorem dJ6_bitCount_0f7a4_28 : decode cJ6_bitCount_0f7a4 28 = .ok (.iadd, 1) := dJ6_bitCount_0f7a4_22_k.2.2.2.2.2.2.1
theorem dJ6_bitCount_0f7a4_29 : decode cJ6_bitCount_0f7a4 29 = .ok (.ldc_w 267, 3) := dJ6_bitCount_0f7a4_22_k.2.2.2.2.2.2.2.1
theorem dJ6_bitCount_0f7a4_32 : decode cJ6_bitCount_0f7a4 32 = .ok (.iand, 1) := dJ6_bitCount_0f7a4_22_k.2.2.2.2.2.2.2.2.1
theorem dJ6_bitCount_0f7a4_33 : decode cJ6_bitCount_0f7a4 33 = .ok (.istore_n 0, 1) := dJ6_bitCount_0f7a4_22_k.2.2.2.2.2.2.2.2.2.1
theorem dJ6_bitCount_0f7a4_34 : decode cJ6_bitCount_0f7a4 34 = .ok (.iload_n 0, 1) := dJ6_bitCount_0f7a4_22_k.2.2.2.2.2.2.2.2.2.2.1
theorem dJ6_bitCount_0f7a4_35 : decode cJ6_bitCount_0f7a4 35 = .ok (.iload_n 0, 1) := dJ6_bitCount_0f7a4_22_k.2.2.2.2.2.2.2.2.2.2.2.1
theorem dJ6_bitCount_0f7a4_36 : decode cJ6_bitCount_0f7a4 36 = .ok (.bipush 8, 2) := dJ6_bitCount_0f7a4_22_k.2.2.2.2.2.2.2.2.2.2.2.2.1
theorem dJ6_bitCount_0f7a4_38 : decode cJ6_bitCount_0f7a4 38 = .ok (.iushr, 1) := dJ6_bitCount_0f7a4_22_k.2.2.2.2.2.2.2.2.2.2.2.2.2.1
theorem dJ6_bitCount_0f7a4_39 : decode cJ6_bitCount_0f7a4 39 = .ok (.iadd, 1) := dJ6_bitCount_0f7a4_22_k.2.2.2.2.2.2.2.2.2.2.2.2.2.2.1
theorem dJ6_bitCount_0f7a4_40 : decode cJ6_bitCount_0f7a4 40 = .ok (.istore_n 0, 1) := dJ6_bitCount_0f7a4_22_k.2.2.2.2.2.2.2.2.2.2.2.2.2.2.2
theorem dJ6_bitCount_0f7a4_41_k : decode cJ6_bitCount_0f7a4 41 = .ok (.iload_n 0, 1) ∧ decode cJ6_bitCount_0f7a4 42 = .ok (.iload_n 0, 1) ∧ decode cJ6_bitCount_0f7a4 43 = .ok (.bipush 16, 2) ∧ decode cJ6_bitCount_0f7a4 45 = .ok (.iushr, 1) ∧ decode cJ6_bitCount_0f7a4 46 = .ok (.iadd, 1) ∧ decode cJ6_bitCount_0f7a4 47 = .ok (.istore_n 0, 1) ∧ decode cJ6_bitCount_0f7a4 48 = .ok (.iload_n 0, 1) ∧ decode cJ6_bitCount_0f7a4 49 = .ok (.bipush 63, 2) ∧ decode cJ6_bitCount_0f7a4 51 = .ok (.iand, 1) ∧ decode cJ6_bitCount_0f7a4 52 = .ok (.ireturn, 1) := by decide +kernel
theorem dJ6_bitCount_0f7a4_41 : decode cJ6_bitCount_0f7a4 41 = .ok (.iload_n 0, 1) := dJ6_bitCount_0f7a4_41_k.1
theorem dJ6_bitCount_0f7a4_42 : decode cJ6_bitCount_0f7a4 42 = .ok (.iload_n 0, 1) := dJ6_bitCount_0f7a4_41_k.2.1
theorem dJ6_bitCount_0f7a4_43 : decode cJ6_bitCount_0f7a4 43 = .ok (.bipush 16, 2) := dJ6_bitCount_0f7a4_41_k.2.2.1
theorem dJ6_bitCount_0f7a4_45 : decode cJ6_bitCount_0f7a4 45 = .ok (.iushr, 1) := dJ6_bitCount_0f7a4_41_k.2.2.2.1
theorem dJ6_bitCount_0f7a4_46 : decode cJ6_bitCount_0f7a4 46 = .ok (.iadd, 1) := dJ6_bitCount_0f7a4_41_k.2.2.2.2.1
theorem dJ6_bitCount_0f7a4_47 : decode cJ6_bitCount_0f7a4 47 = .ok (.istore_n 0, 1) := dJ6_bitCount_0f7a4_41_k.2.2.2.2.2.1
theorem dJ6_bitCount_0f7a4_48 : decode cJ6_bitCount_0f7a4 48 = .ok (.iload_n 0, 1) := dJ6_bitCount_0f7a4_41_k.2.2.2.2.2.2.1
theorem dJ6_bitCount_0f7a4_49 : decode cJ6_bitCount_0f7a4 49 = .ok (.bipush 63, 2) := dJ6_bitCount_0f7a4_41_k.2.2.2.2.2.2.2.1
theorem dJ6_bitCount_0f7a4_51 : decode cJ6_bitCount_0f7a4 51 = .ok (.iand, 1) := dJ6_bitCount_0f7a4_41_k.2.2.2.2.2.2.2.2.1
theorem dJ6_bitCount_0f7a4_52 : decode cJ6_bitCount_0f7a4 52 = .ok (.ireturn, 1) := dJ6_bitCount_0f7a4_41_k.2.2.2.2.2.2.2.2.2
theorem dJ9_max_7cf53_0_k : decode cJ9_max_7cf53 0 = .ok (.iload_n 0, 1) ∧ decode cJ9_max_7cf53 1 = .ok (.iload_n 1, 1) ∧ decode cJ9_max_7cf53 2 = .ok (.if_icmp .lt 7, 3) ∧ decode cJ9_max_7cf53 5 = .ok (.iload_n 0, 1) ∧ decode cJ9_max_7cf53 6 = .ok (.goto 4, 3) ∧ decode cJ9_max_7cf53 9 = .ok (.iload_n 1, 1) ∧ decode cJ9_max_7cf53 10 = .ok (.ireturn, 1) := by decide +kernel
theorem dJ9_max_7cf53_0 : decode cJ9_max_7cf53 0 = .ok (.iload_n 0, 1) := dJ9_max_7cf53_0_k.1
theorem dJ9_max_7cf53_1 : decode cJ9_max_7cf53 1 = .ok (.iload_n 1, 1) := dJ9_max_7cf53_0_k.2.1
theorem dJ9_max_7cf53_2 : decode cJ9_max_7cf53 2 = .ok (.if_icmp .lt 7, 3) := dJ9_max_7cf53_0_k.2.2.1
theorem dJ9_max_7cf53_5 : decode cJ9_max_7cf53 5 = .ok (.iload_n 0, 1) := dJ9_max_7cf53_0_k.2.2.2.1
theorem dJ9_max_7cf53_6 : decode cJ9_max_7cf53 6 = .ok (.goto 4, 3) := dJ9_max_7cf53_0_k.2.2.2.2.1
theorem dJ9_max_7cf53_9 : decode cJ9_max_7cf53 9 = .ok (.iload_n 1, 1) := dJ9_max_7cf53_0_k.2.2.2.2.2.1
theorem dJ9_max_7cf53_10 : decode cJ9_max_7cf53 10 = .ok (.ireturn, 1) := dJ9_max_7cf53_0_k.2.2.2.2.2.2
theorem dJ9_min_7cf53_0_k : decode cJ9_min_7cf53 0 = .ok (.iload_n 0, 1) ∧ decode cJ9_min_7cf53 1 = .ok (.iload_n 1, 1) ∧ decode cJ9_min_7cf53 2 = .ok (.if_icmp .gt 7, 3) ∧ decode cJ9_min_7cf53 5 = .ok (.iload_n 0, 1) ∧ decode cJ9_min_7cf53 6 = .ok (.goto 4, 3) ∧ decode cJ9_min_7cf53 9 = .ok (.iload_n 1, 1) ∧ decode cJ9_min_7cf53 10 = .ok (.ireturn, 1) := by decide +kernel
theorem dJ9_min_7cf53_0 : decode cJ9_min_7cf53 0 = .ok (.iload_n 0, 1) := dJ9_min_7cf53_0_k.1
theorem dJ9_min_7cf53_1 : decode cJ9_min_7cf53 1 = .ok (.iload_n 1, 1) := dJ9_min_7cf53_0_k.2.1
theorem dJ9_min_7cf53_2 : decode cJ9_min_7cf53 2 = .ok (.if_icmp .gt 7, 3) := dJ9_min_7cf53_0_k.2.2.1
theorem dJ9_min_7cf53_5 : decode cJ9_min_7cf53 5 = .ok (.iload_n 0, 1) := dJ9_min_7cf53_0_k.2.2.2.1
theorem dJ9_min_7cf53_6 : decode cJ9_min_7cf53 6 = .ok (.goto 4, 3) := dJ9_min_7cf53_0_k.2.2.2.2.1
theorem dJ9_min_7cf53_9 : decode cJ9_min_7cf53 9 = .ok (.iload_n 1, 1) := dJ9_min_7cf53_0_k.2.2.2.2.2.1
theorem dJ9_min_7cf53_10 : decode cJ9_min_7cf53 10 = .ok (.ireturn, 1) := dJ9_min_7cf53_0_k.2.2.2.2.2.2
theorem dJ0_length_8abf5_0_k : decode cJ0_length_8abf5 0 = .ok (.aload_n 0, 1) ∧ decode cJ0_length_8abf5 1 = .ok (.getfield 9, 3) ∧ decode cJ0_length_8abf5 4 = .ok (.arraylength, 1) ∧ decode cJ0_length_8abf5 5 = .ok (.aload_n 0, 1) ∧ decode cJ0_length_8abf5 6 = .ok (.invokevirtual 335, 3) ∧ decode cJ0_length_8abf5 9 = .ok (.ishr, 1) ∧ decode cJ0_length_8abf5 10 = .ok (.ireturn, 1) := by decide +kernel
theorem dJ0_length_8abf5_0 : decode cJ0_length_8abf5 0 = .ok (.aload_n 0, 1) := dJ0_length_8abf5_0_k.1
theorem dJ0_length_8abf5_1 : decode cJ0_length_8abf5 1 = .ok (.getfield 9, 3) := dJ0_length_8abf5_0_k.2.1
theorem dJ0_length_8abf5_4 : decode cJ0_length_8abf5 4 = .ok (.arraylength, 1) := dJ0_length_8abf5_0_k.2.2.1
theorem dJ0_length_8abf5_5 : decode cJ0_length_8abf5 5 = .ok (.aload_n 0, 1) := dJ0_length_8abf5_0_k.2.2.2.1
theorem dJ0_length_8abf5_6 : decode cJ0_length_8abf5 6 = .ok (.invokevirtual 335, 3) := dJ0_length_8abf5_0_k.2.2.2.2.1
theorem dJ0_length_8abf5_9 : decode cJ0_length_8abf5 9 = .ok (.ishr, 1) := dJ0_length_8abf5_0_k.2.2.2.2.2.1
theorem dJ0_length_8abf5_10 : decode cJ0_length_8abf5 10 = .ok (.ireturn, 1) := dJ0_length_8abf5_0_k.2.2.2.2.2.2
theorem dJ0_charAt_5068e_0_k : decode cJ0_charAt_5068e 0 = .ok (.aload_n 0, 1) ∧ decode cJ0_charAt_5068e 1 = .ok (.invokevirtual 492, 3) ∧ decode cJ0_charAt_5068e 4 = .ok (.ifCond .eq 12, 3) ∧ decode cJ0_charAt_5068e 7 = .ok (.aload_n 0, 1) ∧ decode cJ0_charAt_5068e 8 = .ok (.getfield 9, 3) ∧ decode cJ0_charAt_5068e 11 = .ok (.iload_n 1, 1) ∧ decode cJ0_charAt_5068e 12 = .ok (.invokestatic 495, 3) ∧ decode cJ0_charAt_5068e 15 = .ok (.ireturn, 1) ∧ decode cJ0_charAt_5068e 16 = .ok (.aload_n 0, 1) ∧ decode cJ0_charAt_5068e 17 = .ok (.getfield 9, 3) ∧ decode cJ0_charAt_5068e 20 = .ok (.iload_n 1, 1) ∧ decode cJ0_charAt_5068e 21 = .ok (.invokestatic 498, 3) ∧ decode cJ0_charAt_5068e 24 = .ok (.ireturn, 1) := by decide +kernel
theorem dJ0_charAt_5068e_0 : decode cJ0_charAt_5068e 0 = .ok (.aload_n 0, 1) := dJ0_charAt_5068e_0_k.1
theorem dJ0_charAt_5068e_1 : decode cJ0_charAt_5068e 1 = .ok (.invokevirtual 492, 3) := dJ0_charAt_5068e_0_k.2.1
theorem dJ0_charAt_5068e_4 : decode cJ0_charAt_5068e 4 = .ok (.ifCond .eq 12, 3) := dJ0_charAt_5068e_0_k.2.2.1
theorem dJ0_charAt_5068e_7 : decode cJ0_charAt_5068e 7 = .ok (.aload_n 0, 1) := dJ0_charAt_5068e_0_k.2.2.2.1
theorem dJ0_charAt_5068e_8 : decode cJ0_charAt_5068e 8 = .ok (.getfield 9, 3) := dJ0_charAt_5068e_0_k.2.2.2.2.1
theorem dJ0_charAt_5068e_11 : decode cJ0_charAt_5068e 11 = .ok (.iload_n 1, 1) := dJ0_charAt_5068e_0_k.2.2.2.2.2.1
theorem dJ0_charAt_5068e_12 : decode cJ0_charAt_5068e 12 = .ok (.invokestatic 495, 3) := dJ0_charAt_5068e_0_k.2.2.2.2.2.2.1
theorem dJ0_charAt_5068e_15 : decode cJ0_charAt_5068e 15 = .ok (.ireturn, 1) := dJ0_charAt_5068e_0_k.2.2.2.2.2.2.2.1
theorem dJ0_charAt_5068e_16 : decode cJ0_charAt_5068e 16 = .ok (.aload_n 0, 1) := dJ0_charAt_5068e_0_k.2.2.2.2.2.2.2.2.1
theorem dJ0_charAt_5068e_17 : decode cJ0_charAt_5068e 17 = .ok (.getfield 9, 3) := dJ0_charAt_5068e_0_k.2.2.2.2.2.2.2.2.2.1
theorem dJ0_charAt_5068e_20 : decode cJ0_charAt_5068e 20 = .ok (.iload_n 1, 1) := dJ0_charAt_5068e_0_k.2.2.2.2.2.2.2.2.2.2.1
theorem dJ0_charAt_5068e_21 : decode cJ0_charAt_5068e 21 = .ok (.invokestatic 498, 3) := dJ0_charAt_5068e_0_k.2.2.2.2.2.2.2.2.2.2.2.1
theorem dJ0_charAt_5068e_24 : decode cJ0_charAt_5068e 24 = .ok (.ireturn, 1) := dJ0_charAt_5068e_0_k.2.2.2.2.2.2.2.2.2.2.2.2
theorem dJ0_coder_7d493_0_k : decode cJ0_coder_7d493 0 = .ok (.getstatic 38, 3) ∧ decode cJ0_coder_7d493 3 = .ok (.ifCond .eq 10, 3) ∧ decode cJ0_coder_7d493 6 = .ok (.aload_n 0, 1) ∧ decode cJ0_coder_7d493 7 = .ok (.getfield 15, 3) ∧ decode cJ0_coder_7d493 10 = .ok (.goto 4, 3) ∧ decode cJ0_coder_7d493 13 = .ok (.iconst 1, 1) ∧ decode cJ0_coder_7d493 14 = .ok (.ireturn, 1) := by decide +kernel
theorem dJ0_coder_7d493_0 : decode cJ0_coder_7d493 0 = .ok (.getstatic 38, 3) := dJ0_coder_7d493_0_k.1
theorem dJ0_coder_7d493_3 : decode cJ0_coder_7d493 3 = .ok (.ifCond .eq 10, 3) := dJ0_coder_7d493_0_k.2.1
theorem dJ0_coder_7d493_6 : decode cJ0_coder_7d493 6 = .ok (.aload_n 0, 1) := dJ0_coder_7d493_0_k.2.2.1
theorem dJ0_coder_7d493_7 : decode cJ0_coder_7d493 7 = .ok (.getfield 15, 3) := dJ0_coder_7d493_0_k.2.2.2.1
theorem dJ0_coder_7d493_10 : decode cJ0_coder_7d493 10 = .ok (.goto 4, 3) := dJ0_coder_7d493_0_k.2.2.2.2.1
theorem dJ0_coder_7d493_13 : decode cJ0_coder_7d493 13 = .ok (.iconst 1, 1) := dJ0_coder_7d493_0_k.2.2.2.2.2.1
theorem dJ0_coder_7d493_14 : decode cJ0_coder_7d493 14 = .ok (.ireturn, 1) := dJ0_coder_7d493_0_k.2.2.2.2.2.2
theorem dJ0_isLatin1_aae02_0_k : decode cJ0_isLatin1_aae02 0 = .ok (.getstatic 38, 3) ∧ decode cJ0_isLatin1_aae02 3 = .ok (.ifCond .eq 14, 3) ∧ decode cJ0_isLatin1_aae02 6 = .ok (.aload_n 0, 1) ∧ decode cJ0_isLatin1_aae02 7 = .ok (.getfield 15, 3) ∧ decode cJ0_isLatin1_aae02 10 = .ok (.ifCond .ne 7, 3) ∧ decode cJ0_isLatin1_aae02 13 = .ok (.iconst 1, 1) ∧ decode cJ0_isLatin1_aae02 14 = .ok (.goto 4, 3) ∧ decode cJ0_isLatin1_aae02 17 = .ok (.iconst 0, 1) ∧ decode cJ0_isLatin1_aae02 18 = .ok (.ireturn, 1) := by decide +kernel
theorem dJ0_isLatin1_aae02_0 : decode cJ0_isLatin1_aae02 0 = .ok (.getstatic 38, 3) := dJ0_isLatin1_aae02_0_k.1
theorem dJ0_isLatin1_aae02_3 : decode cJ0_isLatin1_aae02 3 = .ok (.ifCond .eq 14, 3) := dJ0_isLatin1_aae02_0_k.2.1
theorem dJ0_isLatin1_aae02_6 : decode cJ0_isLatin1_aae02 6 = .ok (.aload_n 0, 1) := dJ0_isLatin1_aae02_0_k.2.2.1
theorem dJ0_isLatin1_aae02_7 : decode cJ0_isLatin1_aae02 7 = .ok (.getfield 15, 3) := dJ0_isLatin1_aae02_0_k.2.2.2.1
theorem dJ0_isLatin1_aae02_10 : decode cJ0_isLatin1_aae02 10 = .ok (.ifCond .ne 7, 3) := dJ0_isLatin1_aae02_0_k.2.2.2.2.1
theorem dJ0_isLatin1_aae02_13 : decode cJ0_isLatin1_aae02 13 = .ok (.iconst 1, 1) := dJ0_isLatin1_aae02_0_k.2.2.2.2.2.1
theorem dJ0_isLatin1_aae02_14 : decode cJ0_isLatin1_aae02 14 = .ok (.goto 4, 3) := dJ0_isLatin1_aae02_0_k.2.2.2.2.2.2.1
theorem dJ0_isLatin1_aae02_17 : decode cJ0_isLatin1_aae02 17 = .ok (.iconst 0, 1) := dJ0_isLatin1_aae02_0_k.2.2.2.2.2.2.2.1
theorem dJ0_isLatin1_aae02_18 : decode cJ0_isLatin1_aae02 18 = .ok (.ireturn, 1) := dJ0_isLatin1_aae02_0_k.2.2.2.2.2.2.2.2
theorem dJ0_checkIndex_df160_0_k : decode cJ0_checkIndex_df160 0 = .ok (.iload_n 0, 1) ∧ decode cJ0_checkIndex_df160 1 = .ok (.iload_n 1, 1) ∧ decode cJ0_checkIndex_df160 2 = .ok (.getstatic 1053, 3) ∧ decode cJ0_checkIndex_df160 5 = .ok (.invokestatic 1059, 3) ∧ decode cJ0_checkIndex_df160 8 = .ok (.pop, 1) ∧ decode cJ0_checkIndex_df160 9 = .ok (.return_, 1) := by decide +kernel
theorem dJ0_checkIndex_df160_0 : decode cJ0_checkIndex_df160 0 = .ok (.iload_n 0, 1) := dJ0_checkIndex_df160_0_k.1
theorem dJ0_checkIndex_df160_1 : decode cJ0_checkIndex_df160 1 = .ok (.iload_n 1, 1) := dJ0_checkIndex_df160_0_k.2.1
theorem dJ0_checkIndex_df160_2 : decode cJ0_checkIndex_df160 2 = .ok (.getstatic 1053, 3) := dJ0_checkIndex_df160_0_k.2.2.1
theorem dJ0_checkIndex_df160_5 : decode cJ0_checkIndex_df160 5 = .ok (.invokestatic 1059, 3) := dJ0_checkIndex_df160_0_k.2.2.2.1
theorem dJ0_checkIndex_df160_8 : decode cJ0_checkIndex_df160 8 = .ok (.pop, 1) := dJ0_checkIndex_df160_0_k.2.2.2.2.1
theorem dJ0_checkIndex_df160_9 : decode cJ0_checkIndex_df160 9 = .ok (.return_, 1) := dJ0_checkIndex_df160_0_k.2.2.2.2.2
theorem dJ1_charAt_3b067_0_k : decode cJ1_charAt_3b067 0 = .ok (.iload_n 1, 1) ∧ decode cJ1_charAt_3b067 1 = .ok (.aload_n 0, 1) ∧ decode cJ1_charAt_3b067 2 = .ok (.arraylength, 1) ∧ decode cJ1_charAt_3b067 3 = .ok (.invokestatic 9, 3) ∧ decode cJ1_charAt_3b067 6 = .ok (.aload_n 0, 1) ∧ decode cJ1_charAt_3b067 7 = .ok (.iload_n 1, 1) ∧ decode cJ1_charAt_3b067 8 = .ok (.baload, 1) ∧ decode cJ1_charAt_3b067 9 = .ok (.sipush 255, 3) ∧ decode cJ1_charAt_3b067 12 = .ok (.iand, 1) ∧ decode cJ1_charAt_3b067 13 = .ok (.i2c, 1) ∧ decode cJ1_charAt_3b067 14 = .ok (.ireturn, 1) := by decide +kernel
theorem dJ1_charAt_3b067_0 : decode cJ1_charAt_3b067 0 = .ok (.iload_n 1, 1) := dJ1_charAt_3b067_0_k.1
theorem dJ1_charAt_3b067_1 : decode cJ1_charAt_3b067 1 = .ok (.aload_n 0, 1) := dJ1_charAt_3b067_0_k.2.1
theorem dJ1_charAt_3b067_2 : decode cJ1_charAt_3b067 2 = .ok (.arraylength, 1) := dJ1_charAt_3b067_0_k.2.2.1
theorem dJ1_charAt_3b067_3 : decode cJ1_charAt_3b067 3 = .ok (.invokestatic 9, 3) := dJ1_charAt_3b067_0_k.2.2.2.1
theorem dJ1_charAt_3b067_6 : decode cJ1_charAt_3b067 6 = .ok (.aload_n 0, 1) := dJ1_charAt_3b067_0_k.2.2.2.2.1
theorem dJ1_charAt_3b067_7 : decode cJ1_charAt_3b067 7 = .ok (.iload_n 1, 1) := dJ1_charAt_3b067_0_k.2.2.2.2.2.1
theorem dJ1_charAt_3b067_8 : decode cJ1_charAt_3b067 8 = .ok (.baload, 1) := dJ1_charAt_3b067_0_k.2.2.2.2.2.2.1
theorem dJ1_charAt_3b067_9 : decode cJ1_charAt_3b067 9 = .ok (.sipush 255, 3) := dJ1_charAt_3b067_0_k.2.2.2.2.2.2.2.1
theorem dJ1_charAt_3b067_12 : decode cJ1_charAt_3b067 12 = .ok (.iand, 1) := dJ1_charAt_3b067_0_k.2.2.2.2.2.2.2.2.1
theorem dJ1_charAt_3b067_13 : decode cJ1_charAt_3b067 13 = .ok (.i2c, 1) := dJ1_charAt_3b067_0_k.2.2.2.2.2.2.2.2.2.1
theorem dJ1_charAt_3b067_14 : decode cJ1_charAt_3b067 14 = .ok (.ireturn, 1) := dJ1_charAt_3b067_0_k.2.2.2.2.2.2.2.2.2.2
theorem dJ2_getChar_3b067_0_k : decode cJ2_getChar_3b067 0 = .ok (.getstatic 44, 3) ∧ decode cJ2_getChar_3b067 3 = .ok (.ifCond .ne 25, 3) ∧ decode cJ2_getChar_3b067 6 = .ok (.iload_n 1, 1) ∧ decode cJ2_getChar_3b067 7 = .ok (.ifCond .lt 11, 3) ∧ decode cJ2_getChar_3b067 10 = .ok (.iload_n 1, 1) ∧ decode cJ2_getChar_3b067 11 = .ok (.aload_n 0, 1) ∧ decode cJ2_getChar_3b067 12 = .ok (.invokestatic 48, 3) ∧ decode cJ2_getChar_3b067 15 = .ok (.if_icmp .lt 13, 3) ∧ decode cJ2_getChar_3b067 18 = .ok (.new 52, 3) ∧ decode cJ2_getChar_3b067 21 = .ok (.dup, 1) ∧ decode cJ2_getChar_3b067 22 = .ok (.ldc 54, 2) ∧ decode cJ2_getChar_3b067 24 = .ok (.invokespecial 56, 3) ∧ decode cJ2_getChar_3b067 27 = .ok (.athrow, 1) ∧ decode cJ2_getChar_3b067 28 = .ok (.iload_n 1, 1) ∧ decode cJ2_getChar_3b067 29 = .ok (.iconst 1, 1) ∧ decode cJ2_getChar_3b067 30 = .ok (.ishl, 1) := by decide +kernel
theorem dJ2_getChar_3b067_0 : decode cJ2_getChar_3b067 0 = .ok (.getstatic 44, 3) := dJ2_getChar_3b067_0_k.1
theorem dJ2_getChar_3b067_3 : decode cJ2_getChar_3b067 3 = .ok (.ifCond .ne 25, 3) := dJ2_getChar_3b067_0_k.2.1
theorem dJ2_getChar_3b067_6 : decode cJ2_getChar_3b067 6 = .ok (.iload_n 1, 1) := dJ2_getChar_3b067_0_k.2.2.1
theorem dJ2_getChar_3b067_7 : decode cJ2_getChar_3b067 7 = .ok (.ifCond .lt 11, 3) := dJ2_getChar_3b067_0_k.2.2.2.1
theorem dJ2_getChar_3b067_10 : decode cJ2_getChar_3b067 10 = .ok (.iload_n 1, 1) := dJ2_getChar_3b067_0_k.2.2.2.2.1
theorem dJ2_getChar_3b067_11 : decode cJ2_getChar_3b067 11 = .ok (.aload_n 0, 1) := dJ2_getChar_3b067_0_k.2.2.2.2.2.1
theorem dJ2_getChar_3b067_12 : decode cJ2_getChar_3b067 12 = .ok (.invokestatic 48, 3) := dJ2_getChar_3b067_0_k.2.2.2.2.2.2.1
theorem dJ2_getChar_3b067_15 : decode cJ2_getChar_3b067 15 = .ok (.if_icmp .lt 13, 3) := dJ2_getChar_3b067_0_k.2.2.2.2.2.2.2.1
theorem dJ2_getChar_3b067_18 : decode cJ2_getChar_3b067 18 = .ok (.new 52, 3) := dJ2_getChar_3b067_0_k.2.2.2.2.2.2.2.2.1
theorem dJ2_getChar_3b067_21 : decode cJ2_getChar_3b067 21 = .ok (.dup, 1) := dJ2_getChar_3b067_0_k.2.2.2.2.2.2.2.2.2.1
theorem dJ2_getChar_3b067_22 : decode cJ2_getChar_3b067 22 = .ok (.ldc 54, 2) := dJ2_getChar_3b067_0_k.2.2.2.2.2.2.2.2.2.2.1
theorem dJ2_getChar_3b067_24 : decode cJ2_getChar_3b067 24 = .ok (.invokespecial 56, 3) := dJ2_getChar_3b067_0_k.2.2.2.2.2.2.2.2.2.2.2.1
theorem dJ2_getChar_3b067_27 : decode cJ2_getChar_3b067 27 = .ok (.athrow, 1) := dJ2_getChar_3b067_0_k.2.2.2.2.2.2.2.2.2.2.2.2.1
theorem dJ2_getChar_3b067_28 : decode cJ2_getChar_3b067 28 = .ok (.iload_n 1, 1) := dJ2_getChar_3b067_0_k.2.2.2.2.2.2.2.2.2.2.2.2.2.1
theorem dJ2_getChar_3b067_29 : decode cJ2_getChar_3b067 29 = .ok (.iconst 1, 1) := dJ2_getChar_3b067_0_k.2.2.2.2.2.2.2.2.2.2.2.2.2.2.1
theorem dJ2_getChar_3b067_30 : decode cJ2_getChar_3b067 30 = .ok (.ishl, 1) := dJ2_getChar_3b067_0_k.2.2.2.2.2.2.2.2.2.2.2.2.2.2.2
theorem dJ2_getChar_3b067_31_k : decode cJ2_getChar_3b067 31 = .ok (.istore_n 1, 1) ∧ decode cJ2_getChar_3b067 32 = .ok (.aload_n 0, 1) ∧ decode cJ2_getChar_3b067 33 = .ok (.iload_n 1, 1) ∧ decode cJ2_getChar_3b067 34 = .ok (.iinc 1 1, 3) ∧ decode cJ2_getChar_3b067 37 = .ok (.baload, 1) ∧ decode cJ2_getChar_3b067 38 = .ok (.sipush 255, 3) ∧ decode cJ2_getChar_3b067 41 = .ok (.iand, 1) ∧ decode cJ2_getChar_3b067 42 = .ok (.getstatic 59, 3) ∧ decode cJ2_getChar_3b067 45 = .ok (.ishl, 1) ∧ decode cJ2_getChar_3b067 46 = .ok (.aload_n 0, 1) ∧ decode cJ2_getChar_3b067 47 = .ok (.iload_n 1, 1) ∧ decode cJ2_getChar_3b067 48 = .ok (.baload, 1) ∧ decode cJ2_getChar_3b067 49 = .ok (.sipush 255, 3) ∧ decode cJ2_getChar_3b067 52 = .ok (.iand, 1) ∧ decode cJ2_getChar_3b067 53 = .ok (.getstatic 63, 3) ∧ decode cJ2_getChar_3b067 56 = .ok (.ishl, 1) := by decide +kernel
theorem dJ2_getChar_3b067_31 : decode cJ2_getChar_3b067 31 = .ok (.istore_n 1, 1) := dJ2_getChar_3b067_31_k.1
theorem dJ2_getChar_3b067_32 : decode cJ2_getChar_3b067 32 = .ok (.aload_n 0, 1) := dJ2_getChar_3b067_31_k.2.1
theorem dJ2_getChar_3b067_33 : decode cJ2_getChar_3b067 33 = .ok (.iload_n 1, 1) := dJ2_getChar_3b067_31_k.2.2.1
theorem dJ2_getChar_3b067_34 : decode cJ2_getChar_3b067 34 = .ok (.iinc 1 1, 3) := dJ2_getChar_3b067_31_k.2.2.2.1
theorem dJ2_getChar_3b067_37 : decode cJ2_getChar_3b067 37 = .ok (.baload, 1) := dJ2_getChar_3b067_31_k.2.2.2.2.1
theorem dJ2_getChar_3b067_38 : decode cJ2_getChar_3b067 38 = .ok (.sipush 255, 3) := dJ2_getChar_3b067_31_k.2.2.2.2.2.1
theorem dJ2_getChar_3b067_41 : decode cJ2_getChar_3b067 41 = .ok (.iand, 1) := dJ2_getChar_3b067_31_k.2.2.2.2.2.2.1
theorem dJ2_getChar_3b067_42 : decode cJ2_getChar_3b067 42 = .ok (.getstatic 59, 3) := dJ2_getChar_3b067_31_k.2.2.2.2.2.2.2.1
theorem dJ2_getChar_3b067_45 : decode cJ2_getChar_3b067 45 = .ok (.ishl, 1) := dJ2_getChar_3b067_31_k.2.2.2.2.2.2.2.2.1
theorem dJ2_getChar_3b067_46 : decode cJ2_getChar_3b067 46 = .ok (.aload_n 0, 1) := dJ2_getChar_3b067_31_k.2.2.2.2.2.2.2.2.2.1
theorem dJ2_getChar_3b067_47 : decode cJ2_getChar_3b067 47 = .ok (.iload_n 1, 1) := dJ2_getChar_3b067_31_k.2.2.2.2.2.2.2.2.2.2.1
theorem dJ2_getChar_3b067_48 : decode cJ2_getChar_3b067 48 = .ok (.baload, 1) := dJ2_getChar_3b067_31_k.2.2.2.2.2.2.2.2.2.2.2.1
theorem dJ2_getChar_3b067_49 : decode cJ2_getChar_3b067 49 = .ok (.sipush 255, 3) := dJ2_getChar_3b067_31_k.2.2.2.2.2.2.2.2.2.2.2.2.1
theorem dJ2_getChar_3b067_52 : decode cJ2_getChar_3b067 52 = .ok (.iand, 1) := dJ2_getChar_3b067_31_k.2.2.2.2.2.2.2.2.2.2.2.2.2.1
theorem dJ2_getChar_3b067_53 : decode cJ2_getChar_3b067 53 = .ok (.getstatic 63, 3) := dJ2_getChar_3b067_31_k.2.2.2.2.2.2.2.2.2.2.2.2.2.2.1
theorem dJ2_getChar_3b067_56 : decode cJ2_getChar_3b067 56 = .ok (.ishl, 1) := dJ2_getChar_3b067_31_k.2.2.2.2.2.2.2.2.2.2.2.2.2.2.2
theorem dJ2_getChar_3b067_57_k : decode cJ2_getChar_3b067 57 = .ok (.ior, 1) ∧ decode cJ2_getChar_3b067 58 = .ok (.i2c, 1) ∧ decode cJ2_getChar_3b067 59 = .ok (.ireturn, 1) := by decide +kernel
theorem dJ2_getChar_3b067_57 : decode cJ2_getChar_3b067 57 = .ok (.ior, 1) := dJ2_getChar_3b067_57_k.1
theorem dJ2_getChar_3b067_58 : decode cJ2_getChar_3b067 58 = .ok (.i2c, 1) := dJ2_getChar_3b067_57_k.2.1
theorem dJ2_getChar_3b067_59 : decode cJ2_getChar_3b067 59 = .ok (.ireturn, 1) := dJ2_getChar_3b067_57_k.2.2
theorem dJ2_length_9d52b_0_k : decode cJ2_length_9d52b 0 = .ok (.aload_n 0, 1) ∧ decode cJ2_length_9d52b 1 = .ok (.arraylength, 1) ∧ decode cJ2_length_9d52b 2 = .ok (.iconst 1, 1) ∧ decode cJ2_length_9d52b 3 = .ok (.ishr, 1) ∧ decode cJ2_length_9d52b 4 = .ok (.ireturn, 1) := by decide +kernel
theorem dJ2_length_9d52b_0 : decode cJ2_length_9d52b 0 = .ok (.aload_n 0, 1) := dJ2_length_9d52b_0_k.1
theorem dJ2_length_9d52b_1 : decode cJ2_length_9d52b 1 = .ok (.arraylength, 1) := dJ2_length_9d52b_0_k.2.1
theorem dJ2_length_9d52b_2 : decode cJ2_length_9d52b 2 = .ok (.iconst 1, 1) := dJ2_length_9d52b_0_k.2.2.1
theorem dJ2_length_9d52b_3 : decode cJ2_length_9d52b 3 = .ok (.ishr, 1) := dJ2_length_9d52b_0_k.2.2.2.1
theorem dJ2_length_9d52b_4 : decode cJ2_length_9d52b 4 = .ok (.ireturn, 1) := dJ2_length_9d52b_0_k.2.2.2.2
theorem dJ2_charAt_3b067_0_k : decode cJ2_charAt_3b067 0 = .ok (.iload_n 1, 1) ∧ decode cJ2_charAt_3b067 1 = .ok (.aload_n 0, 1) ∧ decode cJ2_charAt_3b067 2 = .ok (.invokestatic 67, 3) ∧ decode cJ2_charAt_3b067 5 = .ok (.aload_n 0, 1) ∧ decode cJ2_charAt_3b067 6 = .ok (.iload_n 1, 1) ∧ decode cJ2_charAt_3b067 7 = .ok (.invokestatic 71, 3) ∧ decode cJ2_charAt_3b067 10 = .ok (.ireturn, 1) := by decide +kernel
theorem dJ2_charAt_3b067_0 : decode cJ2_charAt_3b067 0 = .ok (.iload_n 1, 1) := dJ2_charAt_3b067_0_k.1
theorem dJ2_charAt_3b067_1 : decode cJ2_charAt_3b067 1 = .ok (.aload_n 0, 1) := dJ2_charAt_3b067_0_k.2.1
theorem dJ2_charAt_3b067_2 : decode cJ2_charAt_3b067 2 = .ok (.invokestatic 67, 3) := dJ2_charAt_3b067_0_k.2.2.1
theorem dJ2_charAt_3b067_5 : decode cJ2_charAt_3b067 5 = .ok (.aload_n 0, 1) := dJ2_charAt_3b067_0_k.2.2.2.1
theorem dJ2_charAt_3b067_6 : decode cJ2_charAt_3b067 6 = .ok (.iload_n 1, 1) := dJ2_charAt_3b067_0_k.2.2.2.2.1
theorem dJ2_charAt_3b067_7 : decode cJ2_charAt_3b067 7 = .ok (.invokestatic 71, 3) := dJ2_charAt_3b067_0_k.2.2.2.2.2.1
theorem dJ2_charAt_3b067_10 : decode cJ2_charAt_3b067 10 = .ok (.ireturn, 1) := dJ2_charAt_3b067_0_k.2.2.2.2.2.2
theorem dJ2_checkIndex_2214a_0_k : decode cJ2_checkIndex_2214a 0 = .ok (.iload_n 0, 1) ∧ decode cJ2_checkIndex_2214a 1 = .ok (.aload_n 1, 1) ∧ decode cJ2_checkIndex_2214a 2 = .ok (.invokestatic 48, 3) ∧ decode cJ2_checkIndex_2214a 5 = .ok (.invokestatic 414, 3) ∧ decode cJ2_checkIndex_2214a 8 = .ok (.return_, 1) := by decide +kernel
theorem dJ2_checkIndex_2214a_0 : decode cJ2_checkIndex_2214a 0 = .ok (.iload_n 0, 1) := dJ2_checkIndex_2214a_0_k.1
theorem dJ2_checkIndex_2214a_1 : decode cJ2_checkIndex_2214a 1 = .ok (.aload_n 1, 1) := dJ2_checkIndex_2214a_0_k.2.1
theorem dJ2_checkIndex_2214a_2 : decode cJ2_checkIndex_2214a 2 = .ok (.invokestatic 48, 3) := dJ2_checkIndex_2214a_0_k.2.2.1
theorem dJ2_checkIndex_2214a_5 : decode cJ2_checkIndex_2214a 5 = .ok (.invokestatic 414, 3) := dJ2_checkIndex_2214a_0_k.2.2.2.1
theorem dJ2_checkIndex_2214a_8 : decode cJ2_checkIndex_2214a 8 = .ok (.return_, 1) := dJ2_checkIndex_2214a_0_k.2.2.2.2
theorem dJ7_fill_d0a16_0_k : decode cJ7_fill_d0a16 0 = .ok (.iconst 0, 1) ∧ decode cJ7_fill_d0a16 1 = .ok (.istore_n 3, 1) ∧ decode cJ7_fill_d0a16 2 = .ok (.aload_n 0, 1) ∧ decode cJ7_fill_d0a16 3 = .ok (.arraylength, 1) ∧ decode cJ7_fill_d0a16 4 = .ok (.istore 4, 2) ∧ decode cJ7_fill_d0a16 6 = .ok (.iload_n 3, 1) ∧ decode cJ7_fill_d0a16 7 = .ok (.iload 4, 2) ∧ decode cJ7_fill_d0a16 9 = .ok (.if_icmp .ge 13, 3) ∧ decode cJ7_fill_d0a16 12 = .ok (.aload_n 0, 1) ∧ decode cJ7_fill_d0a16 13 = .ok (.iload_n 3, 1) ∧ decode cJ7_fill_d0a16 14 = .ok (.lload_n 1, 1) ∧ decode cJ7_fill_d0a16 15 = .ok (.lastore, 1) ∧ decode cJ7_fill_d0a16 16 = .ok (.iinc 3 1, 3) ∧ decode cJ7_fill_d0a16 19 = .ok (.goto (-13), 3) ∧ decode cJ7_fill_d0a16 22 = .ok (.return_, 1) := by decide +kernel
theorem dJ7_fill_d0a16_0 : decode cJ7_fill_d0a16 0 = .ok (.iconst 0, 1) := dJ7_fill_d0a16_0_k.1
theorem dJ7_fill_d0a16_1 : decode cJ7_fill_d0a16 1 = .ok (.istore_n 3, 1) := dJ7_fill_d0a16_0_k.2.1
theorem dJ7_fill_d0a16_2 : decode cJ7_fill_d0a16 2 = .ok (.aload_n 0, 1) := dJ7_fill_d0a16_0_k.2.2.1
theorem dJ7_fill_d0a16_3 : decode cJ7_fill_d0a16 3 = .ok (.arraylength, 1) := dJ7_fill_d0a16_0_k.2.2.2.1
theorem dJ7_fill_d0a16_4 : decode cJ7_fill_d0a16 4 = .ok (.istore 4, 2) := dJ7_fill_d0a16_0_k.2.2.2.2.1
theorem dJ7_fill_d0a16_6 : decode cJ7_fill_d0a16 6 = .ok (.iload_n 3, 1) := dJ7_fill_d0a16_0_k.2.2.2.2.2.1
theorem dJ7_fill_d0a16_7 : decode cJ7_fill_d0a16 7 = .ok (.iload 4, 2) := dJ7_fill_d0a16_0_k.2.2.2.2.2.2.1
theorem dJ7_fill_d0a16_9 : decode cJ7_fill_d0a16 9 = .ok (.if_icmp .ge 13, 3) := dJ7_fill_d0a16_0_k.2.2.2.2.2.2.2.1
theorem dJ7_fill_d0a16_12 : decode cJ7_fill_d0a16 12 = .ok (.aload_n 0, 1) := dJ7_fill_d0a16_0_k.2.2.2.2.2.2.2.2.1
theorem dJ7_fill_d0a16_13 : decode cJ7_fill_d0a16 13 = .ok (.iload_n 3, 1) := dJ7_fill_d0a16_0_k.2.2.2.2.2.2.2.2.2.1
theorem dJ7_fill_d0a16_14 : decode cJ7_fill_d0a16 14 = .ok (.lload_n 1, 1) := dJ7_fill_d0a16_0_k.2.2.2.2.2.2.2.2.2.2.1
theorem dJ7_fill_d0a16_15 : decode cJ7_fill_d0a16 15 = .ok (.lastore, 1) := dJ7_fill_d0a16_0_k.2.2.2.2.2.2.2.2.2.2.2.1
theorem dJ7_fill_d0a16_16 : decode cJ7_fill_d0a16 16 = .ok (.iinc 3 1, 3) := dJ7_fill_d0a16_0_k.2.2.2.2.2.2.2.2.2.2.2.2.1
theorem dJ7_fill_d0a16_19 : decode cJ7_fill_d0a16 19 = .ok (.goto (-13), 3) := dJ7_fill_d0a16_0_k.2.2.2.2.2.2.2.2.2.2.2.2.2.1
theorem dJ7_fill_d0a16_22 : decode cJ7_fill_d0a16 22 = .ok (.return_, 1) := dJ7_fill_d0a16_0_k.2.2.2.2.2.2.2.2.2.2.2.2.2.2
theorem dJ7_fill_53178_0_k : decode cJ7_fill_53178 0 = .ok (.iconst 0, 1) ∧ decode cJ7_fill_53178 1 = .ok (.istore_n 2, 1) ∧ decode cJ7_fill_53178 2 = .ok (.aload_n 0, 1) ∧ decode cJ7_fill_53178 3 = .ok (.arraylength, 1) ∧ decode cJ7_fill_53178 4 = .ok (.istore_n 3, 1) ∧ decode cJ7_fill_53178 5 = .ok (.iload_n 2, 1) ∧ decode cJ7_fill_53178 6 = .ok (.iload_n 3, 1) ∧ decode cJ7_fill_53178 7 = .ok (.if_icmp .ge 13, 3) ∧ decode cJ7_fill_53178 10 = .ok (.aload_n 0, 1) ∧ decode cJ7_fill_53178 11 = .ok (.iload_n 2, 1) ∧ decode cJ7_fill_53178 12 = .ok (.iload_n 1, 1) ∧ decode cJ7_fill_53178 13 = .ok (.iastore, 1) ∧ decode cJ7_fill_53178 14 = .ok (.iinc 2 1, 3) ∧ decode cJ7_fill_53178 17 = .ok (.goto (-12), 3) ∧ decode cJ7_fill_53178 20 = .ok (.return_, 1) := by decide +kernel
theorem dJ7_fill_53178_0 : decode cJ7_fill_53178 0 = .ok (.iconst 0, 1) := dJ7_fill_53178_0_k.1
theorem dJ7_fill_53178_1 : decode cJ7_fill_53178 1 = .ok (.istore_n 2, 1) := dJ7_fill_53178_0_k.2.1
theorem dJ7_fill_53178_2 : decode cJ7_fill_53178 2 = .ok (.aload_n 0, 1) := dJ7_fill_53178_0_k.2.2.1
theorem dJ7_fill_53178_3 : decode cJ7_fill_53178 3 = .ok (.arraylength, 1) := dJ7_fill_53178_0_k.2.2.2.1
theorem dJ7_fill_53178_4 : decode cJ7_fill_53178 4 = .ok (.istore_n 3, 1) := dJ7_fill_53178_0_k.2.2.2.2.1
theorem dJ7_fill_53178_5 : decode cJ7_fill_53178 5 = .ok (.iload_n 2, 1) := dJ7_fill_53178_0_k.2.2.2.2.2.1
theorem dJ7_fill_53178_6 : decode cJ7_fill_53178 6 = .ok (.iload_n 3, 1) := dJ7_fill_53178_0_k.2.2.2.2.2.2.1
theorem dJ7_fill_53178_7 : decode cJ7_fill_53178 7 = .ok (.if_icmp .ge 13, 3) := dJ7_fill_53178_0_k.2.2.2.2.2.2.2.1
theorem dJ7_fill_53178_10 : decode cJ7_fill_53178 10 = .ok (.aload_n 0, 1) := dJ7_fill_53178_0_k.2.2.2.2.2.2.2.2.1
theorem dJ7_fill_53178_11 : decode cJ7_fill_53178 11 = .ok (.iload_n 2, 1) := dJ7_fill_53178_0_k.2.2.2.2.2.2.2.2.2.1
theorem dJ7_fill_53178_12 : decode cJ7_fill_53178 12 = .ok (.iload_n 1, 1) := dJ7_fill_53178_0_k.2.2.2.2.2.2.2.2.2.2.1
theorem dJ7_fill_53178_13 : decode cJ7_fill_53178 13 = .ok (.iastore, 1) := dJ7_fill_53178_0_k.2.2.2.2.2.2.2.2.2.2.2.1
theorem dJ7_fill_53178_14 : decode cJ7_fill_53178 14 = .ok (.iinc 2 1, 3) := dJ7_fill_53178_0_k.2.2.2.2.2.2.2.2.2.2.2.2.1
theorem dJ7_fill_53178_17 : decode cJ7_fill_53178 17 = .ok (.goto (-12), 3) := dJ7_fill_53178_0_k.2.2.2.2.2.2.2.2.2.2.2.2.2.1
theorem dJ7_fill_53178_20 : decode cJ7_fill_53178 20 = .ok (.return_, 1) := dJ7_fill_53178_0_k.2.2.2.2.2.2.2.2.2.2.2.2.2.2
theorem dJ3_checkIndex_8e157_0_k : decode cJ3_checkIndex_8e157 0 = .ok (.iload_n 0, 1) ∧ decode cJ3_checkIndex_8e157 1 = .ok (.ifCond .lt 8, 3) ∧ decode cJ3_checkIndex_8e157 4 = .ok (.iload_n 0, 1) ∧ decode cJ3_checkIndex_8e157 5 = .ok (.iload_n 1, 1) ∧ decode cJ3_checkIndex_8e157 6 = .ok (.if_icmp .lt 10, 3) ∧ decode cJ3_checkIndex_8e157 9 = .ok (.aload_n 2, 1) ∧ decode cJ3_checkIndex_8e157 10 = .ok (.iload_n 0, 1) ∧ decode cJ3_checkIndex_8e157 11 = .ok (.iload_n 1, 1) ∧ decode cJ3_checkIndex_8e157 12 = .ok (.invokestatic 95, 3) ∧ decode cJ3_checkIndex_8e157 15 = .ok (.athrow, 1) ∧ decode cJ3_checkIndex_8e157 16 = .ok (.iload_n 0, 1) ∧ decode cJ3_checkIndex_8e157 17 = .ok (.ireturn, 1) := by decide +kernel
theorem dJ3_checkIndex_8e157_0 : decode cJ3_checkIndex_8e157 0 = .ok (.iload_n 0, 1) := dJ3_checkIndex_8e157_0_k.1
theorem dJ3_checkIndex_8e157_1 : decode cJ3_checkIndex_8e157 1 = .ok (.ifCond .lt 8, 3) := dJ3_checkIndex_8e157_0_k.2.1
theorem dJ3_checkIndex_8e157_4 : decode cJ3_checkIndex_8e157 4 = .ok (.iload_n 0, 1) := dJ3_checkIndex_8e157_0_k.2.2.1
theorem dJ3_checkIndex_8e157_5 : decode cJ3_checkIndex_8e157 5 = .ok (.iload_n 1, 1) := dJ3_checkIndex_8e157_0_k.2.2.2.1
theorem dJ3_checkIndex_8e157_6 : decode cJ3_checkIndex_8e157 6 = .ok (.if_icmp .lt 10, 3) := dJ3_checkIndex_8e157_0_k.2.2.2.2.1
theorem dJ3_checkIndex_8e157_9 : decode cJ3_checkIndex_8e157 9 = .ok (.aload_n 2, 1) := dJ3_checkIndex_8e157_0_k.2.2.2.2.2.1
theorem dJ3_checkIndex_8e157_10 : decode cJ3_checkIndex_8e157 10 = .ok (.iload_n 0, 1) := dJ3_checkIndex_8e157_0_k.2.2.2.2.2.2.1
theorem dJ3_checkIndex_8e157_11 : decode cJ3_checkIndex_8e157 11 = .ok (.iload_n 1, 1) := dJ3_checkIndex_8e157_0_k.2.2.2.2.2.2.2.1
theorem dJ3_checkIndex_8e157_12 : decode cJ3_checkIndex_8e157 12 = .ok (.invokestatic 95, 3) := dJ3_checkIndex_8e157_0_k.2.2.2.2.2.2.2.2.1
theorem dJ3_checkIndex_8e157_15 : decode cJ3_checkIndex_8e157 15 = .ok (.athrow, 1) := dJ3_checkIndex_8e157_0_k.2.2.2.2.2.2.2.2.2.1
theorem dJ3_checkIndex_8e157_16 : decode cJ3_checkIndex_8e157 16 = .ok (.iload_n 0, 1) := dJ3_checkIndex_8e157_0_k.2.2.2.2.2.2.2.2.2.2.1
theorem dJ3_checkIndex_8e157_17 : decode cJ3_checkIndex_8e157 17 = .ok (.ireturn, 1) := dJ3_checkIndex_8e157_0_k.2.2.2.2.2.2.2.2.2.2.2
