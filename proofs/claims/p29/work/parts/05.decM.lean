theorem dX12_init_0_k : decode cX12_init 0 = .ok (.aload_n 0, 1) ∧ decode cX12_init 1 = .ok (.invokespecial 1, 3) ∧ decode cX12_init 4 = .ok (.aload_n 0, 1) ∧ decode cX12_init 5 = .ok (.sipush 4725, 3) ∧ decode cX12_init 8 = .ok (.newarray .int, 2) ∧ decode cX12_init 10 = .ok (.putfield 7, 3) ∧ decode cX12_init 13 = .ok (.aload_n 0, 1) ∧ decode cX12_init 14 = .ok (.sipush 1500, 3) ∧ decode cX12_init 17 = .ok (.newarray .byte, 2) ∧ decode cX12_init 19 = .ok (.putfield 13, 3) ∧ decode cX12_init 22 = .ok (.aload_n 0, 1) ∧ decode cX12_init 23 = .ok (.iconst 3, 1) ∧ decode cX12_init 24 = .ok (.newarray .boolean, 2) ∧ decode cX12_init 26 = .ok (.putfield 17, 3) ∧ decode cX12_init 29 = .ok (.aload_n 0, 1) ∧ decode cX12_init 30 = .ok (.bipush 22, 2) := by decide +kernel
theorem dX12_init_0 : decode cX12_init 0 = .ok (.aload_n 0, 1) := dX12_init_0_k.1
theorem dX12_init_1 : decode cX12_init 1 = .ok (.invokespecial 1, 3) := dX12_init_0_k.2.1
theorem dX12_init_4 : decode cX12_init 4 = .ok (.aload_n 0, 1) := dX12_init_0_k.2.2.1
theorem dX12_init_5 : decode cX12_init 5 = .ok (.sipush 4725, 3) := dX12_init_0_k.2.2.2.1
theorem dX12_init_8 : decode cX12_init 8 = .ok (.newarray .int, 2) := dX12_init_0_k.2.2.2.2.1
theorem dX12_init_10 : decode cX12_init 10 = .ok (.putfield 7, 3) := dX12_init_0_k.2.2.2.2.2.1
theorem dX12_init_13 : decode cX12_init 13 = .ok (.aload_n 0, 1) := dX12_init_0_k.2.2.2.2.2.2.1
theorem dX12_init_14 : decode cX12_init 14 = .ok (.sipush 1500, 3) := dX12_init_0_k.2.2.2.2.2.2.2.1
theorem dX12_init_17 : decode cX12_init 17 = .ok (.newarray .byte, 2) := dX12_init_0_k.2.2.2.2.2.2.2.2.1
theorem dX12_init_19 : decode cX12_init 19 = .ok (.putfield 13, 3) := dX12_init_0_k.2.2.2.2.2.2.2.2.2.1
theorem dX12_init_22 : decode cX12_init 22 = .ok (.aload_n 0, 1) := dX12_init_0_k.2.2.2.2.2.2.2.2.2.2.1
theorem dX12_init_23 : decode cX12_init 23 = .ok (.iconst 3, 1) := dX12_init_0_k.2.2.2.2.2.2.2.2.2.2.2.1
theorem dX12_init_24 : decode cX12_init 24 = .ok (.newarray .boolean, 2) := dX12_init_0_k.2.2.2.2.2.2.2.2.2.2.2.2.1
theorem dX12_init_26 : decode cX12_init 26 = .ok (.putfield 17, 3) := dX12_init_0_k.2.2.2.2.2.2.2.2.2.2.2.2.2.1
theorem dX12_init_29 : decode cX12_init 29 = .ok (.aload_n 0, 1) := dX12_init_0_k.2.2.2.2.2.2.2.2.2.2.2.2.2.2.1
theorem dX12_init_30 : decode cX12_init 30 = .ok (.bipush 22, 2) := dX12_init_0_k.2.2.2.2.2.2.2.2.2.2.2.2.2.2.2
theorem dX12_init_32_k : decode cX12_init 32 = .ok (.newarray .int, 2) ∧ decode cX12_init 34 = .ok (.putfield 21, 3) ∧ decode cX12_init 37 = .ok (.aload_n 0, 1) ∧ decode cX12_init 38 = .ok (.sipush 256, 3) ∧ decode cX12_init 41 = .ok (.newarray .int, 2) ∧ decode cX12_init 43 = .ok (.putfield 24, 3) ∧ decode cX12_init 46 = .ok (.aload_n 0, 1) ∧ decode cX12_init 47 = .ok (.getfield 7, 3) ∧ decode cX12_init 50 = .ok (.sipush 944, 3) ∧ decode cX12_init 53 = .ok (.iconst (-1), 1) ∧ decode cX12_init 54 = .ok (.iastore, 1) ∧ decode cX12_init 55 = .ok (.aload_n 0, 1) ∧ decode cX12_init 56 = .ok (.invokevirtual 27, 3) ∧ decode cX12_init 59 = .ok (.aload_n 0, 1) ∧ decode cX12_init 60 = .ok (.invokevirtual 30, 3) ∧ decode cX12_init 63 = .ok (.return_, 1) := by decide +kernel
theorem dX12_init_32 : decode cX12_init 32 = .ok (.newarray .int, 2) := dX12_init_32_k.1
theorem dX12_init_34 : decode cX12_init 34 = .ok (.putfield 21, 3) := dX12_init_32_k.2.1
theorem dX12_init_37 : decode cX12_init 37 = .ok (.aload_n 0, 1) := dX12_init_32_k.2.2.1
theorem dX12_init_38 : decode cX12_init 38 = .ok (.sipush 256, 3) := dX12_init_32_k.2.2.2.1
theorem dX12_init_41 : decode cX12_init 41 = .ok (.newarray .int, 2) := dX12_init_32_k.2.2.2.2.1
theorem dX12_init_43 : decode cX12_init 43 = .ok (.putfield 24, 3) := dX12_init_32_k.2.2.2.2.2.1
theorem dX12_init_46 : decode cX12_init 46 = .ok (.aload_n 0, 1) := dX12_init_32_k.2.2.2.2.2.2.1
theorem dX12_init_47 : decode cX12_init 47 = .ok (.getfield 7, 3) := dX12_init_32_k.2.2.2.2.2.2.2.1
theorem dX12_init_50 : decode cX12_init 50 = .ok (.sipush 944, 3) := dX12_init_32_k.2.2.2.2.2.2.2.2.1
theorem dX12_init_53 : decode cX12_init 53 = .ok (.iconst (-1), 1) := dX12_init_32_k.2.2.2.2.2.2.2.2.2.1
theorem dX12_init_54 : decode cX12_init 54 = .ok (.iastore, 1) := dX12_init_32_k.2.2.2.2.2.2.2.2.2.2.1
theorem dX12_init_55 : decode cX12_init 55 = .ok (.aload_n 0, 1) := dX12_init_32_k.2.2.2.2.2.2.2.2.2.2.2.1
theorem dX12_init_56 : decode cX12_init 56 = .ok (.invokevirtual 27, 3) := dX12_init_32_k.2.2.2.2.2.2.2.2.2.2.2.2.1
theorem dX12_init_59 : decode cX12_init 59 = .ok (.aload_n 0, 1) := dX12_init_32_k.2.2.2.2.2.2.2.2.2.2.2.2.2.1
theorem dX12_init_60 : decode cX12_init 60 = .ok (.invokevirtual 30, 3) := dX12_init_32_k.2.2.2.2.2.2.2.2.2.2.2.2.2.2.1
theorem dX12_init_63 : decode cX12_init 63 = .ok (.return_, 1) := dX12_init_32_k.2.2.2.2.2.2.2.2.2.2.2.2.2.2.2
theorem dX12_in_0_k : decode cX12_in 0 = .ok (.iload_n 0, 1) ∧ decode cX12_in 1 = .ok (.iload_n 1, 1) ∧ decode cX12_in 2 = .ok (.if_icmp .lt 12, 3) ∧ decode cX12_in 5 = .ok (.iload_n 0, 1) ∧ decode cX12_in 6 = .ok (.iload_n 2, 1) ∧ decode cX12_in 7 = .ok (.if_icmp .gt 7, 3) ∧ decode cX12_in 10 = .ok (.iconst 1, 1) ∧ decode cX12_in 11 = .ok (.goto 4, 3) ∧ decode cX12_in 14 = .ok (.iconst 0, 1) ∧ decode cX12_in 15 = .ok (.ireturn, 1) := by decide +kernel
theorem dX12_in_0 : decode cX12_in 0 = .ok (.iload_n 0, 1) := dX12_in_0_k.1
theorem dX12_in_1 : decode cX12_in 1 = .ok (.iload_n 1, 1) := dX12_in_0_k.2.1
theorem dX12_in_2 : decode cX12_in 2 = .ok (.if_icmp .lt 12, 3) := dX12_in_0_k.2.2.1
theorem dX12_in_5 : decode cX12_in 5 = .ok (.iload_n 0, 1) := dX12_in_0_k.2.2.2.1
theorem dX12_in_6 : decode cX12_in 6 = .ok (.iload_n 2, 1) := dX12_in_0_k.2.2.2.2.1
theorem dX12_in_7 : decode cX12_in 7 = .ok (.if_icmp .gt 7, 3) := dX12_in_0_k.2.2.2.2.2.1
theorem dX12_in_10 : decode cX12_in 10 = .ok (.iconst 1, 1) := dX12_in_0_k.2.2.2.2.2.2.1
theorem dX12_in_11 : decode cX12_in 11 = .ok (.goto 4, 3) := dX12_in_0_k.2.2.2.2.2.2.2.1
theorem dX12_in_14 : decode cX12_in 14 = .ok (.iconst 0, 1) := dX12_in_0_k.2.2.2.2.2.2.2.2.1
theorem dX12_in_15 : decode cX12_in 15 = .ok (.ireturn, 1) := dX12_in_0_k.2.2.2.2.2.2.2.2.2
theorem dX12_lesser_0_k : decode cX12_lesser 0 = .ok (.iload_n 0, 1) ∧ decode cX12_lesser 1 = .ok (.iload_n 1, 1) ∧ decode cX12_lesser 2 = .ok (.if_icmp .ge 7, 3) ∧ decode cX12_lesser 5 = .ok (.iload_n 0, 1) ∧ decode cX12_lesser 6 = .ok (.goto 4, 3) ∧ decode cX12_lesser 9 = .ok (.iload_n 1, 1) ∧ decode cX12_lesser 10 = .ok (.ireturn, 1) := by decide +kernel
theorem dX12_lesser_0 : decode cX12_lesser 0 = .ok (.iload_n 0, 1) := dX12_lesser_0_k.1
theorem dX12_lesser_1 : decode cX12_lesser 1 = .ok (.iload_n 1, 1) := dX12_lesser_0_k.2.1
theorem dX12_lesser_2 : decode cX12_lesser 2 = .ok (.if_icmp .ge 7, 3) := dX12_lesser_0_k.2.2.1
theorem dX12_lesser_5 : decode cX12_lesser 5 = .ok (.iload_n 0, 1) := dX12_lesser_0_k.2.2.2.1
theorem dX12_lesser_6 : decode cX12_lesser 6 = .ok (.goto 4, 3) := dX12_lesser_0_k.2.2.2.2.1
theorem dX12_lesser_9 : decode cX12_lesser 9 = .ok (.iload_n 1, 1) := dX12_lesser_0_k.2.2.2.2.2.1
theorem dX12_lesser_10 : decode cX12_lesser 10 = .ok (.ireturn, 1) := dX12_lesser_0_k.2.2.2.2.2.2
theorem dX12_greater_0_k : decode cX12_greater 0 = .ok (.iload_n 0, 1) ∧ decode cX12_greater 1 = .ok (.iload_n 1, 1) ∧ decode cX12_greater 2 = .ok (.if_icmp .le 7, 3) ∧ decode cX12_greater 5 = .ok (.iload_n 0, 1) ∧ decode cX12_greater 6 = .ok (.goto 4, 3) ∧ decode cX12_greater 9 = .ok (.iload_n 1, 1) ∧ decode cX12_greater 10 = .ok (.ireturn, 1) := by decide +kernel
theorem dX12_greater_0 : decode cX12_greater 0 = .ok (.iload_n 0, 1) := dX12_greater_0_k.1
theorem dX12_greater_1 : decode cX12_greater 1 = .ok (.iload_n 1, 1) := dX12_greater_0_k.2.1
theorem dX12_greater_2 : decode cX12_greater 2 = .ok (.if_icmp .le 7, 3) := dX12_greater_0_k.2.2.1
theorem dX12_greater_5 : decode cX12_greater 5 = .ok (.iload_n 0, 1) := dX12_greater_0_k.2.2.2.1
theorem dX12_greater_6 : decode cX12_greater 6 = .ok (.goto 4, 3) := dX12_greater_0_k.2.2.2.2.1
theorem dX12_greater_9 : decode cX12_greater 9 = .ok (.iload_n 1, 1) := dX12_greater_0_k.2.2.2.2.2.1
theorem dX12_greater_10 : decode cX12_greater 10 = .ok (.ireturn, 1) := dX12_greater_0_k.2.2.2.2.2.2
theorem dX12_measure_0_k : decode cX12_measure 0 = .ok (.lload_n 0, 1) ∧ decode cX12_measure 1 = .ok (.lstore 4, 2) ∧ decode cX12_measure 3 = .ok (.lload_n 2, 1) ∧ decode cX12_measure 4 = .ok (.lstore 6, 2) ∧ decode cX12_measure 6 = .ok (.lload 6, 2) ∧ decode cX12_measure 8 = .ok (.lconst 0, 1) ∧ decode cX12_measure 9 = .ok (.lcmp, 1) ∧ decode cX12_measure 10 = .ok (.ifCond .eq 21, 3) ∧ decode cX12_measure 13 = .ok (.lload 4, 2) ∧ decode cX12_measure 15 = .ok (.lload 6, 2) ∧ decode cX12_measure 17 = .ok (.lrem, 1) ∧ decode cX12_measure 18 = .ok (.lstore 8, 2) ∧ decode cX12_measure 20 = .ok (.lload 6, 2) ∧ decode cX12_measure 22 = .ok (.lstore 4, 2) ∧ decode cX12_measure 24 = .ok (.lload 8, 2) ∧ decode cX12_measure 26 = .ok (.lstore 6, 2) := by decide +kernel
theorem dX12_measure_0 : decode cX12_measure 0 = .ok (.lload_n 0, 1) := dX12_measure_0_k.1
theorem dX12_measure_1 : decode cX12_measure 1 = .ok (.lstore 4, 2) := dX12_measure_0_k.2.1
theorem dX12_measure_3 : decode cX12_measure 3 = .ok (.lload_n 2, 1) := dX12_measure_0_k.2.2.1
theorem dX12_measure_4 : decode cX12_measure 4 = .ok (.lstore 6, 2) := dX12_measure_0_k.2.2.2.1
theorem dX12_measure_6 : decode cX12_measure 6 = .ok (.lload 6, 2) := dX12_measure_0_k.2.2.2.2.1
theorem dX12_measure_8 : decode cX12_measure 8 = .ok (.lconst 0, 1) := dX12_measure_0_k.2.2.2.2.2.1
theorem dX12_measure_9 : decode cX12_measure 9 = .ok (.lcmp, 1) := dX12_measure_0_k.2.2.2.2.2.2.1
theorem dX12_measure_10 : decode cX12_measure 10 = .ok (.ifCond .eq 21, 3) := dX12_measure_0_k.2.2.2.2.2.2.2.1
theorem dX12_measure_13 : decode cX12_measure 13 = .ok (.lload 4, 2) := dX12_measure_0_k.2.2.2.2.2.2.2.2.1
theorem dX12_measure_15 : decode cX12_measure 15 = .ok (.lload 6, 2) := dX12_measure_0_k.2.2.2.2.2.2.2.2.2.1
theorem dX12_measure_17 : decode cX12_measure 17 = .ok (.lrem, 1) := dX12_measure_0_k.2.2.2.2.2.2.2.2.2.2.1
theorem dX12_measure_18 : decode cX12_measure 18 = .ok (.lstore 8, 2) := dX12_measure_0_k.2.2.2.2.2.2.2.2.2.2.2.1
theorem dX12_measure_20 : decode cX12_measure 20 = .ok (.lload 6, 2) := dX12_measure_0_k.2.2.2.2.2.2.2.2.2.2.2.2.1
theorem dX12_measure_22 : decode cX12_measure 22 = .ok (.lstore 4, 2) := dX12_measure_0_k.2.2.2.2.2.2.2.2.2.2.2.2.2.1
theorem dX12_measure_24 : decode cX12_measure 24 = .ok (.lload 8, 2) := dX12_measure_0_k.2.2.2.2.2.2.2.2.2.2.2.2.2.2.1
theorem dX12_measure_26 : decode cX12_measure 26 = .ok (.lstore 6, 2) := dX12_measure_0_k.2.2.2.2.2.2.2.2.2.2.2.2.2.2.2
theorem dX12_measure_28_k : decode cX12_measure 28 = .ok (.goto (-22), 3) ∧ decode cX12_measure 31 = .ok (.lload 4, 2) ∧ decode cX12_measure 33 = .ok (.lreturn, 1) := by decide +kernel
theorem dX12_measure_28 : decode cX12_measure 28 = .ok (.goto (-22), 3) := dX12_measure_28_k.1
theorem dX12_measure_31 : decode cX12_measure 31 = .ok (.lload 4, 2) := dX12_measure_28_k.2.1
theorem dX12_measure_33 : decode cX12_measure 33 = .ok (.lreturn, 1) := dX12_measure_28_k.2.2
theorem dX12_tell_0_k : decode cX12_tell 0 = .ok (.aload_n 0, 1) ∧ decode cX12_tell 1 = .ok (.iconst 0, 1) ∧ decode cX12_tell 2 = .ok (.putfield 33, 3) ∧ decode cX12_tell 5 = .ok (.iconst 0, 1) ∧ decode cX12_tell 6 = .ok (.istore_n 3, 1) ∧ decode cX12_tell 7 = .ok (.iload_n 3, 1) ∧ decode cX12_tell 8 = .ok (.bipush 8, 2) ∧ decode cX12_tell 10 = .ok (.if_icmp .ge 27, 3) ∧ decode cX12_tell 13 = .ok (.lload_n 1, 1) ∧ decode cX12_tell 14 = .ok (.bipush 56, 2) ∧ decode cX12_tell 16 = .ok (.bipush 8, 2) ∧ decode cX12_tell 18 = .ok (.iload_n 3, 1) ∧ decode cX12_tell 19 = .ok (.imul, 1) ∧ decode cX12_tell 20 = .ok (.isub, 1) ∧ decode cX12_tell 21 = .ok (.lshr, 1) ∧ decode cX12_tell 22 = .ok (.ldc2_w 37, 3) := by decide +kernel
theorem dX12_tell_0 : decode cX12_tell 0 = .ok (.aload_n 0, 1) := dX12_tell_0_k.1
theorem dX12_tell_1 : decode cX12_tell 1 = .ok (.iconst 0, 1) := dX12_tell_0_k.2.1
theorem dX12_tell_2 : decode cX12_tell 2 = .ok (.putfield 33, 3) := dX12_tell_0_k.2.2.1
theorem dX12_tell_5 : decode cX12_tell 5 = .ok (.iconst 0, 1) := dX12_tell_0_k.2.2.2.1
theorem dX12_tell_6 : decode cX12_tell 6 = .ok (.istore_n 3, 1) := dX12_tell_0_k.2.2.2.2.1
theorem dX12_tell_7 : decode cX12_tell 7 = .ok (.iload_n 3, 1) := dX12_tell_0_k.2.2.2.2.2.1
theorem dX12_tell_8 : decode cX12_tell 8 = .ok (.bipush 8, 2) := dX12_tell_0_k.2.2.2.2.2.2.1
theorem dX12_tell_10 : decode cX12_tell 10 = .ok (.if_icmp .ge 27, 3) := dX12_tell_0_k.2.2.2.2.2.2.2.1
theorem dX12_tell_13 : decode cX12_tell 13 = .ok (.lload_n 1, 1) := dX12_tell_0_k.2.2.2.2.2.2.2.2.1
theorem dX12_tell_14 : decode cX12_tell 14 = .ok (.bipush 56, 2) := dX12_tell_0_k.2.2.2.2.2.2.2.2.2.1
theorem dX12_tell_16 : decode cX12_tell 16 = .ok (.bipush 8, 2) := dX12_tell_0_k.2.2.2.2.2.2.2.2.2.2.1
theorem dX12_tell_18 : decode cX12_tell 18 = .ok (.iload_n 3, 1) := dX12_tell_0_k.2.2.2.2.2.2.2.2.2.2.2.1
theorem dX12_tell_19 : decode cX12_tell 19 = .ok (.imul, 1) := dX12_tell_0_k.2.2.2.2.2.2.2.2.2.2.2.2.1
theorem dX12_tell_20 : decode cX12_tell 20 = .ok (.isub, 1) := dX12_tell_0_k.2.2.2.2.2.2.2.2.2.2.2.2.2.1
theorem dX12_tell_21 : decode cX12_tell 21 = .ok (.lshr, 1) := dX12_tell_0_k.2.2.2.2.2.2.2.2.2.2.2.2.2.2.1
theorem dX12_tell_22 : decode cX12_tell 22 = .ok (.ldc2_w 37, 3) := dX12_tell_0_k.2.2.2.2.2.2.2.2.2.2.2.2.2.2.2
theorem dX12_tell_25_k : decode cX12_tell 25 = .ok (.land, 1) ∧ decode cX12_tell 26 = .ok (.lconst 0, 1) ∧ decode cX12_tell 27 = .ok (.lcmp, 1) ∧ decode cX12_tell 28 = .ok (.ifCond .eq 9, 3) ∧ decode cX12_tell 31 = .ok (.iinc 3 1, 3) ∧ decode cX12_tell 34 = .ok (.goto (-27), 3) ∧ decode cX12_tell 37 = .ok (.aload_n 0, 1) ∧ decode cX12_tell 38 = .ok (.getfield 7, 3) ∧ decode cX12_tell 41 = .ok (.sipush 942, 3) ∧ decode cX12_tell 44 = .ok (.iaload, 1) ∧ decode cX12_tell 45 = .ok (.iload_n 3, 1) ∧ decode cX12_tell 46 = .ok (.iadd, 1) ∧ decode cX12_tell 47 = .ok (.sipush 300, 3) ∧ decode cX12_tell 50 = .ok (.if_icmp .le 5, 3) ∧ decode cX12_tell 53 = .ok (.iconst (-1), 1) ∧ decode cX12_tell 54 = .ok (.ireturn, 1) := by decide +kernel
theorem dX12_tell_25 : decode cX12_tell 25 = .ok (.land, 1) := dX12_tell_25_k.1
theorem dX12_tell_26 : decode cX12_tell 26 = .ok (.lconst 0, 1) := dX12_tell_25_k.2.1
theorem dX12_tell_27 : decode cX12_tell 27 = .ok (.lcmp, 1) := dX12_tell_25_k.2.2.1
theorem dX12_tell_28 : decode cX12_tell 28 = .ok (.ifCond .eq 9, 3) := dX12_tell_25_k.2.2.2.1
theorem dX12_tell_31 : decode cX12_tell 31 = .ok (.iinc 3 1, 3) := dX12_tell_25_k.2.2.2.2.1
theorem dX12_tell_34 : decode cX12_tell 34 = .ok (.goto (-27), 3) := dX12_tell_25_k.2.2.2.2.2.1
theorem dX12_tell_37 : decode cX12_tell 37 = .ok (.aload_n 0, 1) := dX12_tell_25_k.2.2.2.2.2.2.1
theorem dX12_tell_38 : decode cX12_tell 38 = .ok (.getfield 7, 3) := dX12_tell_25_k.2.2.2.2.2.2.2.1
theorem dX12_tell_41 : decode cX12_tell 41 = .ok (.sipush 942, 3) := dX12_tell_25_k.2.2.2.2.2.2.2.2.1
theorem dX12_tell_44 : decode cX12_tell 44 = .ok (.iaload, 1) := dX12_tell_25_k.2.2.2.2.2.2.2.2.2.1
theorem dX12_tell_45 : decode cX12_tell 45 = .ok (.iload_n 3, 1) := dX12_tell_25_k.2.2.2.2.2.2.2.2.2.2.1
theorem dX12_tell_46 : decode cX12_tell 46 = .ok (.iadd, 1) := dX12_tell_25_k.2.2.2.2.2.2.2.2.2.2.2.1
theorem dX12_tell_47 : decode cX12_tell 47 = .ok (.sipush 300, 3) := dX12_tell_25_k.2.2.2.2.2.2.2.2.2.2.2.2.1
theorem dX12_tell_50 : decode cX12_tell 50 = .ok (.if_icmp .le 5, 3) := dX12_tell_25_k.2.2.2.2.2.2.2.2.2.2.2.2.2.1
theorem dX12_tell_53 : decode cX12_tell 53 = .ok (.iconst (-1), 1) := dX12_tell_25_k.2.2.2.2.2.2.2.2.2.2.2.2.2.2.1
theorem dX12_tell_54 : decode cX12_tell 54 = .ok (.ireturn, 1) := dX12_tell_25_k.2.2.2.2.2.2.2.2.2.2.2.2.2.2.2
theorem dX12_tell_55_k : decode cX12_tell 55 = .ok (.iconst 0, 1) ∧ decode cX12_tell 56 = .ok (.istore 4, 2) ∧ decode cX12_tell 58 = .ok (.iload 4, 2) ∧ decode cX12_tell 60 = .ok (.iload_n 3, 1) ∧ decode cX12_tell 61 = .ok (.if_icmp .ge 46, 3) ∧ decode cX12_tell 64 = .ok (.aload_n 0, 1) ∧ decode cX12_tell 65 = .ok (.getfield 13, 3) ∧ decode cX12_tell 68 = .ok (.aload_n 0, 1) ∧ decode cX12_tell 69 = .ok (.getfield 7, 3) ∧ decode cX12_tell 72 = .ok (.sipush 942, 3) ∧ decode cX12_tell 75 = .ok (.iaload, 1) ∧ decode cX12_tell 76 = .ok (.lload_n 1, 1) ∧ decode cX12_tell 77 = .ok (.bipush 56, 2) ∧ decode cX12_tell 79 = .ok (.bipush 8, 2) ∧ decode cX12_tell 81 = .ok (.iload 4, 2) ∧ decode cX12_tell 83 = .ok (.imul, 1) := by decide +kernel
theorem dX12_tell_55 : decode cX12_tell 55 = .ok (.iconst 0, 1) := dX12_tell_55_k.1
theorem dX12_tell_56 : decode cX12_tell 56 = .ok (.istore 4, 2) := dX12_tell_55_k.2.1
theorem dX12_tell_58 : decode cX12_tell 58 = .ok (.iload 4, 2) := dX12_tell_55_k.2.2.1
theorem dX12_tell_60 : decode cX12_tell 60 = .ok (.iload_n 3, 1) := dX12_tell_55_k.2.2.2.1
theorem dX12_tell_61 : decode cX12_tell 61 = .ok (.if_icmp .ge 46, 3) := dX12_tell_55_k.2.2.2.2.1
theorem dX12_tell_64 : decode cX12_tell 64 = .ok (.aload_n 0, 1) := dX12_tell_55_k.2.2.2.2.2.1
theorem dX12_tell_65 : decode cX12_tell 65 = .ok (.getfield 13, 3) := dX12_tell_55_k.2.2.2.2.2.2.1
theorem dX12_tell_68 : decode cX12_tell 68 = .ok (.aload_n 0, 1) := dX12_tell_55_k.2.2.2.2.2.2.2.1
theorem dX12_tell_69 : decode cX12_tell 69 = .ok (.getfield 7, 3) := dX12_tell_55_k.2.2.2.2.2.2.2.2.1
theorem dX12_tell_72 : decode cX12_tell 72 = .ok (.sipush 942, 3) := dX12_tell_55_k.2.2.2.2.2.2.2.2.2.1
theorem dX12_tell_75 : decode cX12_tell 75 = .ok (.iaload, 1) := dX12_tell_55_k.2.2.2.2.2.2.2.2.2.2.1
theorem dX12_tell_76 : decode cX12_tell 76 = .ok (.lload_n 1, 1) := dX12_tell_55_k.2.2.2.2.2.2.2.2.2.2.2.1
theorem dX12_tell_77 : decode cX12_tell 77 = .ok (.bipush 56, 2) := dX12_tell_55_k.2.2.2.2.2.2.2.2.2.2.2.2.1
theorem dX12_tell_79 : decode cX12_tell 79 = .ok (.bipush 8, 2) := dX12_tell_55_k.2.2.2.2.2.2.2.2.2.2.2.2.2.1
theorem dX12_tell_81 : decode cX12_tell 81 = .ok (.iload 4, 2) := dX12_tell_55_k.2.2.2.2.2.2.2.2.2.2.2.2.2.2.1
theorem dX12_tell_83 : decode cX12_tell 83 = .ok (.imul, 1) := dX12_tell_55_k.2.2.2.2.2.2.2.2.2.2.2.2.2.2.2
theorem dX12_tell_84_k : decode cX12_tell 84 = .ok (.isub, 1) ∧ decode cX12_tell 85 = .ok (.lshr, 1) ∧ decode cX12_tell 86 = .ok (.l2i, 1) ∧ decode cX12_tell 87 = .ok (.i2b, 1) ∧ decode cX12_tell 88 = .ok (.bastore, 1) ∧ decode cX12_tell 89 = .ok (.aload_n 0, 1) ∧ decode cX12_tell 90 = .ok (.getfield 7, 3) ∧ decode cX12_tell 93 = .ok (.sipush 942, 3) ∧ decode cX12_tell 96 = .ok (.dup2, 1) ∧ decode cX12_tell 97 = .ok (.iaload, 1) ∧ decode cX12_tell 98 = .ok (.iconst 1, 1) ∧ decode cX12_tell 99 = .ok (.iadd, 1) ∧ decode cX12_tell 100 = .ok (.iastore, 1) ∧ decode cX12_tell 101 = .ok (.iinc 4 1, 3) ∧ decode cX12_tell 104 = .ok (.goto (-46), 3) ∧ decode cX12_tell 107 = .ok (.aload_n 0, 1) := by decide +kernel
theorem dX12_tell_84 : decode cX12_tell 84 = .ok (.isub, 1) := dX12_tell_84_k.1
theorem dX12_tell_85 : decode cX12_tell 85 = .ok (.lshr, 1) := dX12_tell_84_k.2.1
theorem dX12_tell_86 : decode cX12_tell 86 = .ok (.l2i, 1) := dX12_tell_84_k.2.2.1
theorem dX12_tell_87 : decode cX12_tell 87 = .ok (.i2b, 1) := dX12_tell_84_k.2.2.2.1
theorem dX12_tell_88 : decode cX12_tell 88 = .ok (.bastore, 1) := dX12_tell_84_k.2.2.2.2.1
theorem dX12_tell_89 : decode cX12_tell 89 = .ok (.aload_n 0, 1) := dX12_tell_84_k.2.2.2.2.2.1
theorem dX12_tell_90 : decode cX12_tell 90 = .ok (.getfield 7, 3) := dX12_tell_84_k.2.2.2.2.2.2.1
theorem dX12_tell_93 : decode cX12_tell 93 = .ok (.sipush 942, 3) := dX12_tell_84_k.2.2.2.2.2.2.2.1
theorem dX12_tell_96 : decode cX12_tell 96 = .ok (.dup2, 1) := dX12_tell_84_k.2.2.2.2.2.2.2.2.1
theorem dX12_tell_97 : decode cX12_tell 97 = .ok (.iaload, 1) := dX12_tell_84_k.2.2.2.2.2.2.2.2.2.1
theorem dX12_tell_98 : decode cX12_tell 98 = .ok (.iconst 1, 1) := dX12_tell_84_k.2.2.2.2.2.2.2.2.2.2.1
theorem dX12_tell_99 : decode cX12_tell 99 = .ok (.iadd, 1) := dX12_tell_84_k.2.2.2.2.2.2.2.2.2.2.2.1
theorem dX12_tell_100 : decode cX12_tell 100 = .ok (.iastore, 1) := dX12_tell_84_k.2.2.2.2.2.2.2.2.2.2.2.2.1
theorem dX12_tell_101 : decode cX12_tell 101 = .ok (.iinc 4 1, 3) := dX12_tell_84_k.2.2.2.2.2.2.2.2.2.2.2.2.2.1
theorem dX12_tell_104 : decode cX12_tell 104 = .ok (.goto (-46), 3) := dX12_tell_84_k.2.2.2.2.2.2.2.2.2.2.2.2.2.2.1
theorem dX12_tell_107 : decode cX12_tell 107 = .ok (.aload_n 0, 1) := dX12_tell_84_k.2.2.2.2.2.2.2.2.2.2.2.2.2.2.2
theorem dX12_tell_108_k : decode cX12_tell 108 = .ok (.getfield 7, 3) ∧ decode cX12_tell 111 = .ok (.sipush 942, 3) ∧ decode cX12_tell 114 = .ok (.iaload, 1) ∧ decode cX12_tell 115 = .ok (.ireturn, 1) := by decide +kernel
theorem dX12_tell_108 : decode cX12_tell 108 = .ok (.getfield 7, 3) := dX12_tell_108_k.1
theorem dX12_tell_111 : decode cX12_tell 111 = .ok (.sipush 942, 3) := dX12_tell_108_k.2.1
theorem dX12_tell_114 : decode cX12_tell 114 = .ok (.iaload, 1) := dX12_tell_108_k.2.2.1
theorem dX12_tell_115 : decode cX12_tell 115 = .ok (.ireturn, 1) := dX12_tell_108_k.2.2.2
theorem dX12_see_0_k : decode cX12_see 0 = .ok (.aload_n 0, 1) ∧ decode cX12_see 1 = .ok (.getfield 39, 3) ∧ decode cX12_see 4 = .ok (.aload_n 0, 1) ∧ decode cX12_see 5 = .ok (.getfield 42, 3) ∧ decode cX12_see 8 = .ok (.if_icmp .ge 19, 3) ∧ decode cX12_see 11 = .ok (.aload_n 0, 1) ∧ decode cX12_see 12 = .ok (.getfield 13, 3) ∧ decode cX12_see 15 = .ok (.aload_n 0, 1) ∧ decode cX12_see 16 = .ok (.getfield 39, 3) ∧ decode cX12_see 19 = .ok (.baload, 1) ∧ decode cX12_see 20 = .ok (.sipush 255, 3) ∧ decode cX12_see 23 = .ok (.iand, 1) ∧ decode cX12_see 24 = .ok (.goto 4, 3) ∧ decode cX12_see 27 = .ok (.iconst (-1), 1) ∧ decode cX12_see 28 = .ok (.ireturn, 1) := by decide +kernel
theorem dX12_see_0 : decode cX12_see 0 = .ok (.aload_n 0, 1) := dX12_see_0_k.1
theorem dX12_see_1 : decode cX12_see 1 = .ok (.getfield 39, 3) := dX12_see_0_k.2.1
theorem dX12_see_4 : decode cX12_see 4 = .ok (.aload_n 0, 1) := dX12_see_0_k.2.2.1
theorem dX12_see_5 : decode cX12_see 5 = .ok (.getfield 42, 3) := dX12_see_0_k.2.2.2.1
theorem dX12_see_8 : decode cX12_see 8 = .ok (.if_icmp .ge 19, 3) := dX12_see_0_k.2.2.2.2.1
theorem dX12_see_11 : decode cX12_see 11 = .ok (.aload_n 0, 1) := dX12_see_0_k.2.2.2.2.2.1
theorem dX12_see_12 : decode cX12_see 12 = .ok (.getfield 13, 3) := dX12_see_0_k.2.2.2.2.2.2.1
theorem dX12_see_15 : decode cX12_see 15 = .ok (.aload_n 0, 1) := dX12_see_0_k.2.2.2.2.2.2.2.1
theorem dX12_see_16 : decode cX12_see 16 = .ok (.getfield 39, 3) := dX12_see_0_k.2.2.2.2.2.2.2.2.1
theorem dX12_see_19 : decode cX12_see 19 = .ok (.baload, 1) := dX12_see_0_k.2.2.2.2.2.2.2.2.2.1
theorem dX12_see_20 : decode cX12_see 20 = .ok (.sipush 255, 3) := dX12_see_0_k.2.2.2.2.2.2.2.2.2.2.1
theorem dX12_see_23 : decode cX12_see 23 = .ok (.iand, 1) := dX12_see_0_k.2.2.2.2.2.2.2.2.2.2.2.1
theorem dX12_see_24 : decode cX12_see 24 = .ok (.goto 4, 3) := dX12_see_0_k.2.2.2.2.2.2.2.2.2.2.2.2.1
theorem dX12_see_27 : decode cX12_see 27 = .ok (.iconst (-1), 1) := dX12_see_0_k.2.2.2.2.2.2.2.2.2.2.2.2.2.1
theorem dX12_see_28 : decode cX12_see 28 = .ok (.ireturn, 1) := dX12_see_0_k.2.2.2.2.2.2.2.2.2.2.2.2.2.2
theorem dX12_token_0_k : decode cX12_token 0 = .ok (.aload_n 0, 1) ∧ decode cX12_token 1 = .ok (.invokevirtual 45, 3) ∧ decode cX12_token 4 = .ok (.bipush 10, 2) ∧ decode cX12_token 6 = .ok (.if_icmp .eq 12, 3) ∧ decode cX12_token 9 = .ok (.aload_n 0, 1) ∧ decode cX12_token 10 = .ok (.invokevirtual 45, 3) ∧ decode cX12_token 13 = .ok (.bipush 32, 2) ∧ decode cX12_token 15 = .ok (.if_icmp .ne 16, 3) ∧ decode cX12_token 18 = .ok (.aload_n 0, 1) ∧ decode cX12_token 19 = .ok (.dup, 1) ∧ decode cX12_token 20 = .ok (.getfield 39, 3) ∧ decode cX12_token 23 = .ok (.iconst 1, 1) ∧ decode cX12_token 24 = .ok (.iadd, 1) ∧ decode cX12_token 25 = .ok (.putfield 39, 3) ∧ decode cX12_token 28 = .ok (.goto (-28), 3) ∧ decode cX12_token 31 = .ok (.aload_n 0, 1) := by decide +kernel
theorem dX12_token_0 : decode cX12_token 0 = .ok (.aload_n 0, 1) := dX12_token_0_k.1
theorem dX12_token_1 : decode cX12_token 1 = .ok (.invokevirtual 45, 3) := dX12_token_0_k.2.1
theorem dX12_token_4 : decode cX12_token 4 = .ok (.bipush 10, 2) := dX12_token_0_k.2.2.1
theorem dX12_token_6 : decode cX12_token 6 = .ok (.if_icmp .eq 12, 3) := dX12_token_0_k.2.2.2.1
theorem dX12_token_9 : decode cX12_token 9 = .ok (.aload_n 0, 1) := dX12_token_0_k.2.2.2.2.1
theorem dX12_token_10 : decode cX12_token 10 = .ok (.invokevirtual 45, 3) := dX12_token_0_k.2.2.2.2.2.1
theorem dX12_token_13 : decode cX12_token 13 = .ok (.bipush 32, 2) := dX12_token_0_k.2.2.2.2.2.2.1
theorem dX12_token_15 : decode cX12_token 15 = .ok (.if_icmp .ne 16, 3) := dX12_token_0_k.2.2.2.2.2.2.2.1
theorem dX12_token_18 : decode cX12_token 18 = .ok (.aload_n 0, 1) := dX12_token_0_k.2.2.2.2.2.2.2.2.1
theorem dX12_token_19 : decode cX12_token 19 = .ok (.dup, 1) := dX12_token_0_k.2.2.2.2.2.2.2.2.2.1
theorem dX12_token_20 : decode cX12_token 20 = .ok (.getfield 39, 3) := dX12_token_0_k.2.2.2.2.2.2.2.2.2.2.1
theorem dX12_token_23 : decode cX12_token 23 = .ok (.iconst 1, 1) := dX12_token_0_k.2.2.2.2.2.2.2.2.2.2.2.1
theorem dX12_token_24 : decode cX12_token 24 = .ok (.iadd, 1) := dX12_token_0_k.2.2.2.2.2.2.2.2.2.2.2.2.1
theorem dX12_token_25 : decode cX12_token 25 = .ok (.putfield 39, 3) := dX12_token_0_k.2.2.2.2.2.2.2.2.2.2.2.2.2.1
theorem dX12_token_28 : decode cX12_token 28 = .ok (.goto (-28), 3) := dX12_token_0_k.2.2.2.2.2.2.2.2.2.2.2.2.2.2.1
theorem dX12_token_31 : decode cX12_token 31 = .ok (.aload_n 0, 1) := dX12_token_0_k.2.2.2.2.2.2.2.2.2.2.2.2.2.2.2
theorem dX12_token_32_k : decode cX12_token 32 = .ok (.aload_n 0, 1) ∧ decode cX12_token 33 = .ok (.getfield 39, 3) ∧ decode cX12_token 36 = .ok (.putfield 49, 3) ∧ decode cX12_token 39 = .ok (.aload_n 0, 1) ∧ decode cX12_token 40 = .ok (.invokevirtual 45, 3) ∧ decode cX12_token 43 = .ok (.istore_n 1, 1) ∧ decode cX12_token 44 = .ok (.aload_n 0, 1) ∧ decode cX12_token 45 = .ok (.lconst 0, 1) ∧ decode cX12_token 46 = .ok (.putfield 52, 3) ∧ decode cX12_token 49 = .ok (.iconst 0, 1) ∧ decode cX12_token 50 = .ok (.istore_n 2, 1) ∧ decode cX12_token 51 = .ok (.iload_n 1, 1) ∧ decode cX12_token 52 = .ok (.ifCond .ge 11, 3) ∧ decode cX12_token 55 = .ok (.aload_n 0, 1) ∧ decode cX12_token 56 = .ok (.iconst 0, 1) ∧ decode cX12_token 57 = .ok (.putfield 56, 3) := by decide +kernel
theorem dX12_token_32 : decode cX12_token 32 = .ok (.aload_n 0, 1) := dX12_token_32_k.1
theorem dX12_token_33 : decode cX12_token 33 = .ok (.getfield 39, 3) := dX12_token_32_k.2.1
theorem dX12_token_36 : decode cX12_token 36 = .ok (.putfield 49, 3) := dX12_token_32_k.2.2.1
theorem dX12_token_39 : decode cX12_token 39 = .ok (.aload_n 0, 1) := dX12_token_32_k.2.2.2.1
theorem dX12_token_40 : decode cX12_token 40 = .ok (.invokevirtual 45, 3) := dX12_token_32_k.2.2.2.2.1
theorem dX12_token_43 : decode cX12_token 43 = .ok (.istore_n 1, 1) := dX12_token_32_k.2.2.2.2.2.1
theorem dX12_token_44 : decode cX12_token 44 = .ok (.aload_n 0, 1) := dX12_token_32_k.2.2.2.2.2.2.1
theorem dX12_token_45 : decode cX12_token 45 = .ok (.lconst 0, 1) := dX12_token_32_k.2.2.2.2.2.2.2.1
theorem dX12_token_46 : decode cX12_token 46 = .ok (.putfield 52, 3) := dX12_token_32_k.2.2.2.2.2.2.2.2.1
theorem dX12_token_49 : decode cX12_token 49 = .ok (.iconst 0, 1) := dX12_token_32_k.2.2.2.2.2.2.2.2.2.1
theorem dX12_token_50 : decode cX12_token 50 = .ok (.istore_n 2, 1) := dX12_token_32_k.2.2.2.2.2.2.2.2.2.2.1
theorem dX12_token_51 : decode cX12_token 51 = .ok (.iload_n 1, 1) := dX12_token_32_k.2.2.2.2.2.2.2.2.2.2.2.1
theorem dX12_token_52 : decode cX12_token 52 = .ok (.ifCond .ge 11, 3) := dX12_token_32_k.2.2.2.2.2.2.2.2.2.2.2.2.1
theorem dX12_token_55 : decode cX12_token 55 = .ok (.aload_n 0, 1) := dX12_token_32_k.2.2.2.2.2.2.2.2.2.2.2.2.2.1
theorem dX12_token_56 : decode cX12_token 56 = .ok (.iconst 0, 1) := dX12_token_32_k.2.2.2.2.2.2.2.2.2.2.2.2.2.2.1
theorem dX12_token_57 : decode cX12_token 57 = .ok (.putfield 56, 3) := dX12_token_32_k.2.2.2.2.2.2.2.2.2.2.2.2.2.2.2
theorem dX12_token_60_k : decode cX12_token 60 = .ok (.goto 206, 3) ∧ decode cX12_token 63 = .ok (.iload_n 1, 1) ∧ decode cX12_token 64 = .ok (.bipush 97, 2) ∧ decode cX12_token 66 = .ok (.bipush 122, 2) ∧ decode cX12_token 68 = .ok (.invokestatic 59, 3) ∧ decode cX12_token 71 = .ok (.ifCond .eq 76, 3) ∧ decode cX12_token 74 = .ok (.aload_n 0, 1) ∧ decode cX12_token 75 = .ok (.invokevirtual 45, 3) ∧ decode cX12_token 78 = .ok (.bipush 97, 2) ∧ decode cX12_token 80 = .ok (.bipush 122, 2) ∧ decode cX12_token 82 = .ok (.invokestatic 59, 3) ∧ decode cX12_token 85 = .ok (.ifCond .eq 36, 3) ∧ decode cX12_token 88 = .ok (.aload_n 0, 1) ∧ decode cX12_token 89 = .ok (.aload_n 0, 1) ∧ decode cX12_token 90 = .ok (.getfield 52, 3) ∧ decode cX12_token 93 = .ok (.bipush 8, 2) := by decide +kernel
theorem dX12_token_60 : decode cX12_token 60 = .ok (.goto 206, 3) := dX12_token_60_k.1
theorem dX12_token_63 : decode cX12_token 63 = .ok (.iload_n 1, 1) := dX12_token_60_k.2.1
theorem dX12_token_64 : decode cX12_token 64 = .ok (.bipush 97, 2) := dX12_token_60_k.2.2.1
theorem dX12_token_66 : decode cX12_token 66 = .ok (.bipush 122, 2) := dX12_token_60_k.2.2.2.1
theorem dX12_token_68 : decode cX12_token 68 = .ok (.invokestatic 59, 3) := dX12_token_60_k.2.2.2.2.1
theorem dX12_token_71 : decode cX12_token 71 = .ok (.ifCond .eq 76, 3) := dX12_token_60_k.2.2.2.2.2.1
theorem dX12_token_74 : decode cX12_token 74 = .ok (.aload_n 0, 1) := dX12_token_60_k.2.2.2.2.2.2.1
theorem dX12_token_75 : decode cX12_token 75 = .ok (.invokevirtual 45, 3) := dX12_token_60_k.2.2.2.2.2.2.2.1
theorem dX12_token_78 : decode cX12_token 78 = .ok (.bipush 97, 2) := dX12_token_60_k.2.2.2.2.2.2.2.2.1
theorem dX12_token_80 : decode cX12_token 80 = .ok (.bipush 122, 2) := dX12_token_60_k.2.2.2.2.2.2.2.2.2.1
theorem dX12_token_82 : decode cX12_token 82 = .ok (.invokestatic 59, 3) := dX12_token_60_k.2.2.2.2.2.2.2.2.2.2.1
theorem dX12_token_85 : decode cX12_token 85 = .ok (.ifCond .eq 36, 3) := dX12_token_60_k.2.2.2.2.2.2.2.2.2.2.2.1
theorem dX12_token_88 : decode cX12_token 88 = .ok (.aload_n 0, 1) := dX12_token_60_k.2.2.2.2.2.2.2.2.2.2.2.2.1
theorem dX12_token_89 : decode cX12_token 89 = .ok (.aload_n 0, 1) := dX12_token_60_k.2.2.2.2.2.2.2.2.2.2.2.2.2.1
theorem dX12_token_90 : decode cX12_token 90 = .ok (.getfield 52, 3) := dX12_token_60_k.2.2.2.2.2.2.2.2.2.2.2.2.2.2.1
theorem dX12_token_93 : decode cX12_token 93 = .ok (.bipush 8, 2) := dX12_token_60_k.2.2.2.2.2.2.2.2.2.2.2.2.2.2.2
theorem dX12_token_95_k : decode cX12_token 95 = .ok (.lshl, 1) ∧ decode cX12_token 96 = .ok (.aload_n 0, 1) ∧ decode cX12_token 97 = .ok (.invokevirtual 45, 3) ∧ decode cX12_token 100 = .ok (.i2l, 1) ∧ decode cX12_token 101 = .ok (.lor, 1) ∧ decode cX12_token 102 = .ok (.putfield 52, 3) ∧ decode cX12_token 105 = .ok (.aload_n 0, 1) ∧ decode cX12_token 106 = .ok (.dup, 1) ∧ decode cX12_token 107 = .ok (.getfield 39, 3) ∧ decode cX12_token 110 = .ok (.iconst 1, 1) ∧ decode cX12_token 111 = .ok (.iadd, 1) ∧ decode cX12_token 112 = .ok (.putfield 39, 3) ∧ decode cX12_token 115 = .ok (.iinc 2 1, 3) ∧ decode cX12_token 118 = .ok (.goto (-44), 3) ∧ decode cX12_token 121 = .ok (.aload_n 0, 1) ∧ decode cX12_token 122 = .ok (.iload_n 2, 1) := by decide +kernel
theorem dX12_token_95 : decode cX12_token 95 = .ok (.lshl, 1) := dX12_token_95_k.1
theorem dX12_token_96 : decode cX12_token 96 = .ok (.aload_n 0, 1) := dX12_token_95_k.2.1
theorem dX12_token_97 : decode cX12_token 97 = .ok (.invokevirtual 45, 3) := dX12_token_95_k.2.2.1
theorem dX12_token_100 : decode cX12_token 100 = .ok (.i2l, 1) := dX12_token_95_k.2.2.2.1
theorem dX12_token_101 : decode cX12_token 101 = .ok (.lor, 1) := dX12_token_95_k.2.2.2.2.1
theorem dX12_token_102 : decode cX12_token 102 = .ok (.putfield 52, 3) := dX12_token_95_k.2.2.2.2.2.1
theorem dX12_token_105 : decode cX12_token 105 = .ok (.aload_n 0, 1) := dX12_token_95_k.2.2.2.2.2.2.1
theorem dX12_token_106 : decode cX12_token 106 = .ok (.dup, 1) := dX12_token_95_k.2.2.2.2.2.2.2.1
theorem dX12_token_107 : decode cX12_token 107 = .ok (.getfield 39, 3) := dX12_token_95_k.2.2.2.2.2.2.2.2.1
theorem dX12_token_110 : decode cX12_token 110 = .ok (.iconst 1, 1) := dX12_token_95_k.2.2.2.2.2.2.2.2.2.1
theorem dX12_token_111 : decode cX12_token 111 = .ok (.iadd, 1) := dX12_token_95_k.2.2.2.2.2.2.2.2.2.2.1
theorem dX12_token_112 : decode cX12_token 112 = .ok (.putfield 39, 3) := dX12_token_95_k.2.2.2.2.2.2.2.2.2.2.2.1
theorem dX12_token_115 : decode cX12_token 115 = .ok (.iinc 2 1, 3) := dX12_token_95_k.2.2.2.2.2.2.2.2.2.2.2.2.1
theorem dX12_token_118 : decode cX12_token 118 = .ok (.goto (-44), 3) := dX12_token_95_k.2.2.2.2.2.2.2.2.2.2.2.2.2.1
theorem dX12_token_121 : decode cX12_token 121 = .ok (.aload_n 0, 1) := dX12_token_95_k.2.2.2.2.2.2.2.2.2.2.2.2.2.2.1
theorem dX12_token_122 : decode cX12_token 122 = .ok (.iload_n 2, 1) := dX12_token_95_k.2.2.2.2.2.2.2.2.2.2.2.2.2.2.2
theorem dX12_token_123_k : decode cX12_token 123 = .ok (.bipush 8, 2) ∧ decode cX12_token 125 = .ok (.if_icmp .le 7, 3) ∧ decode cX12_token 128 = .ok (.lconst 0, 1) ∧ decode cX12_token 129 = .ok (.goto 7, 3) ∧ decode cX12_token 132 = .ok (.aload_n 0, 1) ∧ decode cX12_token 133 = .ok (.getfield 52, 3) ∧ decode cX12_token 136 = .ok (.putfield 52, 3) ∧ decode cX12_token 139 = .ok (.aload_n 0, 1) ∧ decode cX12_token 140 = .ok (.iconst 2, 1) ∧ decode cX12_token 141 = .ok (.putfield 56, 3) ∧ decode cX12_token 144 = .ok (.goto 122, 3) ∧ decode cX12_token 147 = .ok (.iload_n 1, 1) ∧ decode cX12_token 148 = .ok (.bipush 48, 2) ∧ decode cX12_token 150 = .ok (.bipush 57, 2) ∧ decode cX12_token 152 = .ok (.invokestatic 59, 3) ∧ decode cX12_token 155 = .ok (.ifCond .eq 86, 3) := by decide +kernel
theorem dX12_token_123 : decode cX12_token 123 = .ok (.bipush 8, 2) := dX12_token_123_k.1
theorem dX12_token_125 : decode cX12_token 125 = .ok (.if_icmp .le 7, 3) := dX12_token_123_k.2.1
theorem dX12_token_128 : decode cX12_token 128 = .ok (.lconst 0, 1) := dX12_token_123_k.2.2.1
theorem dX12_token_129 : decode cX12_token 129 = .ok (.goto 7, 3) := dX12_token_123_k.2.2.2.1
theorem dX12_token_132 : decode cX12_token 132 = .ok (.aload_n 0, 1) := dX12_token_123_k.2.2.2.2.1
theorem dX12_token_133 : decode cX12_token 133 = .ok (.getfield 52, 3) := dX12_token_123_k.2.2.2.2.2.1
theorem dX12_token_136 : decode cX12_token 136 = .ok (.putfield 52, 3) := dX12_token_123_k.2.2.2.2.2.2.1
theorem dX12_token_139 : decode cX12_token 139 = .ok (.aload_n 0, 1) := dX12_token_123_k.2.2.2.2.2.2.2.1
theorem dX12_token_140 : decode cX12_token 140 = .ok (.iconst 2, 1) := dX12_token_123_k.2.2.2.2.2.2.2.2.1
theorem dX12_token_141 : decode cX12_token 141 = .ok (.putfield 56, 3) := dX12_token_123_k.2.2.2.2.2.2.2.2.2.1
theorem dX12_token_144 : decode cX12_token 144 = .ok (.goto 122, 3) := dX12_token_123_k.2.2.2.2.2.2.2.2.2.2.1
theorem dX12_token_147 : decode cX12_token 147 = .ok (.iload_n 1, 1) := dX12_token_123_k.2.2.2.2.2.2.2.2.2.2.2.1
theorem dX12_token_148 : decode cX12_token 148 = .ok (.bipush 48, 2) := dX12_token_123_k.2.2.2.2.2.2.2.2.2.2.2.2.1
theorem dX12_token_150 : decode cX12_token 150 = .ok (.bipush 57, 2) := dX12_token_123_k.2.2.2.2.2.2.2.2.2.2.2.2.2.1
theorem dX12_token_152 : decode cX12_token 152 = .ok (.invokestatic 59, 3) := dX12_token_123_k.2.2.2.2.2.2.2.2.2.2.2.2.2.2.1
theorem dX12_token_155 : decode cX12_token 155 = .ok (.ifCond .eq 86, 3) := dX12_token_123_k.2.2.2.2.2.2.2.2.2.2.2.2.2.2.2
theorem dX12_token_158_k : decode cX12_token 158 = .ok (.aload_n 0, 1) ∧ decode cX12_token 159 = .ok (.iconst 0, 1) ∧ decode cX12_token 160 = .ok (.putfield 63, 3) ∧ decode cX12_token 163 = .ok (.aload_n 0, 1) ∧ decode cX12_token 164 = .ok (.invokevirtual 45, 3) ∧ decode cX12_token 167 = .ok (.bipush 48, 2) ∧ decode cX12_token 169 = .ok (.bipush 57, 2) ∧ decode cX12_token 171 = .ok (.invokestatic 59, 3) ∧ decode cX12_token 174 = .ok (.ifCond .eq 50, 3) ∧ decode cX12_token 177 = .ok (.aload_n 0, 1) ∧ decode cX12_token 178 = .ok (.iload_n 2, 1) ∧ decode cX12_token 179 = .ok (.iconst 4, 1) ∧ decode cX12_token 180 = .ok (.if_icmp .ge 21, 3) ∧ decode cX12_token 183 = .ok (.bipush 10, 2) ∧ decode cX12_token 185 = .ok (.aload_n 0, 1) ∧ decode cX12_token 186 = .ok (.getfield 63, 3) := by decide +kernel
theorem dX12_token_158 : decode cX12_token 158 = .ok (.aload_n 0, 1) := dX12_token_158_k.1
theorem dX12_token_159 : decode cX12_token 159 = .ok (.iconst 0, 1) := dX12_token_158_k.2.1
theorem dX12_token_160 : decode cX12_token 160 = .ok (.putfield 63, 3) := dX12_token_158_k.2.2.1
theorem dX12_token_163 : decode cX12_token 163 = .ok (.aload_n 0, 1) := dX12_token_158_k.2.2.2.1
theorem dX12_token_164 : decode cX12_token 164 = .ok (.invokevirtual 45, 3) := dX12_token_158_k.2.2.2.2.1
theorem dX12_token_167 : decode cX12_token 167 = .ok (.bipush 48, 2) := dX12_token_158_k.2.2.2.2.2.1
theorem dX12_token_169 : decode cX12_token 169 = .ok (.bipush 57, 2) := dX12_token_158_k.2.2.2.2.2.2.1
theorem dX12_token_171 : decode cX12_token 171 = .ok (.invokestatic 59, 3) := dX12_token_158_k.2.2.2.2.2.2.2.1
theorem dX12_token_174 : decode cX12_token 174 = .ok (.ifCond .eq 50, 3) := dX12_token_158_k.2.2.2.2.2.2.2.2.1
theorem dX12_token_177 : decode cX12_token 177 = .ok (.aload_n 0, 1) := dX12_token_158_k.2.2.2.2.2.2.2.2.2.1
theorem dX12_token_178 : decode cX12_token 178 = .ok (.iload_n 2, 1) := dX12_token_158_k.2.2.2.2.2.2.2.2.2.2.1
theorem dX12_token_179 : decode cX12_token 179 = .ok (.iconst 4, 1) := dX12_token_158_k.2.2.2.2.2.2.2.2.2.2.2.1
theorem dX12_token_180 : decode cX12_token 180 = .ok (.if_icmp .ge 21, 3) := dX12_token_158_k.2.2.2.2.2.2.2.2.2.2.2.2.1
theorem dX12_token_183 : decode cX12_token 183 = .ok (.bipush 10, 2) := dX12_token_158_k.2.2.2.2.2.2.2.2.2.2.2.2.2.1
theorem dX12_token_185 : decode cX12_token 185 = .ok (.aload_n 0, 1) := dX12_token_158_k.2.2.2.2.2.2.2.2.2.2.2.2.2.2.1
theorem dX12_token_186 : decode cX12_token 186 = .ok (.getfield 63, 3) := dX12_token_158_k.2.2.2.2.2.2.2.2.2.2.2.2.2.2.2
theorem dX12_token_189_k : decode cX12_token 189 = .ok (.imul, 1) ∧ decode cX12_token 190 = .ok (.aload_n 0, 1) ∧ decode cX12_token 191 = .ok (.invokevirtual 45, 3) ∧ decode cX12_token 194 = .ok (.iadd, 1) ∧ decode cX12_token 195 = .ok (.bipush 48, 2) ∧ decode cX12_token 197 = .ok (.isub, 1) ∧ decode cX12_token 198 = .ok (.goto 7, 3) ∧ decode cX12_token 201 = .ok (.aload_n 0, 1) ∧ decode cX12_token 202 = .ok (.getfield 63, 3) ∧ decode cX12_token 205 = .ok (.putfield 63, 3) ∧ decode cX12_token 208 = .ok (.aload_n 0, 1) ∧ decode cX12_token 209 = .ok (.dup, 1) ∧ decode cX12_token 210 = .ok (.getfield 39, 3) ∧ decode cX12_token 213 = .ok (.iconst 1, 1) ∧ decode cX12_token 214 = .ok (.iadd, 1) ∧ decode cX12_token 215 = .ok (.putfield 39, 3) := by decide +kernel
theorem dX12_token_189 : decode cX12_token 189 = .ok (.imul, 1) := dX12_token_189_k.1
theorem dX12_token_190 : decode cX12_token 190 = .ok (.aload_n 0, 1) := dX12_token_189_k.2.1
theorem dX12_token_191 : decode cX12_token 191 = .ok (.invokevirtual 45, 3) := dX12_token_189_k.2.2.1
theorem dX12_token_194 : decode cX12_token 194 = .ok (.iadd, 1) := dX12_token_189_k.2.2.2.1
theorem dX12_token_195 : decode cX12_token 195 = .ok (.bipush 48, 2) := dX12_token_189_k.2.2.2.2.1
theorem dX12_token_197 : decode cX12_token 197 = .ok (.isub, 1) := dX12_token_189_k.2.2.2.2.2.1
theorem dX12_token_198 : decode cX12_token 198 = .ok (.goto 7, 3) := dX12_token_189_k.2.2.2.2.2.2.1
theorem dX12_token_201 : decode cX12_token 201 = .ok (.aload_n 0, 1) := dX12_token_189_k.2.2.2.2.2.2.2.1
theorem dX12_token_202 : decode cX12_token 202 = .ok (.getfield 63, 3) := dX12_token_189_k.2.2.2.2.2.2.2.2.1
theorem dX12_token_205 : decode cX12_token 205 = .ok (.putfield 63, 3) := dX12_token_189_k.2.2.2.2.2.2.2.2.2.1
theorem dX12_token_208 : decode cX12_token 208 = .ok (.aload_n 0, 1) := dX12_token_189_k.2.2.2.2.2.2.2.2.2.2.1
theorem dX12_token_209 : decode cX12_token 209 = .ok (.dup, 1) := dX12_token_189_k.2.2.2.2.2.2.2.2.2.2.2.1
theorem dX12_token_210 : decode cX12_token 210 = .ok (.getfield 39, 3) := dX12_token_189_k.2.2.2.2.2.2.2.2.2.2.2.2.1
theorem dX12_token_213 : decode cX12_token 213 = .ok (.iconst 1, 1) := dX12_token_189_k.2.2.2.2.2.2.2.2.2.2.2.2.2.1
theorem dX12_token_214 : decode cX12_token 214 = .ok (.iadd, 1) := dX12_token_189_k.2.2.2.2.2.2.2.2.2.2.2.2.2.2.1
theorem dX12_token_215 : decode cX12_token 215 = .ok (.putfield 39, 3) := dX12_token_189_k.2.2.2.2.2.2.2.2.2.2.2.2.2.2.2
theorem dX12_token_218_k : decode cX12_token 218 = .ok (.iinc 2 1, 3) ∧ decode cX12_token 221 = .ok (.goto (-58), 3) ∧ decode cX12_token 224 = .ok (.aload_n 0, 1) ∧ decode cX12_token 225 = .ok (.iload_n 2, 1) ∧ decode cX12_token 226 = .ok (.iconst 4, 1) ∧ decode cX12_token 227 = .ok (.if_icmp .le 7, 3) ∧ decode cX12_token 230 = .ok (.iconst 1, 1) ∧ decode cX12_token 231 = .ok (.goto 4, 3) ∧ decode cX12_token 234 = .ok (.iconst 3, 1) ∧ decode cX12_token 235 = .ok (.putfield 56, 3) ∧ decode cX12_token 238 = .ok (.goto 28, 3) ∧ decode cX12_token 241 = .ok (.aload_n 0, 1) ∧ decode cX12_token 242 = .ok (.dup, 1) ∧ decode cX12_token 243 = .ok (.getfield 39, 3) ∧ decode cX12_token 246 = .ok (.iconst 1, 1) ∧ decode cX12_token 247 = .ok (.iadd, 1) := by decide +kernel
theorem dX12_token_218 : decode cX12_token 218 = .ok (.iinc 2 1, 3) := dX12_token_218_k.1
theorem dX12_token_221 : decode cX12_token 221 = .ok (.goto (-58), 3) := dX12_token_218_k.2.1
theorem dX12_token_224 : decode cX12_token 224 = .ok (.aload_n 0, 1) := dX12_token_218_k.2.2.1
theorem dX12_token_225 : decode cX12_token 225 = .ok (.iload_n 2, 1) := dX12_token_218_k.2.2.2.1
theorem dX12_token_226 : decode cX12_token 226 = .ok (.iconst 4, 1) := dX12_token_218_k.2.2.2.2.1
theorem dX12_token_227 : decode cX12_token 227 = .ok (.if_icmp .le 7, 3) := dX12_token_218_k.2.2.2.2.2.1
theorem dX12_token_230 : decode cX12_token 230 = .ok (.iconst 1, 1) := dX12_token_218_k.2.2.2.2.2.2.1
theorem dX12_token_231 : decode cX12_token 231 = .ok (.goto 4, 3) := dX12_token_218_k.2.2.2.2.2.2.2.1
theorem dX12_token_234 : decode cX12_token 234 = .ok (.iconst 3, 1) := dX12_token_218_k.2.2.2.2.2.2.2.2.1
theorem dX12_token_235 : decode cX12_token 235 = .ok (.putfield 56, 3) := dX12_token_218_k.2.2.2.2.2.2.2.2.2.1
theorem dX12_token_238 : decode cX12_token 238 = .ok (.goto 28, 3) := dX12_token_218_k.2.2.2.2.2.2.2.2.2.2.1
theorem dX12_token_241 : decode cX12_token 241 = .ok (.aload_n 0, 1) := dX12_token_218_k.2.2.2.2.2.2.2.2.2.2.2.1
theorem dX12_token_242 : decode cX12_token 242 = .ok (.dup, 1) := dX12_token_218_k.2.2.2.2.2.2.2.2.2.2.2.2.1
theorem dX12_token_243 : decode cX12_token 243 = .ok (.getfield 39, 3) := dX12_token_218_k.2.2.2.2.2.2.2.2.2.2.2.2.2.1
theorem dX12_token_246 : decode cX12_token 246 = .ok (.iconst 1, 1) := dX12_token_218_k.2.2.2.2.2.2.2.2.2.2.2.2.2.2.1
theorem dX12_token_247 : decode cX12_token 247 = .ok (.iadd, 1) := dX12_token_218_k.2.2.2.2.2.2.2.2.2.2.2.2.2.2.2
theorem dX12_token_248_k : decode cX12_token 248 = .ok (.putfield 39, 3) ∧ decode cX12_token 251 = .ok (.aload_n 0, 1) ∧ decode cX12_token 252 = .ok (.iload_n 1, 1) ∧ decode cX12_token 253 = .ok (.bipush 59, 2) ∧ decode cX12_token 255 = .ok (.if_icmp .ne 7, 3) ∧ decode cX12_token 258 = .ok (.iconst 4, 1) ∧ decode cX12_token 259 = .ok (.goto 4, 3) ∧ decode cX12_token 262 = .ok (.iconst 1, 1) ∧ decode cX12_token 263 = .ok (.putfield 56, 3) ∧ decode cX12_token 266 = .ok (.return_, 1) := by decide +kernel
theorem dX12_token_248 : decode cX12_token 248 = .ok (.putfield 39, 3) := dX12_token_248_k.1
theorem dX12_token_251 : decode cX12_token 251 = .ok (.aload_n 0, 1) := dX12_token_248_k.2.1
theorem dX12_token_252 : decode cX12_token 252 = .ok (.iload_n 1, 1) := dX12_token_248_k.2.2.1
theorem dX12_token_253 : decode cX12_token 253 = .ok (.bipush 59, 2) := dX12_token_248_k.2.2.2.1
theorem dX12_token_255 : decode cX12_token 255 = .ok (.if_icmp .ne 7, 3) := dX12_token_248_k.2.2.2.2.1
theorem dX12_token_258 : decode cX12_token 258 = .ok (.iconst 4, 1) := dX12_token_248_k.2.2.2.2.2.1
theorem dX12_token_259 : decode cX12_token 259 = .ok (.goto 4, 3) := dX12_token_248_k.2.2.2.2.2.2.1
theorem dX12_token_262 : decode cX12_token 262 = .ok (.iconst 1, 1) := dX12_token_248_k.2.2.2.2.2.2.2.1
theorem dX12_token_263 : decode cX12_token 263 = .ok (.putfield 56, 3) := dX12_token_248_k.2.2.2.2.2.2.2.2.1
theorem dX12_token_266 : decode cX12_token 266 = .ok (.return_, 1) := dX12_token_248_k.2.2.2.2.2.2.2.2.2
theorem dX12_fails_0_k : decode cX12_fails 0 = .ok (.aload_n 0, 1) ∧ decode cX12_fails 1 = .ok (.aload_n 0, 1) ∧ decode cX12_fails 2 = .ok (.getfield 49, 3) ∧ decode cX12_fails 5 = .ok (.putfield 66, 3) ∧ decode cX12_fails 8 = .ok (.iconst 0, 1) ∧ decode cX12_fails 9 = .ok (.ireturn, 1) := by decide +kernel
theorem dX12_fails_0 : decode cX12_fails 0 = .ok (.aload_n 0, 1) := dX12_fails_0_k.1
theorem dX12_fails_1 : decode cX12_fails 1 = .ok (.aload_n 0, 1) := dX12_fails_0_k.2.1
theorem dX12_fails_2 : decode cX12_fails 2 = .ok (.getfield 49, 3) := dX12_fails_0_k.2.2.1
theorem dX12_fails_5 : decode cX12_fails 5 = .ok (.putfield 66, 3) := dX12_fails_0_k.2.2.2.1
theorem dX12_fails_8 : decode cX12_fails 8 = .ok (.iconst 0, 1) := dX12_fails_0_k.2.2.2.2.1
theorem dX12_fails_9 : decode cX12_fails 9 = .ok (.ireturn, 1) := dX12_fails_0_k.2.2.2.2.2
theorem dX12_isBad_0_k : decode cX12_isBad 0 = .ok (.aload_n 0, 1) ∧ decode cX12_isBad 1 = .ok (.getfield 69, 3) ∧ decode cX12_isBad 4 = .ok (.ifCond .eq 27, 3) ∧ decode cX12_isBad 7 = .ok (.iload_n 2, 1) ∧ decode cX12_isBad 8 = .ok (.aload_n 0, 1) ∧ decode cX12_isBad 9 = .ok (.getfield 72, 3) ∧ decode cX12_isBad 12 = .ok (.if_icmp .lt 19, 3) ∧ decode cX12_isBad 15 = .ok (.iload_n 2, 1) ∧ decode cX12_isBad 16 = .ok (.aload_n 0, 1) ∧ decode cX12_isBad 17 = .ok (.getfield 72, 3) ∧ decode cX12_isBad 20 = .ok (.if_icmp .ne 21, 3) ∧ decode cX12_isBad 23 = .ok (.iload_n 1, 1) ∧ decode cX12_isBad 24 = .ok (.aload_n 0, 1) ∧ decode cX12_isBad 25 = .ok (.getfield 69, 3) ∧ decode cX12_isBad 28 = .ok (.if_icmp .ge 13, 3) ∧ decode cX12_isBad 31 = .ok (.aload_n 0, 1) := by decide +kernel
theorem dX12_isBad_0 : decode cX12_isBad 0 = .ok (.aload_n 0, 1) := dX12_isBad_0_k.1
theorem dX12_isBad_1 : decode cX12_isBad 1 = .ok (.getfield 69, 3) := dX12_isBad_0_k.2.1
theorem dX12_isBad_4 : decode cX12_isBad 4 = .ok (.ifCond .eq 27, 3) := dX12_isBad_0_k.2.2.1
theorem dX12_isBad_7 : decode cX12_isBad 7 = .ok (.iload_n 2, 1) := dX12_isBad_0_k.2.2.2.1
theorem dX12_isBad_8 : decode cX12_isBad 8 = .ok (.aload_n 0, 1) := dX12_isBad_0_k.2.2.2.2.1
theorem dX12_isBad_9 : decode cX12_isBad 9 = .ok (.getfield 72, 3) := dX12_isBad_0_k.2.2.2.2.2.1
theorem dX12_isBad_12 : decode cX12_isBad 12 = .ok (.if_icmp .lt 19, 3) := dX12_isBad_0_k.2.2.2.2.2.2.1
theorem dX12_isBad_15 : decode cX12_isBad 15 = .ok (.iload_n 2, 1) := dX12_isBad_0_k.2.2.2.2.2.2.2.1
theorem dX12_isBad_16 : decode cX12_isBad 16 = .ok (.aload_n 0, 1) := dX12_isBad_0_k.2.2.2.2.2.2.2.2.1
theorem dX12_isBad_17 : decode cX12_isBad 17 = .ok (.getfield 72, 3) := dX12_isBad_0_k.2.2.2.2.2.2.2.2.2.1
theorem dX12_isBad_20 : decode cX12_isBad 20 = .ok (.if_icmp .ne 21, 3) := dX12_isBad_0_k.2.2.2.2.2.2.2.2.2.2.1
theorem dX12_isBad_23 : decode cX12_isBad 23 = .ok (.iload_n 1, 1) := dX12_isBad_0_k.2.2.2.2.2.2.2.2.2.2.2.1
theorem dX12_isBad_24 : decode cX12_isBad 24 = .ok (.aload_n 0, 1) := dX12_isBad_0_k.2.2.2.2.2.2.2.2.2.2.2.2.1
theorem dX12_isBad_25 : decode cX12_isBad 25 = .ok (.getfield 69, 3) := dX12_isBad_0_k.2.2.2.2.2.2.2.2.2.2.2.2.2.1
theorem dX12_isBad_28 : decode cX12_isBad 28 = .ok (.if_icmp .ge 13, 3) := dX12_isBad_0_k.2.2.2.2.2.2.2.2.2.2.2.2.2.2.1
theorem dX12_isBad_31 : decode cX12_isBad 31 = .ok (.aload_n 0, 1) := dX12_isBad_0_k.2.2.2.2.2.2.2.2.2.2.2.2.2.2.2
theorem dX12_isBad_32_k : decode cX12_isBad 32 = .ok (.iload_n 1, 1) ∧ decode cX12_isBad 33 = .ok (.putfield 69, 3) ∧ decode cX12_isBad 36 = .ok (.aload_n 0, 1) ∧ decode cX12_isBad 37 = .ok (.iload_n 2, 1) ∧ decode cX12_isBad 38 = .ok (.putfield 72, 3) ∧ decode cX12_isBad 41 = .ok (.return_, 1) := by decide +kernel
theorem dX12_isBad_32 : decode cX12_isBad 32 = .ok (.iload_n 1, 1) := dX12_isBad_32_k.1
theorem dX12_isBad_33 : decode cX12_isBad 33 = .ok (.putfield 69, 3) := dX12_isBad_32_k.2.1
theorem dX12_isBad_36 : decode cX12_isBad 36 = .ok (.aload_n 0, 1) := dX12_isBad_32_k.2.2.1
theorem dX12_isBad_37 : decode cX12_isBad 37 = .ok (.iload_n 2, 1) := dX12_isBad_32_k.2.2.2.1
theorem dX12_isBad_38 : decode cX12_isBad 38 = .ok (.putfield 72, 3) := dX12_isBad_32_k.2.2.2.2.1
theorem dX12_isBad_41 : decode cX12_isBad 41 = .ok (.return_, 1) := dX12_isBad_32_k.2.2.2.2.2
theorem dX12_takes_0_k : decode cX12_takes 0 = .ok (.aload_n 0, 1) ∧ decode cX12_takes 1 = .ok (.getfield 56, 3) ∧ decode cX12_takes 4 = .ok (.iconst 3, 1) ∧ decode cX12_takes 5 = .ok (.if_icmp .eq 8, 3) ∧ decode cX12_takes 8 = .ok (.aload_n 0, 1) ∧ decode cX12_takes 9 = .ok (.invokevirtual 75, 3) ∧ decode cX12_takes 12 = .ok (.ireturn, 1) ∧ decode cX12_takes 13 = .ok (.aload_n 0, 1) ∧ decode cX12_takes 14 = .ok (.aload_n 0, 1) ∧ decode cX12_takes 15 = .ok (.getfield 63, 3) ∧ decode cX12_takes 18 = .ok (.putfield 79, 3) ∧ decode cX12_takes 21 = .ok (.aload_n 0, 1) ∧ decode cX12_takes 22 = .ok (.getfield 63, 3) ∧ decode cX12_takes 25 = .ok (.iload_n 1, 1) ∧ decode cX12_takes 26 = .ok (.iload_n 2, 1) ∧ decode cX12_takes 27 = .ok (.invokestatic 59, 3) := by decide +kernel
theorem dX12_takes_0 : decode cX12_takes 0 = .ok (.aload_n 0, 1) := dX12_takes_0_k.1
theorem dX12_takes_1 : decode cX12_takes 1 = .ok (.getfield 56, 3) := dX12_takes_0_k.2.1
theorem dX12_takes_4 : decode cX12_takes 4 = .ok (.iconst 3, 1) := dX12_takes_0_k.2.2.1
theorem dX12_takes_5 : decode cX12_takes 5 = .ok (.if_icmp .eq 8, 3) := dX12_takes_0_k.2.2.2.1
theorem dX12_takes_8 : decode cX12_takes 8 = .ok (.aload_n 0, 1) := dX12_takes_0_k.2.2.2.2.1
theorem dX12_takes_9 : decode cX12_takes 9 = .ok (.invokevirtual 75, 3) := dX12_takes_0_k.2.2.2.2.2.1
theorem dX12_takes_12 : decode cX12_takes 12 = .ok (.ireturn, 1) := dX12_takes_0_k.2.2.2.2.2.2.1
theorem dX12_takes_13 : decode cX12_takes 13 = .ok (.aload_n 0, 1) := dX12_takes_0_k.2.2.2.2.2.2.2.1
theorem dX12_takes_14 : decode cX12_takes 14 = .ok (.aload_n 0, 1) := dX12_takes_0_k.2.2.2.2.2.2.2.2.1
theorem dX12_takes_15 : decode cX12_takes 15 = .ok (.getfield 63, 3) := dX12_takes_0_k.2.2.2.2.2.2.2.2.2.1
theorem dX12_takes_18 : decode cX12_takes 18 = .ok (.putfield 79, 3) := dX12_takes_0_k.2.2.2.2.2.2.2.2.2.2.1
theorem dX12_takes_21 : decode cX12_takes 21 = .ok (.aload_n 0, 1) := dX12_takes_0_k.2.2.2.2.2.2.2.2.2.2.2.1
theorem dX12_takes_22 : decode cX12_takes 22 = .ok (.getfield 63, 3) := dX12_takes_0_k.2.2.2.2.2.2.2.2.2.2.2.2.1
theorem dX12_takes_25 : decode cX12_takes 25 = .ok (.iload_n 1, 1) := dX12_takes_0_k.2.2.2.2.2.2.2.2.2.2.2.2.2.1
theorem dX12_takes_26 : decode cX12_takes 26 = .ok (.iload_n 2, 1) := dX12_takes_0_k.2.2.2.2.2.2.2.2.2.2.2.2.2.2.1
theorem dX12_takes_27 : decode cX12_takes 27 = .ok (.invokestatic 59, 3) := dX12_takes_0_k.2.2.2.2.2.2.2.2.2.2.2.2.2.2.2
theorem dX12_takes_30_k : decode cX12_takes 30 = .ok (.ifCond .ne 12, 3) ∧ decode cX12_takes 33 = .ok (.aload_n 0, 1) ∧ decode cX12_takes 34 = .ok (.iconst 2, 1) ∧ decode cX12_takes 35 = .ok (.aload_n 0, 1) ∧ decode cX12_takes 36 = .ok (.getfield 49, 3) ∧ decode cX12_takes 39 = .ok (.invokevirtual 82, 3) ∧ decode cX12_takes 42 = .ok (.aload_n 0, 1) ∧ decode cX12_takes 43 = .ok (.invokevirtual 86, 3) ∧ decode cX12_takes 46 = .ok (.iconst 1, 1) ∧ decode cX12_takes 47 = .ok (.ireturn, 1) := by decide +kernel
theorem dX12_takes_30 : decode cX12_takes 30 = .ok (.ifCond .ne 12, 3) := dX12_takes_30_k.1
theorem dX12_takes_33 : decode cX12_takes 33 = .ok (.aload_n 0, 1) := dX12_takes_30_k.2.1
theorem dX12_takes_34 : decode cX12_takes 34 = .ok (.iconst 2, 1) := dX12_takes_30_k.2.2.1
theorem dX12_takes_35 : decode cX12_takes 35 = .ok (.aload_n 0, 1) := dX12_takes_30_k.2.2.2.1
theorem dX12_takes_36 : decode cX12_takes 36 = .ok (.getfield 49, 3) := dX12_takes_30_k.2.2.2.2.1
theorem dX12_takes_39 : decode cX12_takes 39 = .ok (.invokevirtual 82, 3) := dX12_takes_30_k.2.2.2.2.2.1
theorem dX12_takes_42 : decode cX12_takes 42 = .ok (.aload_n 0, 1) := dX12_takes_30_k.2.2.2.2.2.2.1
theorem dX12_takes_43 : decode cX12_takes 43 = .ok (.invokevirtual 86, 3) := dX12_takes_30_k.2.2.2.2.2.2.2.1
theorem dX12_takes_46 : decode cX12_takes 46 = .ok (.iconst 1, 1) := dX12_takes_30_k.2.2.2.2.2.2.2.2.1
theorem dX12_takes_47 : decode cX12_takes 47 = .ok (.ireturn, 1) := dX12_takes_30_k.2.2.2.2.2.2.2.2.2
theorem dX12_settingOf_0_k : decode cX12_settingOf 0 = .ok (.lload_n 0, 1) ∧ decode cX12_settingOf 1 = .ok (.ldc2_w 89, 3) ∧ decode cX12_settingOf 4 = .ok (.lcmp, 1) ∧ decode cX12_settingOf 5 = .ok (.ifCond .ne 7, 3) ∧ decode cX12_settingOf 8 = .ok (.iconst 0, 1) ∧ decode cX12_settingOf 9 = .ok (.goto 103, 3) ∧ decode cX12_settingOf 12 = .ok (.lload_n 0, 1) ∧ decode cX12_settingOf 13 = .ok (.ldc2_w 91, 3) ∧ decode cX12_settingOf 16 = .ok (.lcmp, 1) ∧ decode cX12_settingOf 17 = .ok (.ifCond .ne 7, 3) ∧ decode cX12_settingOf 20 = .ok (.iconst 1, 1) ∧ decode cX12_settingOf 21 = .ok (.goto 91, 3) ∧ decode cX12_settingOf 24 = .ok (.lload_n 0, 1) ∧ decode cX12_settingOf 25 = .ok (.ldc2_w 93, 3) ∧ decode cX12_settingOf 28 = .ok (.lcmp, 1) ∧ decode cX12_settingOf 29 = .ok (.ifCond .ne 7, 3) := by decide +kernel
theorem dX12_settingOf_0 : decode cX12_settingOf 0 = .ok (.lload_n 0, 1) := dX12_settingOf_0_k.1
theorem dX12_settingOf_1 : decode cX12_settingOf 1 = .ok (.ldc2_w 89, 3) := dX12_settingOf_0_k.2.1
theorem dX12_settingOf_4 : decode cX12_settingOf 4 = .ok (.lcmp, 1) := dX12_settingOf_0_k.2.2.1
theorem dX12_settingOf_5 : decode cX12_settingOf 5 = .ok (.ifCond .ne 7, 3) := dX12_settingOf_0_k.2.2.2.1
theorem dX12_settingOf_8 : decode cX12_settingOf 8 = .ok (.iconst 0, 1) := dX12_settingOf_0_k.2.2.2.2.1
theorem dX12_settingOf_9 : decode cX12_settingOf 9 = .ok (.goto 103, 3) := dX12_settingOf_0_k.2.2.2.2.2.1
theorem dX12_settingOf_12 : decode cX12_settingOf 12 = .ok (.lload_n 0, 1) := dX12_settingOf_0_k.2.2.2.2.2.2.1
theorem dX12_settingOf_13 : decode cX12_settingOf 13 = .ok (.ldc2_w 91, 3) := dX12_settingOf_0_k.2.2.2.2.2.2.2.1
theorem dX12_settingOf_16 : decode cX12_settingOf 16 = .ok (.lcmp, 1) := dX12_settingOf_0_k.2.2.2.2.2.2.2.2.1
theorem dX12_settingOf_17 : decode cX12_settingOf 17 = .ok (.ifCond .ne 7, 3) := dX12_settingOf_0_k.2.2.2.2.2.2.2.2.2.1
theorem dX12_settingOf_20 : decode cX12_settingOf 20 = .ok (.iconst 1, 1) := dX12_settingOf_0_k.2.2.2.2.2.2.2.2.2.2.1
theorem dX12_settingOf_21 : decode cX12_settingOf 21 = .ok (.goto 91, 3) := dX12_settingOf_0_k.2.2.2.2.2.2.2.2.2.2.2.1
theorem dX12_settingOf_24 : decode cX12_settingOf 24 = .ok (.lload_n 0, 1) := dX12_settingOf_0_k.2.2.2.2.2.2.2.2.2.2.2.2.1
theorem dX12_settingOf_25 : decode cX12_settingOf 25 = .ok (.ldc2_w 93, 3) := dX12_settingOf_0_k.2.2.2.2.2.2.2.2.2.2.2.2.2.1
theorem dX12_settingOf_28 : decode cX12_settingOf 28 = .ok (.lcmp, 1) := dX12_settingOf_0_k.2.2.2.2.2.2.2.2.2.2.2.2.2.2.1
theorem dX12_settingOf_29 : decode cX12_settingOf 29 = .ok (.ifCond .ne 7, 3) := dX12_settingOf_0_k.2.2.2.2.2.2.2.2.2.2.2.2.2.2.2
theorem dX12_settingOf_32_k : decode cX12_settingOf 32 = .ok (.iconst 2, 1) ∧ decode cX12_settingOf 33 = .ok (.goto 79, 3) ∧ decode cX12_settingOf 36 = .ok (.lload_n 0, 1) ∧ decode cX12_settingOf 37 = .ok (.ldc2_w 95, 3) ∧ decode cX12_settingOf 40 = .ok (.lcmp, 1) ∧ decode cX12_settingOf 41 = .ok (.ifCond .ne 7, 3) ∧ decode cX12_settingOf 44 = .ok (.iconst 3, 1) ∧ decode cX12_settingOf 45 = .ok (.goto 67, 3) ∧ decode cX12_settingOf 48 = .ok (.lload_n 0, 1) ∧ decode cX12_settingOf 49 = .ok (.ldc2_w 97, 3) ∧ decode cX12_settingOf 52 = .ok (.lcmp, 1) ∧ decode cX12_settingOf 53 = .ok (.ifCond .ne 7, 3) ∧ decode cX12_settingOf 56 = .ok (.iconst 4, 1) ∧ decode cX12_settingOf 57 = .ok (.goto 55, 3) ∧ decode cX12_settingOf 60 = .ok (.lload_n 0, 1) ∧ decode cX12_settingOf 61 = .ok (.ldc2_w 99, 3) := by decide +kernel
theorem dX12_settingOf_32 : decode cX12_settingOf 32 = .ok (.iconst 2, 1) := dX12_settingOf_32_k.1
theorem dX12_settingOf_33 : decode cX12_settingOf 33 = .ok (.goto 79, 3) := dX12_settingOf_32_k.2.1
theorem dX12_settingOf_36 : decode cX12_settingOf 36 = .ok (.lload_n 0, 1) := dX12_settingOf_32_k.2.2.1
theorem dX12_settingOf_37 : decode cX12_settingOf 37 = .ok (.ldc2_w 95, 3) := dX12_settingOf_32_k.2.2.2.1
theorem dX12_settingOf_40 : decode cX12_settingOf 40 = .ok (.lcmp, 1) := dX12_settingOf_32_k.2.2.2.2.1
theorem dX12_settingOf_41 : decode cX12_settingOf 41 = .ok (.ifCond .ne 7, 3) := dX12_settingOf_32_k.2.2.2.2.2.1
theorem dX12_settingOf_44 : decode cX12_settingOf 44 = .ok (.iconst 3, 1) := dX12_settingOf_32_k.2.2.2.2.2.2.1
theorem dX12_settingOf_45 : decode cX12_settingOf 45 = .ok (.goto 67, 3) := dX12_settingOf_32_k.2.2.2.2.2.2.2.1
theorem dX12_settingOf_48 : decode cX12_settingOf 48 = .ok (.lload_n 0, 1) := dX12_settingOf_32_k.2.2.2.2.2.2.2.2.1
theorem dX12_settingOf_49 : decode cX12_settingOf 49 = .ok (.ldc2_w 97, 3) := dX12_settingOf_32_k.2.2.2.2.2.2.2.2.2.1
theorem dX12_settingOf_52 : decode cX12_settingOf 52 = .ok (.lcmp, 1) := dX12_settingOf_32_k.2.2.2.2.2.2.2.2.2.2.1
theorem dX12_settingOf_53 : decode cX12_settingOf 53 = .ok (.ifCond .ne 7, 3) := dX12_settingOf_32_k.2.2.2.2.2.2.2.2.2.2.2.1
theorem dX12_settingOf_56 : decode cX12_settingOf 56 = .ok (.iconst 4, 1) := dX12_settingOf_32_k.2.2.2.2.2.2.2.2.2.2.2.2.1
theorem dX12_settingOf_57 : decode cX12_settingOf 57 = .ok (.goto 55, 3) := dX12_settingOf_32_k.2.2.2.2.2.2.2.2.2.2.2.2.2.1
theorem dX12_settingOf_60 : decode cX12_settingOf 60 = .ok (.lload_n 0, 1) := dX12_settingOf_32_k.2.2.2.2.2.2.2.2.2.2.2.2.2.2.1
theorem dX12_settingOf_61 : decode cX12_settingOf 61 = .ok (.ldc2_w 99, 3) := dX12_settingOf_32_k.2.2.2.2.2.2.2.2.2.2.2.2.2.2.2
theorem dX12_settingOf_64_k : decode cX12_settingOf 64 = .ok (.lcmp, 1) ∧ decode cX12_settingOf 65 = .ok (.ifCond .ne 7, 3) ∧ decode cX12_settingOf 68 = .ok (.iconst 5, 1) ∧ decode cX12_settingOf 69 = .ok (.goto 43, 3) ∧ decode cX12_settingOf 72 = .ok (.lload_n 0, 1) ∧ decode cX12_settingOf 73 = .ok (.ldc2_w 101, 3) ∧ decode cX12_settingOf 76 = .ok (.lcmp, 1) ∧ decode cX12_settingOf 77 = .ok (.ifCond .ne 8, 3) ∧ decode cX12_settingOf 80 = .ok (.bipush 6, 2) ∧ decode cX12_settingOf 82 = .ok (.goto 30, 3) ∧ decode cX12_settingOf 85 = .ok (.lload_n 0, 1) ∧ decode cX12_settingOf 86 = .ok (.ldc2_w 103, 3) ∧ decode cX12_settingOf 89 = .ok (.lcmp, 1) ∧ decode cX12_settingOf 90 = .ok (.ifCond .ne 8, 3) ∧ decode cX12_settingOf 93 = .ok (.bipush 7, 2) ∧ decode cX12_settingOf 95 = .ok (.goto 17, 3) := by decide +kernel
theorem dX12_settingOf_64 : decode cX12_settingOf 64 = .ok (.lcmp, 1) := dX12_settingOf_64_k.1
theorem dX12_settingOf_65 : decode cX12_settingOf 65 = .ok (.ifCond .ne 7, 3) := dX12_settingOf_64_k.2.1
theorem dX12_settingOf_68 : decode cX12_settingOf 68 = .ok (.iconst 5, 1) := dX12_settingOf_64_k.2.2.1
theorem dX12_settingOf_69 : decode cX12_settingOf 69 = .ok (.goto 43, 3) := dX12_settingOf_64_k.2.2.2.1
theorem dX12_settingOf_72 : decode cX12_settingOf 72 = .ok (.lload_n 0, 1) := dX12_settingOf_64_k.2.2.2.2.1
theorem dX12_settingOf_73 : decode cX12_settingOf 73 = .ok (.ldc2_w 101, 3) := dX12_settingOf_64_k.2.2.2.2.2.1
theorem dX12_settingOf_76 : decode cX12_settingOf 76 = .ok (.lcmp, 1) := dX12_settingOf_64_k.2.2.2.2.2.2.1
theorem dX12_settingOf_77 : decode cX12_settingOf 77 = .ok (.ifCond .ne 8, 3) := dX12_settingOf_64_k.2.2.2.2.2.2.2.1
theorem dX12_settingOf_80 : decode cX12_settingOf 80 = .ok (.bipush 6, 2) := dX12_settingOf_64_k.2.2.2.2.2.2.2.2.1
theorem dX12_settingOf_82 : decode cX12_settingOf 82 = .ok (.goto 30, 3) := dX12_settingOf_64_k.2.2.2.2.2.2.2.2.2.1
theorem dX12_settingOf_85 : decode cX12_settingOf 85 = .ok (.lload_n 0, 1) := dX12_settingOf_64_k.2.2.2.2.2.2.2.2.2.2.1
theorem dX12_settingOf_86 : decode cX12_settingOf 86 = .ok (.ldc2_w 103, 3) := dX12_settingOf_64_k.2.2.2.2.2.2.2.2.2.2.2.1
theorem dX12_settingOf_89 : decode cX12_settingOf 89 = .ok (.lcmp, 1) := dX12_settingOf_64_k.2.2.2.2.2.2.2.2.2.2.2.2.1
theorem dX12_settingOf_90 : decode cX12_settingOf 90 = .ok (.ifCond .ne 8, 3) := dX12_settingOf_64_k.2.2.2.2.2.2.2.2.2.2.2.2.2.1
theorem dX12_settingOf_93 : decode cX12_settingOf 93 = .ok (.bipush 7, 2) := dX12_settingOf_64_k.2.2.2.2.2.2.2.2.2.2.2.2.2.2.1
theorem dX12_settingOf_95 : decode cX12_settingOf 95 = .ok (.goto 17, 3) := dX12_settingOf_64_k.2.2.2.2.2.2.2.2.2.2.2.2.2.2.2
theorem dX12_settingOf_98_k : decode cX12_settingOf 98 = .ok (.lload_n 0, 1) ∧ decode cX12_settingOf 99 = .ok (.ldc2_w 105, 3) ∧ decode cX12_settingOf 102 = .ok (.lcmp, 1) ∧ decode cX12_settingOf 103 = .ok (.ifCond .ne 8, 3) ∧ decode cX12_settingOf 106 = .ok (.bipush 8, 2) ∧ decode cX12_settingOf 108 = .ok (.goto 4, 3) ∧ decode cX12_settingOf 111 = .ok (.iconst (-1), 1) ∧ decode cX12_settingOf 112 = .ok (.ireturn, 1) := by decide +kernel
theorem dX12_settingOf_98 : decode cX12_settingOf 98 = .ok (.lload_n 0, 1) := dX12_settingOf_98_k.1
theorem dX12_settingOf_99 : decode cX12_settingOf 99 = .ok (.ldc2_w 105, 3) := dX12_settingOf_98_k.2.1
theorem dX12_settingOf_102 : decode cX12_settingOf 102 = .ok (.lcmp, 1) := dX12_settingOf_98_k.2.2.1
theorem dX12_settingOf_103 : decode cX12_settingOf 103 = .ok (.ifCond .ne 8, 3) := dX12_settingOf_98_k.2.2.2.1
theorem dX12_settingOf_106 : decode cX12_settingOf 106 = .ok (.bipush 8, 2) := dX12_settingOf_98_k.2.2.2.2.1
theorem dX12_settingOf_108 : decode cX12_settingOf 108 = .ok (.goto 4, 3) := dX12_settingOf_98_k.2.2.2.2.2.1
theorem dX12_settingOf_111 : decode cX12_settingOf 111 = .ok (.iconst (-1), 1) := dX12_settingOf_98_k.2.2.2.2.2.2.1
theorem dX12_settingOf_112 : decode cX12_settingOf 112 = .ok (.ireturn, 1) := dX12_settingOf_98_k.2.2.2.2.2.2.2
theorem dX12_leastOf_0_k : decode cX12_leastOf 0 = .ok (.iload_n 0, 1) ∧ decode cX12_leastOf 1 = .ok (.tableswitch 48 0 5 #[39, 46, 42, 48, 44, 46], 39) ∧ decode cX12_leastOf 40 = .ok (.bipush 8, 2) ∧ decode cX12_leastOf 42 = .ok (.ireturn, 1) ∧ decode cX12_leastOf 43 = .ok (.iconst 4, 1) ∧ decode cX12_leastOf 44 = .ok (.ireturn, 1) ∧ decode cX12_leastOf 45 = .ok (.iconst 2, 1) ∧ decode cX12_leastOf 46 = .ok (.ireturn, 1) ∧ decode cX12_leastOf 47 = .ok (.iconst 1, 1) ∧ decode cX12_leastOf 48 = .ok (.ireturn, 1) ∧ decode cX12_leastOf 49 = .ok (.iconst 0, 1) ∧ decode cX12_leastOf 50 = .ok (.ireturn, 1) := by decide +kernel
theorem dX12_leastOf_0 : decode cX12_leastOf 0 = .ok (.iload_n 0, 1) := dX12_leastOf_0_k.1
theorem dX12_leastOf_1 : decode cX12_leastOf 1 = .ok (.tableswitch 48 0 5 #[39, 46, 42, 48, 44, 46], 39) := dX12_leastOf_0_k.2.1
theorem dX12_leastOf_40 : decode cX12_leastOf 40 = .ok (.bipush 8, 2) := dX12_leastOf_0_k.2.2.1
theorem dX12_leastOf_42 : decode cX12_leastOf 42 = .ok (.ireturn, 1) := dX12_leastOf_0_k.2.2.2.1
theorem dX12_leastOf_43 : decode cX12_leastOf 43 = .ok (.iconst 4, 1) := dX12_leastOf_0_k.2.2.2.2.1
theorem dX12_leastOf_44 : decode cX12_leastOf 44 = .ok (.ireturn, 1) := dX12_leastOf_0_k.2.2.2.2.2.1
theorem dX12_leastOf_45 : decode cX12_leastOf 45 = .ok (.iconst 2, 1) := dX12_leastOf_0_k.2.2.2.2.2.2.1
theorem dX12_leastOf_46 : decode cX12_leastOf 46 = .ok (.ireturn, 1) := dX12_leastOf_0_k.2.2.2.2.2.2.2.1
theorem dX12_leastOf_47 : decode cX12_leastOf 47 = .ok (.iconst 1, 1) := dX12_leastOf_0_k.2.2.2.2.2.2.2.2.1
theorem dX12_leastOf_48 : decode cX12_leastOf 48 = .ok (.ireturn, 1) := dX12_leastOf_0_k.2.2.2.2.2.2.2.2.2.1
theorem dX12_leastOf_49 : decode cX12_leastOf 49 = .ok (.iconst 0, 1) := dX12_leastOf_0_k.2.2.2.2.2.2.2.2.2.2.1
theorem dX12_leastOf_50 : decode cX12_leastOf 50 = .ok (.ireturn, 1) := dX12_leastOf_0_k.2.2.2.2.2.2.2.2.2.2.2
theorem dX12_mostOf_0_k : decode cX12_mostOf 0 = .ok (.iload_n 0, 1) ∧ decode cX12_mostOf 1 = .ok (.tableswitch 63 0 7 #[47, 50, 47, 53, 57, 60, 60, 47], 47) ∧ decode cX12_mostOf 48 = .ok (.bipush 15, 2) ∧ decode cX12_mostOf 50 = .ok (.ireturn, 1) ∧ decode cX12_mostOf 51 = .ok (.bipush 40, 2) ∧ decode cX12_mostOf 53 = .ok (.ireturn, 1) ∧ decode cX12_mostOf 54 = .ok (.sipush 200, 3) ∧ decode cX12_mostOf 57 = .ok (.ireturn, 1) ∧ decode cX12_mostOf 58 = .ok (.bipush 64, 2) ∧ decode cX12_mostOf 60 = .ok (.ireturn, 1) ∧ decode cX12_mostOf 61 = .ok (.bipush 16, 2) ∧ decode cX12_mostOf 63 = .ok (.ireturn, 1) ∧ decode cX12_mostOf 64 = .ok (.sipush 9999, 3) ∧ decode cX12_mostOf 67 = .ok (.ireturn, 1) := by decide +kernel
theorem dX12_mostOf_0 : decode cX12_mostOf 0 = .ok (.iload_n 0, 1) := dX12_mostOf_0_k.1
theorem dX12_mostOf_1 : decode cX12_mostOf 1 = .ok (.tableswitch 63 0 7 #[47, 50, 47, 53, 57, 60, 60, 47], 47) := dX12_mostOf_0_k.2.1
theorem dX12_mostOf_48 : decode cX12_mostOf 48 = .ok (.bipush 15, 2) := dX12_mostOf_0_k.2.2.1
theorem dX12_mostOf_50 : decode cX12_mostOf 50 = .ok (.ireturn, 1) := dX12_mostOf_0_k.2.2.2.1
theorem dX12_mostOf_51 : decode cX12_mostOf 51 = .ok (.bipush 40, 2) := dX12_mostOf_0_k.2.2.2.2.1
theorem dX12_mostOf_53 : decode cX12_mostOf 53 = .ok (.ireturn, 1) := dX12_mostOf_0_k.2.2.2.2.2.1
theorem dX12_mostOf_54 : decode cX12_mostOf 54 = .ok (.sipush 200, 3) := dX12_mostOf_0_k.2.2.2.2.2.2.1
theorem dX12_mostOf_57 : decode cX12_mostOf 57 = .ok (.ireturn, 1) := dX12_mostOf_0_k.2.2.2.2.2.2.2.1
theorem dX12_mostOf_58 : decode cX12_mostOf 58 = .ok (.bipush 64, 2) := dX12_mostOf_0_k.2.2.2.2.2.2.2.2.1
theorem dX12_mostOf_60 : decode cX12_mostOf 60 = .ok (.ireturn, 1) := dX12_mostOf_0_k.2.2.2.2.2.2.2.2.2.1
theorem dX12_mostOf_61 : decode cX12_mostOf 61 = .ok (.bipush 16, 2) := dX12_mostOf_0_k.2.2.2.2.2.2.2.2.2.2.1
theorem dX12_mostOf_63 : decode cX12_mostOf 63 = .ok (.ireturn, 1) := dX12_mostOf_0_k.2.2.2.2.2.2.2.2.2.2.2.1
theorem dX12_mostOf_64 : decode cX12_mostOf 64 = .ok (.sipush 9999, 3) := dX12_mostOf_0_k.2.2.2.2.2.2.2.2.2.2.2.2.1
theorem dX12_mostOf_67 : decode cX12_mostOf 67 = .ok (.ireturn, 1) := dX12_mostOf_0_k.2.2.2.2.2.2.2.2.2.2.2.2.2
theorem dX12_stuckLine_0_k : decode cX12_stuckLine 0 = .ok (.aload_n 0, 1) ∧ decode cX12_stuckLine 1 = .ok (.getfield 21, 3) ∧ decode cX12_stuckLine 4 = .ok (.bipush 9, 2) ∧ decode cX12_stuckLine 6 = .ok (.iaload, 1) ∧ decode cX12_stuckLine 7 = .ok (.iconst 4, 1) ∧ decode cX12_stuckLine 8 = .ok (.if_icmp .ne 12, 3) ∧ decode cX12_stuckLine 11 = .ok (.aload_n 0, 1) ∧ decode cX12_stuckLine 12 = .ok (.iconst 3, 1) ∧ decode cX12_stuckLine 13 = .ok (.aload_n 0, 1) ∧ decode cX12_stuckLine 14 = .ok (.getfield 49, 3) ∧ decode cX12_stuckLine 17 = .ok (.invokevirtual 82, 3) ∧ decode cX12_stuckLine 20 = .ok (.aload_n 0, 1) ∧ decode cX12_stuckLine 21 = .ok (.invokevirtual 86, 3) ∧ decode cX12_stuckLine 24 = .ok (.aload_n 0, 1) ∧ decode cX12_stuckLine 25 = .ok (.iconst 0, 1) ∧ decode cX12_stuckLine 26 = .ok (.sipush 9999, 3) := by decide +kernel
theorem dX12_stuckLine_0 : decode cX12_stuckLine 0 = .ok (.aload_n 0, 1) := dX12_stuckLine_0_k.1
theorem dX12_stuckLine_1 : decode cX12_stuckLine 1 = .ok (.getfield 21, 3) := dX12_stuckLine_0_k.2.1
theorem dX12_stuckLine_4 : decode cX12_stuckLine 4 = .ok (.bipush 9, 2) := dX12_stuckLine_0_k.2.2.1
theorem dX12_stuckLine_6 : decode cX12_stuckLine 6 = .ok (.iaload, 1) := dX12_stuckLine_0_k.2.2.2.1
theorem dX12_stuckLine_7 : decode cX12_stuckLine 7 = .ok (.iconst 4, 1) := dX12_stuckLine_0_k.2.2.2.2.1
theorem dX12_stuckLine_8 : decode cX12_stuckLine 8 = .ok (.if_icmp .ne 12, 3) := dX12_stuckLine_0_k.2.2.2.2.2.1
theorem dX12_stuckLine_11 : decode cX12_stuckLine 11 = .ok (.aload_n 0, 1) := dX12_stuckLine_0_k.2.2.2.2.2.2.1
theorem dX12_stuckLine_12 : decode cX12_stuckLine 12 = .ok (.iconst 3, 1) := dX12_stuckLine_0_k.2.2.2.2.2.2.2.1
theorem dX12_stuckLine_13 : decode cX12_stuckLine 13 = .ok (.aload_n 0, 1) := dX12_stuckLine_0_k.2.2.2.2.2.2.2.2.1
theorem dX12_stuckLine_14 : decode cX12_stuckLine 14 = .ok (.getfield 49, 3) := dX12_stuckLine_0_k.2.2.2.2.2.2.2.2.2.1
theorem dX12_stuckLine_17 : decode cX12_stuckLine 17 = .ok (.invokevirtual 82, 3) := dX12_stuckLine_0_k.2.2.2.2.2.2.2.2.2.2.1
theorem dX12_stuckLine_20 : decode cX12_stuckLine 20 = .ok (.aload_n 0, 1) := dX12_stuckLine_0_k.2.2.2.2.2.2.2.2.2.2.2.1
theorem dX12_stuckLine_21 : decode cX12_stuckLine 21 = .ok (.invokevirtual 86, 3) := dX12_stuckLine_0_k.2.2.2.2.2.2.2.2.2.2.2.2.1
theorem dX12_stuckLine_24 : decode cX12_stuckLine 24 = .ok (.aload_n 0, 1) := dX12_stuckLine_0_k.2.2.2.2.2.2.2.2.2.2.2.2.2.1
theorem dX12_stuckLine_25 : decode cX12_stuckLine 25 = .ok (.iconst 0, 1) := dX12_stuckLine_0_k.2.2.2.2.2.2.2.2.2.2.2.2.2.2.1
theorem dX12_stuckLine_26 : decode cX12_stuckLine 26 = .ok (.sipush 9999, 3) := dX12_stuckLine_0_k.2.2.2.2.2.2.2.2.2.2.2.2.2.2.2
theorem dX12_stuckLine_29_k : decode cX12_stuckLine 29 = .ok (.invokevirtual 107, 3) ∧ decode cX12_stuckLine 32 = .ok (.ifCond .ne 5, 3) ∧ decode cX12_stuckLine 35 = .ok (.iconst 0, 1) ∧ decode cX12_stuckLine 36 = .ok (.ireturn, 1) ∧ decode cX12_stuckLine 37 = .ok (.aload_n 0, 1) ∧ decode cX12_stuckLine 38 = .ok (.getfield 79, 3) ∧ decode cX12_stuckLine 41 = .ok (.istore_n 1, 1) ∧ decode cX12_stuckLine 42 = .ok (.aload_n 0, 1) ∧ decode cX12_stuckLine 43 = .ok (.iload_n 1, 1) ∧ decode cX12_stuckLine 44 = .ok (.sipush 9999, 3) ∧ decode cX12_stuckLine 47 = .ok (.invokevirtual 107, 3) ∧ decode cX12_stuckLine 50 = .ok (.ifCond .ne 5, 3) ∧ decode cX12_stuckLine 53 = .ok (.iconst 0, 1) ∧ decode cX12_stuckLine 54 = .ok (.ireturn, 1) ∧ decode cX12_stuckLine 55 = .ok (.aload_n 0, 1) ∧ decode cX12_stuckLine 56 = .ok (.getfield 79, 3) := by decide +kernel
theorem dX12_stuckLine_29 : decode cX12_stuckLine 29 = .ok (.invokevirtual 107, 3) := dX12_stuckLine_29_k.1
theorem dX12_stuckLine_32 : decode cX12_stuckLine 32 = .ok (.ifCond .ne 5, 3) := dX12_stuckLine_29_k.2.1
theorem dX12_stuckLine_35 : decode cX12_stuckLine 35 = .ok (.iconst 0, 1) := dX12_stuckLine_29_k.2.2.1
theorem dX12_stuckLine_36 : decode cX12_stuckLine 36 = .ok (.ireturn, 1) := dX12_stuckLine_29_k.2.2.2.1
theorem dX12_stuckLine_37 : decode cX12_stuckLine 37 = .ok (.aload_n 0, 1) := dX12_stuckLine_29_k.2.2.2.2.1
theorem dX12_stuckLine_38 : decode cX12_stuckLine 38 = .ok (.getfield 79, 3) := dX12_stuckLine_29_k.2.2.2.2.2.1
theorem dX12_stuckLine_41 : decode cX12_stuckLine 41 = .ok (.istore_n 1, 1) := dX12_stuckLine_29_k.2.2.2.2.2.2.1
theorem dX12_stuckLine_42 : decode cX12_stuckLine 42 = .ok (.aload_n 0, 1) := dX12_stuckLine_29_k.2.2.2.2.2.2.2.1
theorem dX12_stuckLine_43 : decode cX12_stuckLine 43 = .ok (.iload_n 1, 1) := dX12_stuckLine_29_k.2.2.2.2.2.2.2.2.1
theorem dX12_stuckLine_44 : decode cX12_stuckLine 44 = .ok (.sipush 9999, 3) := dX12_stuckLine_29_k.2.2.2.2.2.2.2.2.2.1
theorem dX12_stuckLine_47 : decode cX12_stuckLine 47 = .ok (.invokevirtual 107, 3) := dX12_stuckLine_29_k.2.2.2.2.2.2.2.2.2.2.1
theorem dX12_stuckLine_50 : decode cX12_stuckLine 50 = .ok (.ifCond .ne 5, 3) := dX12_stuckLine_29_k.2.2.2.2.2.2.2.2.2.2.2.1
theorem dX12_stuckLine_53 : decode cX12_stuckLine 53 = .ok (.iconst 0, 1) := dX12_stuckLine_29_k.2.2.2.2.2.2.2.2.2.2.2.2.1
theorem dX12_stuckLine_54 : decode cX12_stuckLine 54 = .ok (.ireturn, 1) := dX12_stuckLine_29_k.2.2.2.2.2.2.2.2.2.2.2.2.2.1
theorem dX12_stuckLine_55 : decode cX12_stuckLine 55 = .ok (.aload_n 0, 1) := dX12_stuckLine_29_k.2.2.2.2.2.2.2.2.2.2.2.2.2.2.1
theorem dX12_stuckLine_56 : decode cX12_stuckLine 56 = .ok (.getfield 79, 3) := dX12_stuckLine_29_k.2.2.2.2.2.2.2.2.2.2.2.2.2.2.2
theorem dX12_stuckLine_59_k : decode cX12_stuckLine 59 = .ok (.istore_n 2, 1) ∧ decode cX12_stuckLine 60 = .ok (.aload_n 0, 1) ∧ decode cX12_stuckLine 61 = .ok (.iconst 0, 1) ∧ decode cX12_stuckLine 62 = .ok (.iconst 1, 1) ∧ decode cX12_stuckLine 63 = .ok (.invokevirtual 107, 3) ∧ decode cX12_stuckLine 66 = .ok (.ifCond .ne 5, 3) ∧ decode cX12_stuckLine 69 = .ok (.iconst 0, 1) ∧ decode cX12_stuckLine 70 = .ok (.ireturn, 1) ∧ decode cX12_stuckLine 71 = .ok (.aload_n 0, 1) ∧ decode cX12_stuckLine 72 = .ok (.getfield 21, 3) ∧ decode cX12_stuckLine 75 = .ok (.bipush 9, 2) ∧ decode cX12_stuckLine 77 = .ok (.iaload, 1) ∧ decode cX12_stuckLine 78 = .ok (.iconst 4, 1) ∧ decode cX12_stuckLine 79 = .ok (.if_icmp .ge 55, 3) ∧ decode cX12_stuckLine 82 = .ok (.bipush 10, 2) ∧ decode cX12_stuckLine 84 = .ok (.iconst 3, 1) := by decide +kernel
theorem dX12_stuckLine_59 : decode cX12_stuckLine 59 = .ok (.istore_n 2, 1) := dX12_stuckLine_59_k.1
theorem dX12_stuckLine_60 : decode cX12_stuckLine 60 = .ok (.aload_n 0, 1) := dX12_stuckLine_59_k.2.1
theorem dX12_stuckLine_61 : decode cX12_stuckLine 61 = .ok (.iconst 0, 1) := dX12_stuckLine_59_k.2.2.1
theorem dX12_stuckLine_62 : decode cX12_stuckLine 62 = .ok (.iconst 1, 1) := dX12_stuckLine_59_k.2.2.2.1
theorem dX12_stuckLine_63 : decode cX12_stuckLine 63 = .ok (.invokevirtual 107, 3) := dX12_stuckLine_59_k.2.2.2.2.1
theorem dX12_stuckLine_66 : decode cX12_stuckLine 66 = .ok (.ifCond .ne 5, 3) := dX12_stuckLine_59_k.2.2.2.2.2.1
theorem dX12_stuckLine_69 : decode cX12_stuckLine 69 = .ok (.iconst 0, 1) := dX12_stuckLine_59_k.2.2.2.2.2.2.1
theorem dX12_stuckLine_70 : decode cX12_stuckLine 70 = .ok (.ireturn, 1) := dX12_stuckLine_59_k.2.2.2.2.2.2.2.1
theorem dX12_stuckLine_71 : decode cX12_stuckLine 71 = .ok (.aload_n 0, 1) := dX12_stuckLine_59_k.2.2.2.2.2.2.2.2.1
theorem dX12_stuckLine_72 : decode cX12_stuckLine 72 = .ok (.getfield 21, 3) := dX12_stuckLine_59_k.2.2.2.2.2.2.2.2.2.1
theorem dX12_stuckLine_75 : decode cX12_stuckLine 75 = .ok (.bipush 9, 2) := dX12_stuckLine_59_k.2.2.2.2.2.2.2.2.2.2.1
theorem dX12_stuckLine_77 : decode cX12_stuckLine 77 = .ok (.iaload, 1) := dX12_stuckLine_59_k.2.2.2.2.2.2.2.2.2.2.2.1
theorem dX12_stuckLine_78 : decode cX12_stuckLine 78 = .ok (.iconst 4, 1) := dX12_stuckLine_59_k.2.2.2.2.2.2.2.2.2.2.2.2.1
theorem dX12_stuckLine_79 : decode cX12_stuckLine 79 = .ok (.if_icmp .ge 55, 3) := dX12_stuckLine_59_k.2.2.2.2.2.2.2.2.2.2.2.2.2.1
theorem dX12_stuckLine_82 : decode cX12_stuckLine 82 = .ok (.bipush 10, 2) := dX12_stuckLine_59_k.2.2.2.2.2.2.2.2.2.2.2.2.2.2.1
theorem dX12_stuckLine_84 : decode cX12_stuckLine 84 = .ok (.iconst 3, 1) := dX12_stuckLine_59_k.2.2.2.2.2.2.2.2.2.2.2.2.2.2.2
theorem dX12_stuckLine_85_k : decode cX12_stuckLine 85 = .ok (.aload_n 0, 1) ∧ decode cX12_stuckLine 86 = .ok (.getfield 21, 3) ∧ decode cX12_stuckLine 89 = .ok (.bipush 9, 2) ∧ decode cX12_stuckLine 91 = .ok (.iaload, 1) ∧ decode cX12_stuckLine 92 = .ok (.imul, 1) ∧ decode cX12_stuckLine 93 = .ok (.iadd, 1) ∧ decode cX12_stuckLine 94 = .ok (.istore_n 3, 1) ∧ decode cX12_stuckLine 95 = .ok (.aload_n 0, 1) ∧ decode cX12_stuckLine 96 = .ok (.getfield 21, 3) ∧ decode cX12_stuckLine 99 = .ok (.iload_n 3, 1) ∧ decode cX12_stuckLine 100 = .ok (.iload_n 1, 1) ∧ decode cX12_stuckLine 101 = .ok (.iastore, 1) ∧ decode cX12_stuckLine 102 = .ok (.aload_n 0, 1) ∧ decode cX12_stuckLine 103 = .ok (.getfield 21, 3) ∧ decode cX12_stuckLine 106 = .ok (.iload_n 3, 1) ∧ decode cX12_stuckLine 107 = .ok (.iconst 1, 1) := by decide +kernel
theorem dX12_stuckLine_85 : decode cX12_stuckLine 85 = .ok (.aload_n 0, 1) := dX12_stuckLine_85_k.1
theorem dX12_stuckLine_86 : decode cX12_stuckLine 86 = .ok (.getfield 21, 3) := dX12_stuckLine_85_k.2.1
theorem dX12_stuckLine_89 : decode cX12_stuckLine 89 = .ok (.bipush 9, 2) := dX12_stuckLine_85_k.2.2.1
theorem dX12_stuckLine_91 : decode cX12_stuckLine 91 = .ok (.iaload, 1) := dX12_stuckLine_85_k.2.2.2.1
theorem dX12_stuckLine_92 : decode cX12_stuckLine 92 = .ok (.imul, 1) := dX12_stuckLine_85_k.2.2.2.2.1
theorem dX12_stuckLine_93 : decode cX12_stuckLine 93 = .ok (.iadd, 1) := dX12_stuckLine_85_k.2.2.2.2.2.1
theorem dX12_stuckLine_94 : decode cX12_stuckLine 94 = .ok (.istore_n 3, 1) := dX12_stuckLine_85_k.2.2.2.2.2.2.1
theorem dX12_stuckLine_95 : decode cX12_stuckLine 95 = .ok (.aload_n 0, 1) := dX12_stuckLine_85_k.2.2.2.2.2.2.2.1
theorem dX12_stuckLine_96 : decode cX12_stuckLine 96 = .ok (.getfield 21, 3) := dX12_stuckLine_85_k.2.2.2.2.2.2.2.2.1
theorem dX12_stuckLine_99 : decode cX12_stuckLine 99 = .ok (.iload_n 3, 1) := dX12_stuckLine_85_k.2.2.2.2.2.2.2.2.2.1
theorem dX12_stuckLine_100 : decode cX12_stuckLine 100 = .ok (.iload_n 1, 1) := dX12_stuckLine_85_k.2.2.2.2.2.2.2.2.2.2.1
theorem dX12_stuckLine_101 : decode cX12_stuckLine 101 = .ok (.iastore, 1) := dX12_stuckLine_85_k.2.2.2.2.2.2.2.2.2.2.2.1
theorem dX12_stuckLine_102 : decode cX12_stuckLine 102 = .ok (.aload_n 0, 1) := dX12_stuckLine_85_k.2.2.2.2.2.2.2.2.2.2.2.2.1
theorem dX12_stuckLine_103 : decode cX12_stuckLine 103 = .ok (.getfield 21, 3) := dX12_stuckLine_85_k.2.2.2.2.2.2.2.2.2.2.2.2.2.1
theorem dX12_stuckLine_106 : decode cX12_stuckLine 106 = .ok (.iload_n 3, 1) := dX12_stuckLine_85_k.2.2.2.2.2.2.2.2.2.2.2.2.2.2.1
theorem dX12_stuckLine_107 : decode cX12_stuckLine 107 = .ok (.iconst 1, 1) := dX12_stuckLine_85_k.2.2.2.2.2.2.2.2.2.2.2.2.2.2.2
theorem dX12_stuckLine_108_k : decode cX12_stuckLine 108 = .ok (.iadd, 1) ∧ decode cX12_stuckLine 109 = .ok (.iload_n 2, 1) ∧ decode cX12_stuckLine 110 = .ok (.iastore, 1) ∧ decode cX12_stuckLine 111 = .ok (.aload_n 0, 1) ∧ decode cX12_stuckLine 112 = .ok (.getfield 21, 3) ∧ decode cX12_stuckLine 115 = .ok (.iload_n 3, 1) ∧ decode cX12_stuckLine 116 = .ok (.iconst 2, 1) ∧ decode cX12_stuckLine 117 = .ok (.iadd, 1) ∧ decode cX12_stuckLine 118 = .ok (.aload_n 0, 1) ∧ decode cX12_stuckLine 119 = .ok (.getfield 79, 3) ∧ decode cX12_stuckLine 122 = .ok (.iastore, 1) ∧ decode cX12_stuckLine 123 = .ok (.aload_n 0, 1) ∧ decode cX12_stuckLine 124 = .ok (.getfield 21, 3) ∧ decode cX12_stuckLine 127 = .ok (.bipush 9, 2) ∧ decode cX12_stuckLine 129 = .ok (.dup2, 1) ∧ decode cX12_stuckLine 130 = .ok (.iaload, 1) := by decide +kernel
theorem dX12_stuckLine_108 : decode cX12_stuckLine 108 = .ok (.iadd, 1) := dX12_stuckLine_108_k.1
theorem dX12_stuckLine_109 : decode cX12_stuckLine 109 = .ok (.iload_n 2, 1) := dX12_stuckLine_108_k.2.1
theorem dX12_stuckLine_110 : decode cX12_stuckLine 110 = .ok (.iastore, 1) := dX12_stuckLine_108_k.2.2.1
theorem dX12_stuckLine_111 : decode cX12_stuckLine 111 = .ok (.aload_n 0, 1) := dX12_stuckLine_108_k.2.2.2.1
theorem dX12_stuckLine_112 : decode cX12_stuckLine 112 = .ok (.getfield 21, 3) := dX12_stuckLine_108_k.2.2.2.2.1
theorem dX12_stuckLine_115 : decode cX12_stuckLine 115 = .ok (.iload_n 3, 1) := dX12_stuckLine_108_k.2.2.2.2.2.1
theorem dX12_stuckLine_116 : decode cX12_stuckLine 116 = .ok (.iconst 2, 1) := dX12_stuckLine_108_k.2.2.2.2.2.2.1
theorem dX12_stuckLine_117 : decode cX12_stuckLine 117 = .ok (.iadd, 1) := dX12_stuckLine_108_k.2.2.2.2.2.2.2.1
theorem dX12_stuckLine_118 : decode cX12_stuckLine 118 = .ok (.aload_n 0, 1) := dX12_stuckLine_108_k.2.2.2.2.2.2.2.2.1
theorem dX12_stuckLine_119 : decode cX12_stuckLine 119 = .ok (.getfield 79, 3) := dX12_stuckLine_108_k.2.2.2.2.2.2.2.2.2.1
theorem dX12_stuckLine_122 : decode cX12_stuckLine 122 = .ok (.iastore, 1) := dX12_stuckLine_108_k.2.2.2.2.2.2.2.2.2.2.1
theorem dX12_stuckLine_123 : decode cX12_stuckLine 123 = .ok (.aload_n 0, 1) := dX12_stuckLine_108_k.2.2.2.2.2.2.2.2.2.2.2.1
theorem dX12_stuckLine_124 : decode cX12_stuckLine 124 = .ok (.getfield 21, 3) := dX12_stuckLine_108_k.2.2.2.2.2.2.2.2.2.2.2.2.1
theorem dX12_stuckLine_127 : decode cX12_stuckLine 127 = .ok (.bipush 9, 2) := dX12_stuckLine_108_k.2.2.2.2.2.2.2.2.2.2.2.2.2.1
theorem dX12_stuckLine_129 : decode cX12_stuckLine 129 = .ok (.dup2, 1) := dX12_stuckLine_108_k.2.2.2.2.2.2.2.2.2.2.2.2.2.2.1
theorem dX12_stuckLine_130 : decode cX12_stuckLine 130 = .ok (.iaload, 1) := dX12_stuckLine_108_k.2.2.2.2.2.2.2.2.2.2.2.2.2.2.2
theorem dX12_stuckLine_131_k : decode cX12_stuckLine 131 = .ok (.iconst 1, 1) ∧ decode cX12_stuckLine 132 = .ok (.iadd, 1) ∧ decode cX12_stuckLine 133 = .ok (.iastore, 1) ∧ decode cX12_stuckLine 134 = .ok (.iconst 1, 1) ∧ decode cX12_stuckLine 135 = .ok (.ireturn, 1) := by decide +kernel
theorem dX12_stuckLine_131 : decode cX12_stuckLine 131 = .ok (.iconst 1, 1) := dX12_stuckLine_131_k.1
theorem dX12_stuckLine_132 : decode cX12_stuckLine 132 = .ok (.iadd, 1) := dX12_stuckLine_131_k.2.1
theorem dX12_stuckLine_133 : decode cX12_stuckLine 133 = .ok (.iastore, 1) := dX12_stuckLine_131_k.2.2.1
theorem dX12_stuckLine_134 : decode cX12_stuckLine 134 = .ok (.iconst 1, 1) := dX12_stuckLine_131_k.2.2.2.1
theorem dX12_stuckLine_135 : decode cX12_stuckLine 135 = .ok (.ireturn, 1) := dX12_stuckLine_131_k.2.2.2.2
theorem dX12_line_0_k : decode cX12_line 0 = .ok (.aload_n 0, 1) ∧ decode cX12_line 1 = .ok (.getfield 56, 3) ∧ decode cX12_line 4 = .ok (.iconst 2, 1) ∧ decode cX12_line 5 = .ok (.if_icmp .ne 10, 3) ∧ decode cX12_line 8 = .ok (.aload_n 0, 1) ∧ decode cX12_line 9 = .ok (.getfield 52, 3) ∧ decode cX12_line 12 = .ok (.goto 4, 3) ∧ decode cX12_line 15 = .ok (.lconst 0, 1) ∧ decode cX12_line 16 = .ok (.lstore_n 1, 1) ∧ decode cX12_line 17 = .ok (.lload_n 1, 1) ∧ decode cX12_line 18 = .ok (.ldc2_w 111, 3) ∧ decode cX12_line 21 = .ok (.lcmp, 1) ∧ decode cX12_line 22 = .ok (.ifCond .ne 8, 3) ∧ decode cX12_line 25 = .ok (.aload_n 0, 1) ∧ decode cX12_line 26 = .ok (.invokevirtual 113, 3) ∧ decode cX12_line 29 = .ok (.ireturn, 1) := by decide +kernel
theorem dX12_line_0 : decode cX12_line 0 = .ok (.aload_n 0, 1) := dX12_line_0_k.1
theorem dX12_line_1 : decode cX12_line 1 = .ok (.getfield 56, 3) := dX12_line_0_k.2.1
theorem dX12_line_4 : decode cX12_line 4 = .ok (.iconst 2, 1) := dX12_line_0_k.2.2.1
theorem dX12_line_5 : decode cX12_line 5 = .ok (.if_icmp .ne 10, 3) := dX12_line_0_k.2.2.2.1
theorem dX12_line_8 : decode cX12_line 8 = .ok (.aload_n 0, 1) := dX12_line_0_k.2.2.2.2.1
theorem dX12_line_9 : decode cX12_line 9 = .ok (.getfield 52, 3) := dX12_line_0_k.2.2.2.2.2.1
theorem dX12_line_12 : decode cX12_line 12 = .ok (.goto 4, 3) := dX12_line_0_k.2.2.2.2.2.2.1
theorem dX12_line_15 : decode cX12_line 15 = .ok (.lconst 0, 1) := dX12_line_0_k.2.2.2.2.2.2.2.1
theorem dX12_line_16 : decode cX12_line 16 = .ok (.lstore_n 1, 1) := dX12_line_0_k.2.2.2.2.2.2.2.2.1
theorem dX12_line_17 : decode cX12_line 17 = .ok (.lload_n 1, 1) := dX12_line_0_k.2.2.2.2.2.2.2.2.2.1
theorem dX12_line_18 : decode cX12_line 18 = .ok (.ldc2_w 111, 3) := dX12_line_0_k.2.2.2.2.2.2.2.2.2.2.1
theorem dX12_line_21 : decode cX12_line 21 = .ok (.lcmp, 1) := dX12_line_0_k.2.2.2.2.2.2.2.2.2.2.2.1
theorem dX12_line_22 : decode cX12_line 22 = .ok (.ifCond .ne 8, 3) := dX12_line_0_k.2.2.2.2.2.2.2.2.2.2.2.2.1
theorem dX12_line_25 : decode cX12_line 25 = .ok (.aload_n 0, 1) := dX12_line_0_k.2.2.2.2.2.2.2.2.2.2.2.2.2.1
theorem dX12_line_26 : decode cX12_line 26 = .ok (.invokevirtual 113, 3) := dX12_line_0_k.2.2.2.2.2.2.2.2.2.2.2.2.2.2.1
theorem dX12_line_29 : decode cX12_line 29 = .ok (.ireturn, 1) := dX12_line_0_k.2.2.2.2.2.2.2.2.2.2.2.2.2.2.2
theorem dX12_line_30_k : decode cX12_line 30 = .ok (.lload_n 1, 1) ∧ decode cX12_line 31 = .ok (.invokestatic 116, 3) ∧ decode cX12_line 34 = .ok (.istore_n 3, 1) ∧ decode cX12_line 35 = .ok (.iload_n 3, 1) ∧ decode cX12_line 36 = .ok (.iconst (-1), 1) ∧ decode cX12_line 37 = .ok (.if_icmp .ne 8, 3) ∧ decode cX12_line 40 = .ok (.aload_n 0, 1) ∧ decode cX12_line 41 = .ok (.invokevirtual 75, 3) ∧ decode cX12_line 44 = .ok (.ireturn, 1) ∧ decode cX12_line 45 = .ok (.aload_n 0, 1) ∧ decode cX12_line 46 = .ok (.invokevirtual 86, 3) ∧ decode cX12_line 49 = .ok (.aload_n 0, 1) ∧ decode cX12_line 50 = .ok (.iload_n 3, 1) ∧ decode cX12_line 51 = .ok (.invokestatic 120, 3) ∧ decode cX12_line 54 = .ok (.iload_n 3, 1) ∧ decode cX12_line 55 = .ok (.invokestatic 124, 3) := by decide +kernel
theorem dX12_line_30 : decode cX12_line 30 = .ok (.lload_n 1, 1) := dX12_line_30_k.1
theorem dX12_line_31 : decode cX12_line 31 = .ok (.invokestatic 116, 3) := dX12_line_30_k.2.1
theorem dX12_line_34 : decode cX12_line 34 = .ok (.istore_n 3, 1) := dX12_line_30_k.2.2.1
theorem dX12_line_35 : decode cX12_line 35 = .ok (.iload_n 3, 1) := dX12_line_30_k.2.2.2.1
theorem dX12_line_36 : decode cX12_line 36 = .ok (.iconst (-1), 1) := dX12_line_30_k.2.2.2.2.1
theorem dX12_line_37 : decode cX12_line 37 = .ok (.if_icmp .ne 8, 3) := dX12_line_30_k.2.2.2.2.2.1
theorem dX12_line_40 : decode cX12_line 40 = .ok (.aload_n 0, 1) := dX12_line_30_k.2.2.2.2.2.2.1
theorem dX12_line_41 : decode cX12_line 41 = .ok (.invokevirtual 75, 3) := dX12_line_30_k.2.2.2.2.2.2.2.1
theorem dX12_line_44 : decode cX12_line 44 = .ok (.ireturn, 1) := dX12_line_30_k.2.2.2.2.2.2.2.2.1
theorem dX12_line_45 : decode cX12_line 45 = .ok (.aload_n 0, 1) := dX12_line_30_k.2.2.2.2.2.2.2.2.2.1
theorem dX12_line_46 : decode cX12_line 46 = .ok (.invokevirtual 86, 3) := dX12_line_30_k.2.2.2.2.2.2.2.2.2.2.1
theorem dX12_line_49 : decode cX12_line 49 = .ok (.aload_n 0, 1) := dX12_line_30_k.2.2.2.2.2.2.2.2.2.2.2.1
theorem dX12_line_50 : decode cX12_line 50 = .ok (.iload_n 3, 1) := dX12_line_30_k.2.2.2.2.2.2.2.2.2.2.2.2.1
theorem dX12_line_51 : decode cX12_line 51 = .ok (.invokestatic 120, 3) := dX12_line_30_k.2.2.2.2.2.2.2.2.2.2.2.2.2.1
theorem dX12_line_54 : decode cX12_line 54 = .ok (.iload_n 3, 1) := dX12_line_30_k.2.2.2.2.2.2.2.2.2.2.2.2.2.2.1
theorem dX12_line_55 : decode cX12_line 55 = .ok (.invokestatic 124, 3) := dX12_line_30_k.2.2.2.2.2.2.2.2.2.2.2.2.2.2.2
theorem dX12_line_58_k : decode cX12_line 58 = .ok (.invokevirtual 107, 3) ∧ decode cX12_line 61 = .ok (.istore 4, 2) ∧ decode cX12_line 63 = .ok (.aload_n 0, 1) ∧ decode cX12_line 64 = .ok (.getfield 21, 3) ∧ decode cX12_line 67 = .ok (.iload_n 3, 1) ∧ decode cX12_line 68 = .ok (.aload_n 0, 1) ∧ decode cX12_line 69 = .ok (.getfield 79, 3) ∧ decode cX12_line 72 = .ok (.iastore, 1) ∧ decode cX12_line 73 = .ok (.iload 4, 2) ∧ decode cX12_line 75 = .ok (.ireturn, 1) := by decide +kernel
theorem dX12_line_58 : decode cX12_line 58 = .ok (.invokevirtual 107, 3) := dX12_line_58_k.1
theorem dX12_line_61 : decode cX12_line 61 = .ok (.istore 4, 2) := dX12_line_58_k.2.1
theorem dX12_line_63 : decode cX12_line 63 = .ok (.aload_n 0, 1) := dX12_line_58_k.2.2.1
theorem dX12_line_64 : decode cX12_line 64 = .ok (.getfield 21, 3) := dX12_line_58_k.2.2.2.1
theorem dX12_line_67 : decode cX12_line 67 = .ok (.iload_n 3, 1) := dX12_line_58_k.2.2.2.2.1
theorem dX12_line_68 : decode cX12_line 68 = .ok (.aload_n 0, 1) := dX12_line_58_k.2.2.2.2.2.1
theorem dX12_line_69 : decode cX12_line 69 = .ok (.getfield 79, 3) := dX12_line_58_k.2.2.2.2.2.2.1
theorem dX12_line_72 : decode cX12_line 72 = .ok (.iastore, 1) := dX12_line_58_k.2.2.2.2.2.2.2.1
theorem dX12_line_73 : decode cX12_line 73 = .ok (.iload 4, 2) := dX12_line_58_k.2.2.2.2.2.2.2.2.1
theorem dX12_line_75 : decode cX12_line 75 = .ok (.ireturn, 1) := dX12_line_58_k.2.2.2.2.2.2.2.2.2
theorem dX12_atFirst_0_k : decode cX12_atFirst 0 = .ok (.iconst 0, 1) ∧ decode cX12_atFirst 1 = .ok (.istore_n 1, 1) ∧ decode cX12_atFirst 2 = .ok (.iload_n 1, 1) ∧ decode cX12_atFirst 3 = .ok (.bipush 22, 2) ∧ decode cX12_atFirst 5 = .ok (.if_icmp .ge 16, 3) ∧ decode cX12_atFirst 8 = .ok (.aload_n 0, 1) ∧ decode cX12_atFirst 9 = .ok (.getfield 21, 3) ∧ decode cX12_atFirst 12 = .ok (.iload_n 1, 1) ∧ decode cX12_atFirst 13 = .ok (.iconst 0, 1) ∧ decode cX12_atFirst 14 = .ok (.iastore, 1) ∧ decode cX12_atFirst 15 = .ok (.iinc 1 1, 3) ∧ decode cX12_atFirst 18 = .ok (.goto (-16), 3) ∧ decode cX12_atFirst 21 = .ok (.aload_n 0, 1) ∧ decode cX12_atFirst 22 = .ok (.getfield 21, 3) ∧ decode cX12_atFirst 25 = .ok (.iconst 0, 1) ∧ decode cX12_atFirst 26 = .ok (.bipush 10, 2) := by decide +kernel
theorem dX12_atFirst_0 : decode cX12_atFirst 0 = .ok (.iconst 0, 1) := dX12_atFirst_0_k.1
theorem dX12_atFirst_1 : decode cX12_atFirst 1 = .ok (.istore_n 1, 1) := dX12_atFirst_0_k.2.1
theorem dX12_atFirst_2 : decode cX12_atFirst 2 = .ok (.iload_n 1, 1) := dX12_atFirst_0_k.2.2.1
theorem dX12_atFirst_3 : decode cX12_atFirst 3 = .ok (.bipush 22, 2) := dX12_atFirst_0_k.2.2.2.1
theorem dX12_atFirst_5 : decode cX12_atFirst 5 = .ok (.if_icmp .ge 16, 3) := dX12_atFirst_0_k.2.2.2.2.1
theorem dX12_atFirst_8 : decode cX12_atFirst 8 = .ok (.aload_n 0, 1) := dX12_atFirst_0_k.2.2.2.2.2.1
theorem dX12_atFirst_9 : decode cX12_atFirst 9 = .ok (.getfield 21, 3) := dX12_atFirst_0_k.2.2.2.2.2.2.1
theorem dX12_atFirst_12 : decode cX12_atFirst 12 = .ok (.iload_n 1, 1) := dX12_atFirst_0_k.2.2.2.2.2.2.2.1
theorem dX12_atFirst_13 : decode cX12_atFirst 13 = .ok (.iconst 0, 1) := dX12_atFirst_0_k.2.2.2.2.2.2.2.2.1
theorem dX12_atFirst_14 : decode cX12_atFirst 14 = .ok (.iastore, 1) := dX12_atFirst_0_k.2.2.2.2.2.2.2.2.2.1
theorem dX12_atFirst_15 : decode cX12_atFirst 15 = .ok (.iinc 1 1, 3) := dX12_atFirst_0_k.2.2.2.2.2.2.2.2.2.2.1
theorem dX12_atFirst_18 : decode cX12_atFirst 18 = .ok (.goto (-16), 3) := dX12_atFirst_0_k.2.2.2.2.2.2.2.2.2.2.2.1
theorem dX12_atFirst_21 : decode cX12_atFirst 21 = .ok (.aload_n 0, 1) := dX12_atFirst_0_k.2.2.2.2.2.2.2.2.2.2.2.2.1
theorem dX12_atFirst_22 : decode cX12_atFirst 22 = .ok (.getfield 21, 3) := dX12_atFirst_0_k.2.2.2.2.2.2.2.2.2.2.2.2.2.1
theorem dX12_atFirst_25 : decode cX12_atFirst 25 = .ok (.iconst 0, 1) := dX12_atFirst_0_k.2.2.2.2.2.2.2.2.2.2.2.2.2.2.1
theorem dX12_atFirst_26 : decode cX12_atFirst 26 = .ok (.bipush 10, 2) := dX12_atFirst_0_k.2.2.2.2.2.2.2.2.2.2.2.2.2.2.2
theorem dX12_atFirst_28_k : decode cX12_atFirst 28 = .ok (.iastore, 1) ∧ decode cX12_atFirst 29 = .ok (.aload_n 0, 1) ∧ decode cX12_atFirst 30 = .ok (.getfield 21, 3) ∧ decode cX12_atFirst 33 = .ok (.iconst 1, 1) ∧ decode cX12_atFirst 34 = .ok (.bipush 20, 2) ∧ decode cX12_atFirst 36 = .ok (.iastore, 1) ∧ decode cX12_atFirst 37 = .ok (.aload_n 0, 1) ∧ decode cX12_atFirst 38 = .ok (.getfield 21, 3) ∧ decode cX12_atFirst 41 = .ok (.iconst 2, 1) ∧ decode cX12_atFirst 42 = .ok (.bipush 15, 2) ∧ decode cX12_atFirst 44 = .ok (.iastore, 1) ∧ decode cX12_atFirst 45 = .ok (.aload_n 0, 1) ∧ decode cX12_atFirst 46 = .ok (.getfield 21, 3) ∧ decode cX12_atFirst 49 = .ok (.iconst 3, 1) ∧ decode cX12_atFirst 50 = .ok (.bipush 32, 2) ∧ decode cX12_atFirst 52 = .ok (.iastore, 1) := by decide +kernel
theorem dX12_atFirst_28 : decode cX12_atFirst 28 = .ok (.iastore, 1) := dX12_atFirst_28_k.1
theorem dX12_atFirst_29 : decode cX12_atFirst 29 = .ok (.aload_n 0, 1) := dX12_atFirst_28_k.2.1
theorem dX12_atFirst_30 : decode cX12_atFirst 30 = .ok (.getfield 21, 3) := dX12_atFirst_28_k.2.2.1
theorem dX12_atFirst_33 : decode cX12_atFirst 33 = .ok (.iconst 1, 1) := dX12_atFirst_28_k.2.2.2.1
theorem dX12_atFirst_34 : decode cX12_atFirst 34 = .ok (.bipush 20, 2) := dX12_atFirst_28_k.2.2.2.2.1
theorem dX12_atFirst_36 : decode cX12_atFirst 36 = .ok (.iastore, 1) := dX12_atFirst_28_k.2.2.2.2.2.1
theorem dX12_atFirst_37 : decode cX12_atFirst 37 = .ok (.aload_n 0, 1) := dX12_atFirst_28_k.2.2.2.2.2.2.1
theorem dX12_atFirst_38 : decode cX12_atFirst 38 = .ok (.getfield 21, 3) := dX12_atFirst_28_k.2.2.2.2.2.2.2.1
theorem dX12_atFirst_41 : decode cX12_atFirst 41 = .ok (.iconst 2, 1) := dX12_atFirst_28_k.2.2.2.2.2.2.2.2.1
theorem dX12_atFirst_42 : decode cX12_atFirst 42 = .ok (.bipush 15, 2) := dX12_atFirst_28_k.2.2.2.2.2.2.2.2.2.1
theorem dX12_atFirst_44 : decode cX12_atFirst 44 = .ok (.iastore, 1) := dX12_atFirst_28_k.2.2.2.2.2.2.2.2.2.2.1
theorem dX12_atFirst_45 : decode cX12_atFirst 45 = .ok (.aload_n 0, 1) := dX12_atFirst_28_k.2.2.2.2.2.2.2.2.2.2.2.1
theorem dX12_atFirst_46 : decode cX12_atFirst 46 = .ok (.getfield 21, 3) := dX12_atFirst_28_k.2.2.2.2.2.2.2.2.2.2.2.2.1
theorem dX12_atFirst_49 : decode cX12_atFirst 49 = .ok (.iconst 3, 1) := dX12_atFirst_28_k.2.2.2.2.2.2.2.2.2.2.2.2.2.1
theorem dX12_atFirst_50 : decode cX12_atFirst 50 = .ok (.bipush 32, 2) := dX12_atFirst_28_k.2.2.2.2.2.2.2.2.2.2.2.2.2.2.1
theorem dX12_atFirst_52 : decode cX12_atFirst 52 = .ok (.iastore, 1) := dX12_atFirst_28_k.2.2.2.2.2.2.2.2.2.2.2.2.2.2.2
theorem dX12_atFirst_53_k : decode cX12_atFirst 53 = .ok (.aload_n 0, 1) ∧ decode cX12_atFirst 54 = .ok (.getfield 21, 3) ∧ decode cX12_atFirst 57 = .ok (.iconst 4, 1) ∧ decode cX12_atFirst 58 = .ok (.bipush 16, 2) ∧ decode cX12_atFirst 60 = .ok (.iastore, 1) ∧ decode cX12_atFirst 61 = .ok (.aload_n 0, 1) ∧ decode cX12_atFirst 62 = .ok (.getfield 21, 3) ∧ decode cX12_atFirst 65 = .ok (.iconst 5, 1) ∧ decode cX12_atFirst 66 = .ok (.iconst 4, 1) ∧ decode cX12_atFirst 67 = .ok (.iastore, 1) ∧ decode cX12_atFirst 68 = .ok (.aload_n 0, 1) ∧ decode cX12_atFirst 69 = .ok (.getfield 21, 3) ∧ decode cX12_atFirst 72 = .ok (.bipush 6, 2) ∧ decode cX12_atFirst 74 = .ok (.bipush 8, 2) ∧ decode cX12_atFirst 76 = .ok (.iastore, 1) ∧ decode cX12_atFirst 77 = .ok (.aload_n 0, 1) := by decide +kernel
theorem dX12_atFirst_53 : decode cX12_atFirst 53 = .ok (.aload_n 0, 1) := dX12_atFirst_53_k.1
theorem dX12_atFirst_54 : decode cX12_atFirst 54 = .ok (.getfield 21, 3) := dX12_atFirst_53_k.2.1
theorem dX12_atFirst_57 : decode cX12_atFirst 57 = .ok (.iconst 4, 1) := dX12_atFirst_53_k.2.2.1
theorem dX12_atFirst_58 : decode cX12_atFirst 58 = .ok (.bipush 16, 2) := dX12_atFirst_53_k.2.2.2.1
theorem dX12_atFirst_60 : decode cX12_atFirst 60 = .ok (.iastore, 1) := dX12_atFirst_53_k.2.2.2.2.1
theorem dX12_atFirst_61 : decode cX12_atFirst 61 = .ok (.aload_n 0, 1) := dX12_atFirst_53_k.2.2.2.2.2.1
theorem dX12_atFirst_62 : decode cX12_atFirst 62 = .ok (.getfield 21, 3) := dX12_atFirst_53_k.2.2.2.2.2.2.1
theorem dX12_atFirst_65 : decode cX12_atFirst 65 = .ok (.iconst 5, 1) := dX12_atFirst_53_k.2.2.2.2.2.2.2.1
theorem dX12_atFirst_66 : decode cX12_atFirst 66 = .ok (.iconst 4, 1) := dX12_atFirst_53_k.2.2.2.2.2.2.2.2.1
theorem dX12_atFirst_67 : decode cX12_atFirst 67 = .ok (.iastore, 1) := dX12_atFirst_53_k.2.2.2.2.2.2.2.2.2.1
theorem dX12_atFirst_68 : decode cX12_atFirst 68 = .ok (.aload_n 0, 1) := dX12_atFirst_53_k.2.2.2.2.2.2.2.2.2.2.1
theorem dX12_atFirst_69 : decode cX12_atFirst 69 = .ok (.getfield 21, 3) := dX12_atFirst_53_k.2.2.2.2.2.2.2.2.2.2.2.1
theorem dX12_atFirst_72 : decode cX12_atFirst 72 = .ok (.bipush 6, 2) := dX12_atFirst_53_k.2.2.2.2.2.2.2.2.2.2.2.2.1
theorem dX12_atFirst_74 : decode cX12_atFirst 74 = .ok (.bipush 8, 2) := dX12_atFirst_53_k.2.2.2.2.2.2.2.2.2.2.2.2.2.1
theorem dX12_atFirst_76 : decode cX12_atFirst 76 = .ok (.iastore, 1) := dX12_atFirst_53_k.2.2.2.2.2.2.2.2.2.2.2.2.2.2.1
theorem dX12_atFirst_77 : decode cX12_atFirst 77 = .ok (.aload_n 0, 1) := dX12_atFirst_53_k.2.2.2.2.2.2.2.2.2.2.2.2.2.2.2
theorem dX12_atFirst_78_k : decode cX12_atFirst 78 = .ok (.getfield 21, 3) ∧ decode cX12_atFirst 81 = .ok (.bipush 8, 2) ∧ decode cX12_atFirst 83 = .ok (.iconst 1, 1) ∧ decode cX12_atFirst 84 = .ok (.iastore, 1) ∧ decode cX12_atFirst 85 = .ok (.aload_n 0, 1) ∧ decode cX12_atFirst 86 = .ok (.iconst 0, 1) ∧ decode cX12_atFirst 87 = .ok (.putfield 69, 3) ∧ decode cX12_atFirst 90 = .ok (.aload_n 0, 1) ∧ decode cX12_atFirst 91 = .ok (.iconst (-1), 1) ∧ decode cX12_atFirst 92 = .ok (.putfield 72, 3) ∧ decode cX12_atFirst 95 = .ok (.aload_n 0, 1) ∧ decode cX12_atFirst 96 = .ok (.iconst 0, 1) ∧ decode cX12_atFirst 97 = .ok (.putfield 39, 3) ∧ decode cX12_atFirst 100 = .ok (.return_, 1) := by decide +kernel
theorem dX12_atFirst_78 : decode cX12_atFirst 78 = .ok (.getfield 21, 3) := dX12_atFirst_78_k.1
theorem dX12_atFirst_81 : decode cX12_atFirst 81 = .ok (.bipush 8, 2) := dX12_atFirst_78_k.2.1
theorem dX12_atFirst_83 : decode cX12_atFirst 83 = .ok (.iconst 1, 1) := dX12_atFirst_78_k.2.2.1
theorem dX12_atFirst_84 : decode cX12_atFirst 84 = .ok (.iastore, 1) := dX12_atFirst_78_k.2.2.2.1
theorem dX12_atFirst_85 : decode cX12_atFirst 85 = .ok (.aload_n 0, 1) := dX12_atFirst_78_k.2.2.2.2.1
theorem dX12_atFirst_86 : decode cX12_atFirst 86 = .ok (.iconst 0, 1) := dX12_atFirst_78_k.2.2.2.2.2.1
theorem dX12_atFirst_87 : decode cX12_atFirst 87 = .ok (.putfield 69, 3) := dX12_atFirst_78_k.2.2.2.2.2.2.1
theorem dX12_atFirst_90 : decode cX12_atFirst 90 = .ok (.aload_n 0, 1) := dX12_atFirst_78_k.2.2.2.2.2.2.2.1
theorem dX12_atFirst_91 : decode cX12_atFirst 91 = .ok (.iconst (-1), 1) := dX12_atFirst_78_k.2.2.2.2.2.2.2.2.1
theorem dX12_atFirst_92 : decode cX12_atFirst 92 = .ok (.putfield 72, 3) := dX12_atFirst_78_k.2.2.2.2.2.2.2.2.2.1
theorem dX12_atFirst_95 : decode cX12_atFirst 95 = .ok (.aload_n 0, 1) := dX12_atFirst_78_k.2.2.2.2.2.2.2.2.2.2.1
theorem dX12_atFirst_96 : decode cX12_atFirst 96 = .ok (.iconst 0, 1) := dX12_atFirst_78_k.2.2.2.2.2.2.2.2.2.2.2.1
theorem dX12_atFirst_97 : decode cX12_atFirst 97 = .ok (.putfield 39, 3) := dX12_atFirst_78_k.2.2.2.2.2.2.2.2.2.2.2.2.1
theorem dX12_atFirst_100 : decode cX12_atFirst 100 = .ok (.return_, 1) := dX12_atFirst_78_k.2.2.2.2.2.2.2.2.2.2.2.2.2
theorem dX12_taken_0_k : decode cX12_taken 0 = .ok (.iconst 0, 1) ∧ decode cX12_taken 1 = .ok (.istore_n 1, 1) ∧ decode cX12_taken 2 = .ok (.iload_n 1, 1) ∧ decode cX12_taken 3 = .ok (.sipush 942, 3) ∧ decode cX12_taken 6 = .ok (.if_icmp .ge 31, 3) ∧ decode cX12_taken 9 = .ok (.aload_n 0, 1) ∧ decode cX12_taken 10 = .ok (.getfield 7, 3) ∧ decode cX12_taken 13 = .ok (.iload_n 1, 1) ∧ decode cX12_taken 14 = .ok (.iload_n 1, 1) ∧ decode cX12_taken 15 = .ok (.bipush 22, 2) ∧ decode cX12_taken 17 = .ok (.if_icmp .ge 12, 3) ∧ decode cX12_taken 20 = .ok (.aload_n 0, 1) ∧ decode cX12_taken 21 = .ok (.getfield 21, 3) ∧ decode cX12_taken 24 = .ok (.iload_n 1, 1) ∧ decode cX12_taken 25 = .ok (.iaload, 1) ∧ decode cX12_taken 26 = .ok (.goto 4, 3) := by decide +kernel
theorem dX12_taken_0 : decode cX12_taken 0 = .ok (.iconst 0, 1) := dX12_taken_0_k.1
theorem dX12_taken_1 : decode cX12_taken 1 = .ok (.istore_n 1, 1) := dX12_taken_0_k.2.1
theorem dX12_taken_2 : decode cX12_taken 2 = .ok (.iload_n 1, 1) := dX12_taken_0_k.2.2.1
theorem dX12_taken_3 : decode cX12_taken 3 = .ok (.sipush 942, 3) := dX12_taken_0_k.2.2.2.1
theorem dX12_taken_6 : decode cX12_taken 6 = .ok (.if_icmp .ge 31, 3) := dX12_taken_0_k.2.2.2.2.1
theorem dX12_taken_9 : decode cX12_taken 9 = .ok (.aload_n 0, 1) := dX12_taken_0_k.2.2.2.2.2.1
theorem dX12_taken_10 : decode cX12_taken 10 = .ok (.getfield 7, 3) := dX12_taken_0_k.2.2.2.2.2.2.1
theorem dX12_taken_13 : decode cX12_taken 13 = .ok (.iload_n 1, 1) := dX12_taken_0_k.2.2.2.2.2.2.2.1
theorem dX12_taken_14 : decode cX12_taken 14 = .ok (.iload_n 1, 1) := dX12_taken_0_k.2.2.2.2.2.2.2.2.1
theorem dX12_taken_15 : decode cX12_taken 15 = .ok (.bipush 22, 2) := dX12_taken_0_k.2.2.2.2.2.2.2.2.2.1
theorem dX12_taken_17 : decode cX12_taken 17 = .ok (.if_icmp .ge 12, 3) := dX12_taken_0_k.2.2.2.2.2.2.2.2.2.2.1
theorem dX12_taken_20 : decode cX12_taken 20 = .ok (.aload_n 0, 1) := dX12_taken_0_k.2.2.2.2.2.2.2.2.2.2.2.1
theorem dX12_taken_21 : decode cX12_taken 21 = .ok (.getfield 21, 3) := dX12_taken_0_k.2.2.2.2.2.2.2.2.2.2.2.2.1
theorem dX12_taken_24 : decode cX12_taken 24 = .ok (.iload_n 1, 1) := dX12_taken_0_k.2.2.2.2.2.2.2.2.2.2.2.2.2.1
theorem dX12_taken_25 : decode cX12_taken 25 = .ok (.iaload, 1) := dX12_taken_0_k.2.2.2.2.2.2.2.2.2.2.2.2.2.2.1
theorem dX12_taken_26 : decode cX12_taken 26 = .ok (.goto 4, 3) := dX12_taken_0_k.2.2.2.2.2.2.2.2.2.2.2.2.2.2.2
theorem dX12_taken_29_k : decode cX12_taken 29 = .ok (.iconst 0, 1) ∧ decode cX12_taken 30 = .ok (.iastore, 1) ∧ decode cX12_taken 31 = .ok (.iinc 1 1, 3) ∧ decode cX12_taken 34 = .ok (.goto (-32), 3) ∧ decode cX12_taken 37 = .ok (.aload_n 0, 1) ∧ decode cX12_taken 38 = .ok (.getfield 7, 3) ∧ decode cX12_taken 41 = .ok (.bipush 22, 2) ∧ decode cX12_taken 43 = .ok (.aload_n 0, 1) ∧ decode cX12_taken 44 = .ok (.getfield 7, 3) ∧ decode cX12_taken 47 = .ok (.bipush 8, 2) ∧ decode cX12_taken 49 = .ok (.iaload, 1) ∧ decode cX12_taken 50 = .ok (.iastore, 1) ∧ decode cX12_taken 51 = .ok (.return_, 1) := by decide +kernel
theorem dX12_taken_29 : decode cX12_taken 29 = .ok (.iconst 0, 1) := dX12_taken_29_k.1
theorem dX12_taken_30 : decode cX12_taken 30 = .ok (.iastore, 1) := dX12_taken_29_k.2.1
theorem dX12_taken_31 : decode cX12_taken 31 = .ok (.iinc 1 1, 3) := dX12_taken_29_k.2.2.1
theorem dX12_taken_34 : decode cX12_taken 34 = .ok (.goto (-32), 3) := dX12_taken_29_k.2.2.2.1
theorem dX12_taken_37 : decode cX12_taken 37 = .ok (.aload_n 0, 1) := dX12_taken_29_k.2.2.2.2.1
theorem dX12_taken_38 : decode cX12_taken 38 = .ok (.getfield 7, 3) := dX12_taken_29_k.2.2.2.2.2.1
theorem dX12_taken_41 : decode cX12_taken 41 = .ok (.bipush 22, 2) := dX12_taken_29_k.2.2.2.2.2.2.1
theorem dX12_taken_43 : decode cX12_taken 43 = .ok (.aload_n 0, 1) := dX12_taken_29_k.2.2.2.2.2.2.2.1
theorem dX12_taken_44 : decode cX12_taken 44 = .ok (.getfield 7, 3) := dX12_taken_29_k.2.2.2.2.2.2.2.2.1
theorem dX12_taken_47 : decode cX12_taken 47 = .ok (.bipush 8, 2) := dX12_taken_29_k.2.2.2.2.2.2.2.2.2.1
theorem dX12_taken_49 : decode cX12_taken 49 = .ok (.iaload, 1) := dX12_taken_29_k.2.2.2.2.2.2.2.2.2.2.1
theorem dX12_taken_50 : decode cX12_taken 50 = .ok (.iastore, 1) := dX12_taken_29_k.2.2.2.2.2.2.2.2.2.2.2.1
theorem dX12_taken_51 : decode cX12_taken 51 = .ok (.return_, 1) := dX12_taken_29_k.2.2.2.2.2.2.2.2.2.2.2.2
theorem dX12_settings_0_k : decode cX12_settings 0 = .ok (.aload_n 0, 1) ∧ decode cX12_settings 1 = .ok (.iconst 0, 1) ∧ decode cX12_settings 2 = .ok (.putfield 33, 3) ∧ decode cX12_settings 5 = .ok (.aload_n 0, 1) ∧ decode cX12_settings 6 = .ok (.aload_n 0, 1) ∧ decode cX12_settings 7 = .ok (.getfield 7, 3) ∧ decode cX12_settings 10 = .ok (.sipush 942, 3) ∧ decode cX12_settings 13 = .ok (.iaload, 1) ∧ decode cX12_settings 14 = .ok (.putfield 42, 3) ∧ decode cX12_settings 17 = .ok (.aload_n 0, 1) ∧ decode cX12_settings 18 = .ok (.getfield 7, 3) ∧ decode cX12_settings 21 = .ok (.sipush 942, 3) ∧ decode cX12_settings 24 = .ok (.iconst 0, 1) ∧ decode cX12_settings 25 = .ok (.iastore, 1) ∧ decode cX12_settings 26 = .ok (.aload_n 0, 1) ∧ decode cX12_settings 27 = .ok (.invokevirtual 27, 3) := by decide +kernel
theorem dX12_settings_0 : decode cX12_settings 0 = .ok (.aload_n 0, 1) := dX12_settings_0_k.1
theorem dX12_settings_1 : decode cX12_settings 1 = .ok (.iconst 0, 1) := dX12_settings_0_k.2.1
theorem dX12_settings_2 : decode cX12_settings 2 = .ok (.putfield 33, 3) := dX12_settings_0_k.2.2.1
theorem dX12_settings_5 : decode cX12_settings 5 = .ok (.aload_n 0, 1) := dX12_settings_0_k.2.2.2.1
theorem dX12_settings_6 : decode cX12_settings 6 = .ok (.aload_n 0, 1) := dX12_settings_0_k.2.2.2.2.1
theorem dX12_settings_7 : decode cX12_settings 7 = .ok (.getfield 7, 3) := dX12_settings_0_k.2.2.2.2.2.1
theorem dX12_settings_10 : decode cX12_settings 10 = .ok (.sipush 942, 3) := dX12_settings_0_k.2.2.2.2.2.2.1
theorem dX12_settings_13 : decode cX12_settings 13 = .ok (.iaload, 1) := dX12_settings_0_k.2.2.2.2.2.2.2.1
theorem dX12_settings_14 : decode cX12_settings 14 = .ok (.putfield 42, 3) := dX12_settings_0_k.2.2.2.2.2.2.2.2.1
theorem dX12_settings_17 : decode cX12_settings 17 = .ok (.aload_n 0, 1) := dX12_settings_0_k.2.2.2.2.2.2.2.2.2.1
theorem dX12_settings_18 : decode cX12_settings 18 = .ok (.getfield 7, 3) := dX12_settings_0_k.2.2.2.2.2.2.2.2.2.2.1
theorem dX12_settings_21 : decode cX12_settings 21 = .ok (.sipush 942, 3) := dX12_settings_0_k.2.2.2.2.2.2.2.2.2.2.2.1
theorem dX12_settings_24 : decode cX12_settings 24 = .ok (.iconst 0, 1) := dX12_settings_0_k.2.2.2.2.2.2.2.2.2.2.2.2.1
theorem dX12_settings_25 : decode cX12_settings 25 = .ok (.iastore, 1) := dX12_settings_0_k.2.2.2.2.2.2.2.2.2.2.2.2.2.1
theorem dX12_settings_26 : decode cX12_settings 26 = .ok (.aload_n 0, 1) := dX12_settings_0_k.2.2.2.2.2.2.2.2.2.2.2.2.2.2.1
theorem dX12_settings_27 : decode cX12_settings 27 = .ok (.invokevirtual 27, 3) := dX12_settings_0_k.2.2.2.2.2.2.2.2.2.2.2.2.2.2.2
theorem dX12_settings_30_k : decode cX12_settings 30 = .ok (.aload_n 0, 1) ∧ decode cX12_settings 31 = .ok (.invokevirtual 86, 3) ∧ decode cX12_settings 34 = .ok (.iconst 1, 1) ∧ decode cX12_settings 35 = .ok (.istore_n 1, 1) ∧ decode cX12_settings 36 = .ok (.iload_n 1, 1) ∧ decode cX12_settings 37 = .ok (.ifCond .eq 43, 3) ∧ decode cX12_settings 40 = .ok (.aload_n 0, 1) ∧ decode cX12_settings 41 = .ok (.getfield 56, 3) ∧ decode cX12_settings 44 = .ok (.ifCond .eq 36, 3) ∧ decode cX12_settings 47 = .ok (.aload_n 0, 1) ∧ decode cX12_settings 48 = .ok (.invokevirtual 127, 3) ∧ decode cX12_settings 51 = .ok (.istore_n 1, 1) ∧ decode cX12_settings 52 = .ok (.iload_n 1, 1) ∧ decode cX12_settings 53 = .ok (.ifCond .eq 16, 3) ∧ decode cX12_settings 56 = .ok (.aload_n 0, 1) ∧ decode cX12_settings 57 = .ok (.getfield 56, 3) := by decide +kernel
theorem dX12_settings_30 : decode cX12_settings 30 = .ok (.aload_n 0, 1) := dX12_settings_30_k.1
theorem dX12_settings_31 : decode cX12_settings 31 = .ok (.invokevirtual 86, 3) := dX12_settings_30_k.2.1
theorem dX12_settings_34 : decode cX12_settings 34 = .ok (.iconst 1, 1) := dX12_settings_30_k.2.2.1
theorem dX12_settings_35 : decode cX12_settings 35 = .ok (.istore_n 1, 1) := dX12_settings_30_k.2.2.2.1
theorem dX12_settings_36 : decode cX12_settings 36 = .ok (.iload_n 1, 1) := dX12_settings_30_k.2.2.2.2.1
theorem dX12_settings_37 : decode cX12_settings 37 = .ok (.ifCond .eq 43, 3) := dX12_settings_30_k.2.2.2.2.2.1
theorem dX12_settings_40 : decode cX12_settings 40 = .ok (.aload_n 0, 1) := dX12_settings_30_k.2.2.2.2.2.2.1
theorem dX12_settings_41 : decode cX12_settings 41 = .ok (.getfield 56, 3) := dX12_settings_30_k.2.2.2.2.2.2.2.1
theorem dX12_settings_44 : decode cX12_settings 44 = .ok (.ifCond .eq 36, 3) := dX12_settings_30_k.2.2.2.2.2.2.2.2.1
theorem dX12_settings_47 : decode cX12_settings 47 = .ok (.aload_n 0, 1) := dX12_settings_30_k.2.2.2.2.2.2.2.2.2.1
theorem dX12_settings_48 : decode cX12_settings 48 = .ok (.invokevirtual 127, 3) := dX12_settings_30_k.2.2.2.2.2.2.2.2.2.2.1
theorem dX12_settings_51 : decode cX12_settings 51 = .ok (.istore_n 1, 1) := dX12_settings_30_k.2.2.2.2.2.2.2.2.2.2.2.1
theorem dX12_settings_52 : decode cX12_settings 52 = .ok (.iload_n 1, 1) := dX12_settings_30_k.2.2.2.2.2.2.2.2.2.2.2.2.1
theorem dX12_settings_53 : decode cX12_settings 53 = .ok (.ifCond .eq 16, 3) := dX12_settings_30_k.2.2.2.2.2.2.2.2.2.2.2.2.2.1
theorem dX12_settings_56 : decode cX12_settings 56 = .ok (.aload_n 0, 1) := dX12_settings_30_k.2.2.2.2.2.2.2.2.2.2.2.2.2.2.1
theorem dX12_settings_57 : decode cX12_settings 57 = .ok (.getfield 56, 3) := dX12_settings_30_k.2.2.2.2.2.2.2.2.2.2.2.2.2.2.2
theorem dX12_settings_60_k : decode cX12_settings 60 = .ok (.iconst 4, 1) ∧ decode cX12_settings 61 = .ok (.if_icmp .eq 8, 3) ∧ decode cX12_settings 64 = .ok (.aload_n 0, 1) ∧ decode cX12_settings 65 = .ok (.invokevirtual 75, 3) ∧ decode cX12_settings 68 = .ok (.istore_n 1, 1) ∧ decode cX12_settings 69 = .ok (.iload_n 1, 1) ∧ decode cX12_settings 70 = .ok (.ifCond .eq (-34), 3) ∧ decode cX12_settings 73 = .ok (.aload_n 0, 1) ∧ decode cX12_settings 74 = .ok (.invokevirtual 86, 3) ∧ decode cX12_settings 77 = .ok (.goto (-41), 3) ∧ decode cX12_settings 80 = .ok (.aload_n 0, 1) ∧ decode cX12_settings 81 = .ok (.getfield 7, 3) ∧ decode cX12_settings 84 = .ok (.sipush 943, 3) ∧ decode cX12_settings 87 = .ok (.iload_n 1, 1) ∧ decode cX12_settings 88 = .ok (.ifCond .eq 10, 3) ∧ decode cX12_settings 91 = .ok (.aload_n 0, 1) := by decide +kernel
theorem dX12_settings_60 : decode cX12_settings 60 = .ok (.iconst 4, 1) := dX12_settings_60_k.1
theorem dX12_settings_61 : decode cX12_settings 61 = .ok (.if_icmp .eq 8, 3) := dX12_settings_60_k.2.1
theorem dX12_settings_64 : decode cX12_settings 64 = .ok (.aload_n 0, 1) := dX12_settings_60_k.2.2.1
theorem dX12_settings_65 : decode cX12_settings 65 = .ok (.invokevirtual 75, 3) := dX12_settings_60_k.2.2.2.1
theorem dX12_settings_68 : decode cX12_settings 68 = .ok (.istore_n 1, 1) := dX12_settings_60_k.2.2.2.2.1
theorem dX12_settings_69 : decode cX12_settings 69 = .ok (.iload_n 1, 1) := dX12_settings_60_k.2.2.2.2.2.1
theorem dX12_settings_70 : decode cX12_settings 70 = .ok (.ifCond .eq (-34), 3) := dX12_settings_60_k.2.2.2.2.2.2.1
theorem dX12_settings_73 : decode cX12_settings 73 = .ok (.aload_n 0, 1) := dX12_settings_60_k.2.2.2.2.2.2.2.1
theorem dX12_settings_74 : decode cX12_settings 74 = .ok (.invokevirtual 86, 3) := dX12_settings_60_k.2.2.2.2.2.2.2.2.1
theorem dX12_settings_77 : decode cX12_settings 77 = .ok (.goto (-41), 3) := dX12_settings_60_k.2.2.2.2.2.2.2.2.2.1
theorem dX12_settings_80 : decode cX12_settings 80 = .ok (.aload_n 0, 1) := dX12_settings_60_k.2.2.2.2.2.2.2.2.2.2.1
theorem dX12_settings_81 : decode cX12_settings 81 = .ok (.getfield 7, 3) := dX12_settings_60_k.2.2.2.2.2.2.2.2.2.2.2.1
theorem dX12_settings_84 : decode cX12_settings 84 = .ok (.sipush 943, 3) := dX12_settings_60_k.2.2.2.2.2.2.2.2.2.2.2.2.1
theorem dX12_settings_87 : decode cX12_settings 87 = .ok (.iload_n 1, 1) := dX12_settings_60_k.2.2.2.2.2.2.2.2.2.2.2.2.2.1
theorem dX12_settings_88 : decode cX12_settings 88 = .ok (.ifCond .eq 10, 3) := dX12_settings_60_k.2.2.2.2.2.2.2.2.2.2.2.2.2.2.1
theorem dX12_settings_91 : decode cX12_settings 91 = .ok (.aload_n 0, 1) := dX12_settings_60_k.2.2.2.2.2.2.2.2.2.2.2.2.2.2.2
theorem dX12_settings_92_k : decode cX12_settings 92 = .ok (.getfield 69, 3) ∧ decode cX12_settings 95 = .ok (.goto 4, 3) ∧ decode cX12_settings 98 = .ok (.iconst 1, 1) ∧ decode cX12_settings 99 = .ok (.iastore, 1) ∧ decode cX12_settings 100 = .ok (.aload_n 0, 1) ∧ decode cX12_settings 101 = .ok (.getfield 7, 3) ∧ decode cX12_settings 104 = .ok (.sipush 944, 3) ∧ decode cX12_settings 107 = .ok (.iload_n 1, 1) ∧ decode cX12_settings 108 = .ok (.ifCond .eq 10, 3) ∧ decode cX12_settings 111 = .ok (.aload_n 0, 1) ∧ decode cX12_settings 112 = .ok (.getfield 72, 3) ∧ decode cX12_settings 115 = .ok (.goto 7, 3) ∧ decode cX12_settings 118 = .ok (.aload_n 0, 1) ∧ decode cX12_settings 119 = .ok (.getfield 66, 3) ∧ decode cX12_settings 122 = .ok (.iastore, 1) ∧ decode cX12_settings 123 = .ok (.aload_n 0, 1) := by decide +kernel
theorem dX12_settings_92 : decode cX12_settings 92 = .ok (.getfield 69, 3) := dX12_settings_92_k.1
theorem dX12_settings_95 : decode cX12_settings 95 = .ok (.goto 4, 3) := dX12_settings_92_k.2.1
theorem dX12_settings_98 : decode cX12_settings 98 = .ok (.iconst 1, 1) := dX12_settings_92_k.2.2.1
theorem dX12_settings_99 : decode cX12_settings 99 = .ok (.iastore, 1) := dX12_settings_92_k.2.2.2.1
theorem dX12_settings_100 : decode cX12_settings 100 = .ok (.aload_n 0, 1) := dX12_settings_92_k.2.2.2.2.1
theorem dX12_settings_101 : decode cX12_settings 101 = .ok (.getfield 7, 3) := dX12_settings_92_k.2.2.2.2.2.1
theorem dX12_settings_104 : decode cX12_settings 104 = .ok (.sipush 944, 3) := dX12_settings_92_k.2.2.2.2.2.2.1
theorem dX12_settings_107 : decode cX12_settings 107 = .ok (.iload_n 1, 1) := dX12_settings_92_k.2.2.2.2.2.2.2.1
theorem dX12_settings_108 : decode cX12_settings 108 = .ok (.ifCond .eq 10, 3) := dX12_settings_92_k.2.2.2.2.2.2.2.2.1
theorem dX12_settings_111 : decode cX12_settings 111 = .ok (.aload_n 0, 1) := dX12_settings_92_k.2.2.2.2.2.2.2.2.2.1
theorem dX12_settings_112 : decode cX12_settings 112 = .ok (.getfield 72, 3) := dX12_settings_92_k.2.2.2.2.2.2.2.2.2.2.1
theorem dX12_settings_115 : decode cX12_settings 115 = .ok (.goto 7, 3) := dX12_settings_92_k.2.2.2.2.2.2.2.2.2.2.2.1
theorem dX12_settings_118 : decode cX12_settings 118 = .ok (.aload_n 0, 1) := dX12_settings_92_k.2.2.2.2.2.2.2.2.2.2.2.2.1
theorem dX12_settings_119 : decode cX12_settings 119 = .ok (.getfield 66, 3) := dX12_settings_92_k.2.2.2.2.2.2.2.2.2.2.2.2.2.1
theorem dX12_settings_122 : decode cX12_settings 122 = .ok (.iastore, 1) := dX12_settings_92_k.2.2.2.2.2.2.2.2.2.2.2.2.2.2.1
theorem dX12_settings_123 : decode cX12_settings 123 = .ok (.aload_n 0, 1) := dX12_settings_92_k.2.2.2.2.2.2.2.2.2.2.2.2.2.2.2
theorem dX12_settings_124_k : decode cX12_settings 124 = .ok (.getfield 7, 3) ∧ decode cX12_settings 127 = .ok (.sipush 943, 3) ∧ decode cX12_settings 130 = .ok (.iaload, 1) ∧ decode cX12_settings 131 = .ok (.ifCond .eq 5, 3) ∧ decode cX12_settings 134 = .ok (.iconst (-1), 1) ∧ decode cX12_settings 135 = .ok (.ireturn, 1) ∧ decode cX12_settings 136 = .ok (.aload_n 0, 1) ∧ decode cX12_settings 137 = .ok (.invokevirtual 30, 3) ∧ decode cX12_settings 140 = .ok (.aload_n 0, 1) ∧ decode cX12_settings 141 = .ok (.getfield 7, 3) ∧ decode cX12_settings 144 = .ok (.bipush 9, 2) ∧ decode cX12_settings 146 = .ok (.iaload, 1) ∧ decode cX12_settings 147 = .ok (.ireturn, 1) := by decide +kernel
theorem dX12_settings_124 : decode cX12_settings 124 = .ok (.getfield 7, 3) := dX12_settings_124_k.1
theorem dX12_settings_127 : decode cX12_settings 127 = .ok (.sipush 943, 3) := dX12_settings_124_k.2.1
theorem dX12_settings_130 : decode cX12_settings 130 = .ok (.iaload, 1) := dX12_settings_124_k.2.2.1
theorem dX12_settings_131 : decode cX12_settings 131 = .ok (.ifCond .eq 5, 3) := dX12_settings_124_k.2.2.2.1
theorem dX12_settings_134 : decode cX12_settings 134 = .ok (.iconst (-1), 1) := dX12_settings_124_k.2.2.2.2.1
theorem dX12_settings_135 : decode cX12_settings 135 = .ok (.ireturn, 1) := dX12_settings_124_k.2.2.2.2.2.1
theorem dX12_settings_136 : decode cX12_settings 136 = .ok (.aload_n 0, 1) := dX12_settings_124_k.2.2.2.2.2.2.1
theorem dX12_settings_137 : decode cX12_settings 137 = .ok (.invokevirtual 30, 3) := dX12_settings_124_k.2.2.2.2.2.2.2.1
theorem dX12_settings_140 : decode cX12_settings 140 = .ok (.aload_n 0, 1) := dX12_settings_124_k.2.2.2.2.2.2.2.2.1
theorem dX12_settings_141 : decode cX12_settings 141 = .ok (.getfield 7, 3) := dX12_settings_124_k.2.2.2.2.2.2.2.2.2.1
theorem dX12_settings_144 : decode cX12_settings 144 = .ok (.bipush 9, 2) := dX12_settings_124_k.2.2.2.2.2.2.2.2.2.2.1
theorem dX12_settings_146 : decode cX12_settings 146 = .ok (.iaload, 1) := dX12_settings_124_k.2.2.2.2.2.2.2.2.2.2.2.1
theorem dX12_settings_147 : decode cX12_settings 147 = .ok (.ireturn, 1) := dX12_settings_124_k.2.2.2.2.2.2.2.2.2.2.2.2
theorem dX12_fault_0_k : decode cX12_fault 0 = .ok (.aload_n 0, 1) ∧ decode cX12_fault 1 = .ok (.iconst 0, 1) ∧ decode cX12_fault 2 = .ok (.putfield 33, 3) ∧ decode cX12_fault 5 = .ok (.iload_n 1, 1) ∧ decode cX12_fault 6 = .ok (.ifCond .eq 14, 3) ∧ decode cX12_fault 9 = .ok (.aload_n 0, 1) ∧ decode cX12_fault 10 = .ok (.getfield 7, 3) ∧ decode cX12_fault 13 = .ok (.sipush 944, 3) ∧ decode cX12_fault 16 = .ok (.iaload, 1) ∧ decode cX12_fault 17 = .ok (.goto 11, 3) ∧ decode cX12_fault 20 = .ok (.aload_n 0, 1) ∧ decode cX12_fault 21 = .ok (.getfield 7, 3) ∧ decode cX12_fault 24 = .ok (.sipush 943, 3) ∧ decode cX12_fault 27 = .ok (.iaload, 1) ∧ decode cX12_fault 28 = .ok (.ireturn, 1) := by decide +kernel
theorem dX12_fault_0 : decode cX12_fault 0 = .ok (.aload_n 0, 1) := dX12_fault_0_k.1
theorem dX12_fault_1 : decode cX12_fault 1 = .ok (.iconst 0, 1) := dX12_fault_0_k.2.1
theorem dX12_fault_2 : decode cX12_fault 2 = .ok (.putfield 33, 3) := dX12_fault_0_k.2.2.1
theorem dX12_fault_5 : decode cX12_fault 5 = .ok (.iload_n 1, 1) := dX12_fault_0_k.2.2.2.1
theorem dX12_fault_6 : decode cX12_fault 6 = .ok (.ifCond .eq 14, 3) := dX12_fault_0_k.2.2.2.2.1
theorem dX12_fault_9 : decode cX12_fault 9 = .ok (.aload_n 0, 1) := dX12_fault_0_k.2.2.2.2.2.1
theorem dX12_fault_10 : decode cX12_fault 10 = .ok (.getfield 7, 3) := dX12_fault_0_k.2.2.2.2.2.2.1
theorem dX12_fault_13 : decode cX12_fault 13 = .ok (.sipush 944, 3) := dX12_fault_0_k.2.2.2.2.2.2.2.1
theorem dX12_fault_16 : decode cX12_fault 16 = .ok (.iaload, 1) := dX12_fault_0_k.2.2.2.2.2.2.2.2.1
theorem dX12_fault_17 : decode cX12_fault 17 = .ok (.goto 11, 3) := dX12_fault_0_k.2.2.2.2.2.2.2.2.2.1
theorem dX12_fault_20 : decode cX12_fault 20 = .ok (.aload_n 0, 1) := dX12_fault_0_k.2.2.2.2.2.2.2.2.2.2.1
theorem dX12_fault_21 : decode cX12_fault 21 = .ok (.getfield 7, 3) := dX12_fault_0_k.2.2.2.2.2.2.2.2.2.2.2.1
theorem dX12_fault_24 : decode cX12_fault 24 = .ok (.sipush 943, 3) := dX12_fault_0_k.2.2.2.2.2.2.2.2.2.2.2.2.1
theorem dX12_fault_27 : decode cX12_fault 27 = .ok (.iaload, 1) := dX12_fault_0_k.2.2.2.2.2.2.2.2.2.2.2.2.2.1
theorem dX12_fault_28 : decode cX12_fault 28 = .ok (.ireturn, 1) := dX12_fault_0_k.2.2.2.2.2.2.2.2.2.2.2.2.2.2
theorem dX12_power_0_k : decode cX12_power 0 = .ok (.lconst 1, 1) ∧ decode cX12_power 1 = .ok (.lstore_n 2, 1) ∧ decode cX12_power 2 = .ok (.iconst 0, 1) ∧ decode cX12_power 3 = .ok (.istore 4, 2) ∧ decode cX12_power 5 = .ok (.iload 4, 2) ∧ decode cX12_power 7 = .ok (.iload_n 1, 1) ∧ decode cX12_power 8 = .ok (.if_icmp .ge 14, 3) ∧ decode cX12_power 11 = .ok (.lload_n 2, 1) ∧ decode cX12_power 12 = .ok (.iload_n 0, 1) ∧ decode cX12_power 13 = .ok (.i2l, 1) ∧ decode cX12_power 14 = .ok (.lmul, 1) ∧ decode cX12_power 15 = .ok (.lstore_n 2, 1) ∧ decode cX12_power 16 = .ok (.iinc 4 1, 3) ∧ decode cX12_power 19 = .ok (.goto (-14), 3) ∧ decode cX12_power 22 = .ok (.lload_n 2, 1) ∧ decode cX12_power 23 = .ok (.lreturn, 1) := by decide +kernel
theorem dX12_power_0 : decode cX12_power 0 = .ok (.lconst 1, 1) := dX12_power_0_k.1
theorem dX12_power_1 : decode cX12_power 1 = .ok (.lstore_n 2, 1) := dX12_power_0_k.2.1
theorem dX12_power_2 : decode cX12_power 2 = .ok (.iconst 0, 1) := dX12_power_0_k.2.2.1
theorem dX12_power_3 : decode cX12_power 3 = .ok (.istore 4, 2) := dX12_power_0_k.2.2.2.1
theorem dX12_power_5 : decode cX12_power 5 = .ok (.iload 4, 2) := dX12_power_0_k.2.2.2.2.1
theorem dX12_power_7 : decode cX12_power 7 = .ok (.iload_n 1, 1) := dX12_power_0_k.2.2.2.2.2.1
theorem dX12_power_8 : decode cX12_power 8 = .ok (.if_icmp .ge 14, 3) := dX12_power_0_k.2.2.2.2.2.2.1
theorem dX12_power_11 : decode cX12_power 11 = .ok (.lload_n 2, 1) := dX12_power_0_k.2.2.2.2.2.2.2.1
theorem dX12_power_12 : decode cX12_power 12 = .ok (.iload_n 0, 1) := dX12_power_0_k.2.2.2.2.2.2.2.2.1
theorem dX12_power_13 : decode cX12_power 13 = .ok (.i2l, 1) := dX12_power_0_k.2.2.2.2.2.2.2.2.2.1
theorem dX12_power_14 : decode cX12_power 14 = .ok (.lmul, 1) := dX12_power_0_k.2.2.2.2.2.2.2.2.2.2.1
theorem dX12_power_15 : decode cX12_power 15 = .ok (.lstore_n 2, 1) := dX12_power_0_k.2.2.2.2.2.2.2.2.2.2.2.1
theorem dX12_power_16 : decode cX12_power 16 = .ok (.iinc 4 1, 3) := dX12_power_0_k.2.2.2.2.2.2.2.2.2.2.2.2.1
theorem dX12_power_19 : decode cX12_power 19 = .ok (.goto (-14), 3) := dX12_power_0_k.2.2.2.2.2.2.2.2.2.2.2.2.2.1
theorem dX12_power_22 : decode cX12_power 22 = .ok (.lload_n 2, 1) := dX12_power_0_k.2.2.2.2.2.2.2.2.2.2.2.2.2.2.1
theorem dX12_power_23 : decode cX12_power 23 = .ok (.lreturn, 1) := dX12_power_0_k.2.2.2.2.2.2.2.2.2.2.2.2.2.2.2
theorem dX12_isRare_0_k : decode cX12_isRare 0 = .ok (.iload_n 3, 1) ∧ decode cX12_isRare 1 = .ok (.aload_n 0, 1) ∧ decode cX12_isRare 2 = .ok (.getfield 7, 3) ∧ decode cX12_isRare 5 = .ok (.iconst 1, 1) ∧ decode cX12_isRare 6 = .ok (.iaload, 1) ∧ decode cX12_isRare 7 = .ok (.isub, 1) ∧ decode cX12_isRare 8 = .ok (.istore 4, 2) ∧ decode cX12_isRare 10 = .ok (.iload 4, 2) ∧ decode cX12_isRare 12 = .ok (.ifCond .lt 20, 3) ∧ decode cX12_isRare 15 = .ok (.lload_n 1, 1) ∧ decode cX12_isRare 16 = .ok (.lconst 1, 1) ∧ decode cX12_isRare 17 = .ok (.iload 4, 2) ∧ decode cX12_isRare 19 = .ok (.lshl, 1) ∧ decode cX12_isRare 20 = .ok (.lcmp, 1) ∧ decode cX12_isRare 21 = .ok (.ifCond .gt 7, 3) ∧ decode cX12_isRare 24 = .ok (.iconst 1, 1) := by decide +kernel
theorem dX12_isRare_0 : decode cX12_isRare 0 = .ok (.iload_n 3, 1) := dX12_isRare_0_k.1
theorem dX12_isRare_1 : decode cX12_isRare 1 = .ok (.aload_n 0, 1) := dX12_isRare_0_k.2.1
theorem dX12_isRare_2 : decode cX12_isRare 2 = .ok (.getfield 7, 3) := dX12_isRare_0_k.2.2.1
theorem dX12_isRare_5 : decode cX12_isRare 5 = .ok (.iconst 1, 1) := dX12_isRare_0_k.2.2.2.1
theorem dX12_isRare_6 : decode cX12_isRare 6 = .ok (.iaload, 1) := dX12_isRare_0_k.2.2.2.2.1
theorem dX12_isRare_7 : decode cX12_isRare 7 = .ok (.isub, 1) := dX12_isRare_0_k.2.2.2.2.2.1
theorem dX12_isRare_8 : decode cX12_isRare 8 = .ok (.istore 4, 2) := dX12_isRare_0_k.2.2.2.2.2.2.1
theorem dX12_isRare_10 : decode cX12_isRare 10 = .ok (.iload 4, 2) := dX12_isRare_0_k.2.2.2.2.2.2.2.1
theorem dX12_isRare_12 : decode cX12_isRare 12 = .ok (.ifCond .lt 20, 3) := dX12_isRare_0_k.2.2.2.2.2.2.2.2.1
theorem dX12_isRare_15 : decode cX12_isRare 15 = .ok (.lload_n 1, 1) := dX12_isRare_0_k.2.2.2.2.2.2.2.2.2.1
theorem dX12_isRare_16 : decode cX12_isRare 16 = .ok (.lconst 1, 1) := dX12_isRare_0_k.2.2.2.2.2.2.2.2.2.2.1
theorem dX12_isRare_17 : decode cX12_isRare 17 = .ok (.iload 4, 2) := dX12_isRare_0_k.2.2.2.2.2.2.2.2.2.2.2.1
theorem dX12_isRare_19 : decode cX12_isRare 19 = .ok (.lshl, 1) := dX12_isRare_0_k.2.2.2.2.2.2.2.2.2.2.2.2.1
theorem dX12_isRare_20 : decode cX12_isRare 20 = .ok (.lcmp, 1) := dX12_isRare_0_k.2.2.2.2.2.2.2.2.2.2.2.2.2.1
theorem dX12_isRare_21 : decode cX12_isRare 21 = .ok (.ifCond .gt 7, 3) := dX12_isRare_0_k.2.2.2.2.2.2.2.2.2.2.2.2.2.2.1
theorem dX12_isRare_24 : decode cX12_isRare 24 = .ok (.iconst 1, 1) := dX12_isRare_0_k.2.2.2.2.2.2.2.2.2.2.2.2.2.2.2
theorem dX12_isRare_25_k : decode cX12_isRare 25 = .ok (.goto 18, 3) ∧ decode cX12_isRare 28 = .ok (.iconst 0, 1) ∧ decode cX12_isRare 29 = .ok (.goto 14, 3) ∧ decode cX12_isRare 32 = .ok (.lload_n 1, 1) ∧ decode cX12_isRare 33 = .ok (.lconst 0, 1) ∧ decode cX12_isRare 34 = .ok (.lcmp, 1) ∧ decode cX12_isRare 35 = .ok (.ifCond .ne 7, 3) ∧ decode cX12_isRare 38 = .ok (.iconst 1, 1) ∧ decode cX12_isRare 39 = .ok (.goto 4, 3) ∧ decode cX12_isRare 42 = .ok (.iconst 0, 1) ∧ decode cX12_isRare 43 = .ok (.ireturn, 1) := by decide +kernel
theorem dX12_isRare_25 : decode cX12_isRare 25 = .ok (.goto 18, 3) := dX12_isRare_25_k.1
theorem dX12_isRare_28 : decode cX12_isRare 28 = .ok (.iconst 0, 1) := dX12_isRare_25_k.2.1
theorem dX12_isRare_29 : decode cX12_isRare 29 = .ok (.goto 14, 3) := dX12_isRare_25_k.2.2.1
theorem dX12_isRare_32 : decode cX12_isRare 32 = .ok (.lload_n 1, 1) := dX12_isRare_25_k.2.2.2.1
theorem dX12_isRare_33 : decode cX12_isRare 33 = .ok (.lconst 0, 1) := dX12_isRare_25_k.2.2.2.2.1
theorem dX12_isRare_34 : decode cX12_isRare 34 = .ok (.lcmp, 1) := dX12_isRare_25_k.2.2.2.2.2.1
theorem dX12_isRare_35 : decode cX12_isRare 35 = .ok (.ifCond .ne 7, 3) := dX12_isRare_25_k.2.2.2.2.2.2.1
theorem dX12_isRare_38 : decode cX12_isRare 38 = .ok (.iconst 1, 1) := dX12_isRare_25_k.2.2.2.2.2.2.2.1
theorem dX12_isRare_39 : decode cX12_isRare 39 = .ok (.goto 4, 3) := dX12_isRare_25_k.2.2.2.2.2.2.2.2.1
theorem dX12_isRare_42 : decode cX12_isRare 42 = .ok (.iconst 0, 1) := dX12_isRare_25_k.2.2.2.2.2.2.2.2.2.1
theorem dX12_isRare_43 : decode cX12_isRare 43 = .ok (.ireturn, 1) := dX12_isRare_25_k.2.2.2.2.2.2.2.2.2.2
theorem dX12_repeats_0_k : decode cX12_repeats 0 = .ok (.iconst 2, 1) ∧ decode cX12_repeats 1 = .ok (.istore_n 1, 1) ∧ decode cX12_repeats 2 = .ok (.iload_n 1, 1) ∧ decode cX12_repeats 3 = .ok (.bipush 16, 2) ∧ decode cX12_repeats 5 = .ok (.if_icmp .ge 35, 3) ∧ decode cX12_repeats 8 = .ok (.aload_n 0, 1) ∧ decode cX12_repeats 9 = .ok (.aload_n 0, 1) ∧ decode cX12_repeats 10 = .ok (.getfield 7, 3) ∧ decode cX12_repeats 13 = .ok (.iconst 0, 1) ∧ decode cX12_repeats 14 = .ok (.iaload, 1) ∧ decode cX12_repeats 15 = .ok (.iload_n 1, 1) ∧ decode cX12_repeats 16 = .ok (.iconst 1, 1) ∧ decode cX12_repeats 17 = .ok (.isub, 1) ∧ decode cX12_repeats 18 = .ok (.invokestatic 130, 3) ∧ decode cX12_repeats 21 = .ok (.iconst 4, 1) ∧ decode cX12_repeats 22 = .ok (.iload_n 1, 1) := by decide +kernel
theorem dX12_repeats_0 : decode cX12_repeats 0 = .ok (.iconst 2, 1) := dX12_repeats_0_k.1
theorem dX12_repeats_1 : decode cX12_repeats 1 = .ok (.istore_n 1, 1) := dX12_repeats_0_k.2.1
theorem dX12_repeats_2 : decode cX12_repeats 2 = .ok (.iload_n 1, 1) := dX12_repeats_0_k.2.2.1
theorem dX12_repeats_3 : decode cX12_repeats 3 = .ok (.bipush 16, 2) := dX12_repeats_0_k.2.2.2.1
theorem dX12_repeats_5 : decode cX12_repeats 5 = .ok (.if_icmp .ge 35, 3) := dX12_repeats_0_k.2.2.2.2.1
theorem dX12_repeats_8 : decode cX12_repeats 8 = .ok (.aload_n 0, 1) := dX12_repeats_0_k.2.2.2.2.2.1
theorem dX12_repeats_9 : decode cX12_repeats 9 = .ok (.aload_n 0, 1) := dX12_repeats_0_k.2.2.2.2.2.2.1
theorem dX12_repeats_10 : decode cX12_repeats 10 = .ok (.getfield 7, 3) := dX12_repeats_0_k.2.2.2.2.2.2.2.1
theorem dX12_repeats_13 : decode cX12_repeats 13 = .ok (.iconst 0, 1) := dX12_repeats_0_k.2.2.2.2.2.2.2.2.1
theorem dX12_repeats_14 : decode cX12_repeats 14 = .ok (.iaload, 1) := dX12_repeats_0_k.2.2.2.2.2.2.2.2.2.1
theorem dX12_repeats_15 : decode cX12_repeats 15 = .ok (.iload_n 1, 1) := dX12_repeats_0_k.2.2.2.2.2.2.2.2.2.2.1
theorem dX12_repeats_16 : decode cX12_repeats 16 = .ok (.iconst 1, 1) := dX12_repeats_0_k.2.2.2.2.2.2.2.2.2.2.2.1
theorem dX12_repeats_17 : decode cX12_repeats 17 = .ok (.isub, 1) := dX12_repeats_0_k.2.2.2.2.2.2.2.2.2.2.2.2.1
theorem dX12_repeats_18 : decode cX12_repeats 18 = .ok (.invokestatic 130, 3) := dX12_repeats_0_k.2.2.2.2.2.2.2.2.2.2.2.2.2.1
theorem dX12_repeats_21 : decode cX12_repeats 21 = .ok (.iconst 4, 1) := dX12_repeats_0_k.2.2.2.2.2.2.2.2.2.2.2.2.2.2.1
theorem dX12_repeats_22 : decode cX12_repeats 22 = .ok (.iload_n 1, 1) := dX12_repeats_0_k.2.2.2.2.2.2.2.2.2.2.2.2.2.2.2
theorem dX12_repeats_23_k : decode cX12_repeats 23 = .ok (.iconst 1, 1) ∧ decode cX12_repeats 24 = .ok (.isub, 1) ∧ decode cX12_repeats 25 = .ok (.imul, 1) ∧ decode cX12_repeats 26 = .ok (.invokevirtual 134, 3) ∧ decode cX12_repeats 29 = .ok (.ifCond .eq 5, 3) ∧ decode cX12_repeats 32 = .ok (.iload_n 1, 1) ∧ decode cX12_repeats 33 = .ok (.ireturn, 1) ∧ decode cX12_repeats 34 = .ok (.iinc 1 1, 3) ∧ decode cX12_repeats 37 = .ok (.goto (-35), 3) ∧ decode cX12_repeats 40 = .ok (.bipush 16, 2) ∧ decode cX12_repeats 42 = .ok (.ireturn, 1) := by decide +kernel
theorem dX12_repeats_23 : decode cX12_repeats 23 = .ok (.iconst 1, 1) := dX12_repeats_23_k.1
theorem dX12_repeats_24 : decode cX12_repeats 24 = .ok (.isub, 1) := dX12_repeats_23_k.2.1
theorem dX12_repeats_25 : decode cX12_repeats 25 = .ok (.imul, 1) := dX12_repeats_23_k.2.2.1
theorem dX12_repeats_26 : decode cX12_repeats 26 = .ok (.invokevirtual 134, 3) := dX12_repeats_23_k.2.2.2.1
theorem dX12_repeats_29 : decode cX12_repeats 29 = .ok (.ifCond .eq 5, 3) := dX12_repeats_23_k.2.2.2.2.1
theorem dX12_repeats_32 : decode cX12_repeats 32 = .ok (.iload_n 1, 1) := dX12_repeats_23_k.2.2.2.2.2.1
theorem dX12_repeats_33 : decode cX12_repeats 33 = .ok (.ireturn, 1) := dX12_repeats_23_k.2.2.2.2.2.2.1
theorem dX12_repeats_34 : decode cX12_repeats 34 = .ok (.iinc 1 1, 3) := dX12_repeats_23_k.2.2.2.2.2.2.2.1
theorem dX12_repeats_37 : decode cX12_repeats 37 = .ok (.goto (-35), 3) := dX12_repeats_23_k.2.2.2.2.2.2.2.2.1
theorem dX12_repeats_40 : decode cX12_repeats 40 = .ok (.bipush 16, 2) := dX12_repeats_23_k.2.2.2.2.2.2.2.2.2.1
theorem dX12_repeats_42 : decode cX12_repeats 42 = .ok (.ireturn, 1) := dX12_repeats_23_k.2.2.2.2.2.2.2.2.2.2
theorem dX12_choose_0_k : decode cX12_choose 0 = .ok (.lconst 1, 1) ∧ decode cX12_choose 1 = .ok (.lstore_n 2, 1) ∧ decode cX12_choose 2 = .ok (.iconst 1, 1) ∧ decode cX12_choose 3 = .ok (.istore 4, 2) ∧ decode cX12_choose 5 = .ok (.iload 4, 2) ∧ decode cX12_choose 7 = .ok (.iload_n 1, 1) ∧ decode cX12_choose 8 = .ok (.if_icmp .gt 23, 3) ∧ decode cX12_choose 11 = .ok (.lload_n 2, 1) ∧ decode cX12_choose 12 = .ok (.iload_n 0, 1) ∧ decode cX12_choose 13 = .ok (.iload_n 1, 1) ∧ decode cX12_choose 14 = .ok (.isub, 1) ∧ decode cX12_choose 15 = .ok (.iload 4, 2) ∧ decode cX12_choose 17 = .ok (.iadd, 1) ∧ decode cX12_choose 18 = .ok (.i2l, 1) ∧ decode cX12_choose 19 = .ok (.lmul, 1) ∧ decode cX12_choose 20 = .ok (.iload 4, 2) := by decide +kernel
theorem dX12_choose_0 : decode cX12_choose 0 = .ok (.lconst 1, 1) := dX12_choose_0_k.1
theorem dX12_choose_1 : decode cX12_choose 1 = .ok (.lstore_n 2, 1) := dX12_choose_0_k.2.1
theorem dX12_choose_2 : decode cX12_choose 2 = .ok (.iconst 1, 1) := dX12_choose_0_k.2.2.1
theorem dX12_choose_3 : decode cX12_choose 3 = .ok (.istore 4, 2) := dX12_choose_0_k.2.2.2.1
theorem dX12_choose_5 : decode cX12_choose 5 = .ok (.iload 4, 2) := dX12_choose_0_k.2.2.2.2.1
theorem dX12_choose_7 : decode cX12_choose 7 = .ok (.iload_n 1, 1) := dX12_choose_0_k.2.2.2.2.2.1
theorem dX12_choose_8 : decode cX12_choose 8 = .ok (.if_icmp .gt 23, 3) := dX12_choose_0_k.2.2.2.2.2.2.1
theorem dX12_choose_11 : decode cX12_choose 11 = .ok (.lload_n 2, 1) := dX12_choose_0_k.2.2.2.2.2.2.2.1
theorem dX12_choose_12 : decode cX12_choose 12 = .ok (.iload_n 0, 1) := dX12_choose_0_k.2.2.2.2.2.2.2.2.1
theorem dX12_choose_13 : decode cX12_choose 13 = .ok (.iload_n 1, 1) := dX12_choose_0_k.2.2.2.2.2.2.2.2.2.1
theorem dX12_choose_14 : decode cX12_choose 14 = .ok (.isub, 1) := dX12_choose_0_k.2.2.2.2.2.2.2.2.2.2.1
theorem dX12_choose_15 : decode cX12_choose 15 = .ok (.iload 4, 2) := dX12_choose_0_k.2.2.2.2.2.2.2.2.2.2.2.1
theorem dX12_choose_17 : decode cX12_choose 17 = .ok (.iadd, 1) := dX12_choose_0_k.2.2.2.2.2.2.2.2.2.2.2.2.1
theorem dX12_choose_18 : decode cX12_choose 18 = .ok (.i2l, 1) := dX12_choose_0_k.2.2.2.2.2.2.2.2.2.2.2.2.2.1
theorem dX12_choose_19 : decode cX12_choose 19 = .ok (.lmul, 1) := dX12_choose_0_k.2.2.2.2.2.2.2.2.2.2.2.2.2.2.1
theorem dX12_choose_20 : decode cX12_choose 20 = .ok (.iload 4, 2) := dX12_choose_0_k.2.2.2.2.2.2.2.2.2.2.2.2.2.2.2
theorem dX12_choose_22_k : decode cX12_choose 22 = .ok (.i2l, 1) ∧ decode cX12_choose 23 = .ok (.ldiv, 1) ∧ decode cX12_choose 24 = .ok (.lstore_n 2, 1) ∧ decode cX12_choose 25 = .ok (.iinc 4 1, 3) ∧ decode cX12_choose 28 = .ok (.goto (-23), 3) ∧ decode cX12_choose 31 = .ok (.lload_n 2, 1) ∧ decode cX12_choose 32 = .ok (.lreturn, 1) := by decide +kernel
theorem dX12_choose_22 : decode cX12_choose 22 = .ok (.i2l, 1) := dX12_choose_22_k.1
theorem dX12_choose_23 : decode cX12_choose 23 = .ok (.ldiv, 1) := dX12_choose_22_k.2.1
theorem dX12_choose_24 : decode cX12_choose 24 = .ok (.lstore_n 2, 1) := dX12_choose_22_k.2.2.1
theorem dX12_choose_25 : decode cX12_choose 25 = .ok (.iinc 4 1, 3) := dX12_choose_22_k.2.2.2.1
theorem dX12_choose_28 : decode cX12_choose 28 = .ok (.goto (-23), 3) := dX12_choose_22_k.2.2.2.2.1
theorem dX12_choose_31 : decode cX12_choose 31 = .ok (.lload_n 2, 1) := dX12_choose_22_k.2.2.2.2.2.1
theorem dX12_choose_32 : decode cX12_choose 32 = .ok (.lreturn, 1) := dX12_choose_22_k.2.2.2.2.2.2
theorem dX12_tail_0_k : decode cX12_tail 0 = .ok (.lconst 0, 1) ∧ decode cX12_tail 1 = .ok (.lstore_n 3, 1) ∧ decode cX12_tail 2 = .ok (.iload_n 2, 1) ∧ decode cX12_tail 3 = .ok (.istore 5, 2) ∧ decode cX12_tail 5 = .ok (.iload 5, 2) ∧ decode cX12_tail 7 = .ok (.iload_n 1, 1) ∧ decode cX12_tail 8 = .ok (.if_icmp .gt 47, 3) ∧ decode cX12_tail 11 = .ok (.lload_n 3, 1) ∧ decode cX12_tail 12 = .ok (.iload_n 1, 1) ∧ decode cX12_tail 13 = .ok (.iload 5, 2) ∧ decode cX12_tail 15 = .ok (.invokestatic 138, 3) ∧ decode cX12_tail 18 = .ok (.aload_n 0, 1) ∧ decode cX12_tail 19 = .ok (.getfield 7, 3) ∧ decode cX12_tail 22 = .ok (.iconst 0, 1) ∧ decode cX12_tail 23 = .ok (.iaload, 1) ∧ decode cX12_tail 24 = .ok (.iload 5, 2) := by decide +kernel
theorem dX12_tail_0 : decode cX12_tail 0 = .ok (.lconst 0, 1) := dX12_tail_0_k.1
theorem dX12_tail_1 : decode cX12_tail 1 = .ok (.lstore_n 3, 1) := dX12_tail_0_k.2.1
theorem dX12_tail_2 : decode cX12_tail 2 = .ok (.iload_n 2, 1) := dX12_tail_0_k.2.2.1
theorem dX12_tail_3 : decode cX12_tail 3 = .ok (.istore 5, 2) := dX12_tail_0_k.2.2.2.1
theorem dX12_tail_5 : decode cX12_tail 5 = .ok (.iload 5, 2) := dX12_tail_0_k.2.2.2.2.1
theorem dX12_tail_7 : decode cX12_tail 7 = .ok (.iload_n 1, 1) := dX12_tail_0_k.2.2.2.2.2.1
theorem dX12_tail_8 : decode cX12_tail 8 = .ok (.if_icmp .gt 47, 3) := dX12_tail_0_k.2.2.2.2.2.2.1
theorem dX12_tail_11 : decode cX12_tail 11 = .ok (.lload_n 3, 1) := dX12_tail_0_k.2.2.2.2.2.2.2.1
theorem dX12_tail_12 : decode cX12_tail 12 = .ok (.iload_n 1, 1) := dX12_tail_0_k.2.2.2.2.2.2.2.2.1
theorem dX12_tail_13 : decode cX12_tail 13 = .ok (.iload 5, 2) := dX12_tail_0_k.2.2.2.2.2.2.2.2.2.1
theorem dX12_tail_15 : decode cX12_tail 15 = .ok (.invokestatic 138, 3) := dX12_tail_0_k.2.2.2.2.2.2.2.2.2.2.1
theorem dX12_tail_18 : decode cX12_tail 18 = .ok (.aload_n 0, 1) := dX12_tail_0_k.2.2.2.2.2.2.2.2.2.2.2.1
theorem dX12_tail_19 : decode cX12_tail 19 = .ok (.getfield 7, 3) := dX12_tail_0_k.2.2.2.2.2.2.2.2.2.2.2.2.1
theorem dX12_tail_22 : decode cX12_tail 22 = .ok (.iconst 0, 1) := dX12_tail_0_k.2.2.2.2.2.2.2.2.2.2.2.2.2.1
theorem dX12_tail_23 : decode cX12_tail 23 = .ok (.iaload, 1) := dX12_tail_0_k.2.2.2.2.2.2.2.2.2.2.2.2.2.2.1
theorem dX12_tail_24 : decode cX12_tail 24 = .ok (.iload 5, 2) := dX12_tail_0_k.2.2.2.2.2.2.2.2.2.2.2.2.2.2.2
theorem dX12_tail_26_k : decode cX12_tail 26 = .ok (.invokestatic 130, 3) ∧ decode cX12_tail 29 = .ok (.lmul, 1) ∧ decode cX12_tail 30 = .ok (.bipush 16, 2) ∧ decode cX12_tail 32 = .ok (.aload_n 0, 1) ∧ decode cX12_tail 33 = .ok (.getfield 7, 3) ∧ decode cX12_tail 36 = .ok (.iconst 0, 1) ∧ decode cX12_tail 37 = .ok (.iaload, 1) ∧ decode cX12_tail 38 = .ok (.isub, 1) ∧ decode cX12_tail 39 = .ok (.iload_n 1, 1) ∧ decode cX12_tail 40 = .ok (.iload 5, 2) ∧ decode cX12_tail 42 = .ok (.isub, 1) ∧ decode cX12_tail 43 = .ok (.invokestatic 130, 3) ∧ decode cX12_tail 46 = .ok (.lmul, 1) ∧ decode cX12_tail 47 = .ok (.ladd, 1) ∧ decode cX12_tail 48 = .ok (.lstore_n 3, 1) ∧ decode cX12_tail 49 = .ok (.iinc 5 1, 3) := by decide +kernel
theorem dX12_tail_26 : decode cX12_tail 26 = .ok (.invokestatic 130, 3) := dX12_tail_26_k.1
theorem dX12_tail_29 : decode cX12_tail 29 = .ok (.lmul, 1) := dX12_tail_26_k.2.1
theorem dX12_tail_30 : decode cX12_tail 30 = .ok (.bipush 16, 2) := dX12_tail_26_k.2.2.1
theorem dX12_tail_32 : decode cX12_tail 32 = .ok (.aload_n 0, 1) := dX12_tail_26_k.2.2.2.1
theorem dX12_tail_33 : decode cX12_tail 33 = .ok (.getfield 7, 3) := dX12_tail_26_k.2.2.2.2.1
theorem dX12_tail_36 : decode cX12_tail 36 = .ok (.iconst 0, 1) := dX12_tail_26_k.2.2.2.2.2.1
theorem dX12_tail_37 : decode cX12_tail 37 = .ok (.iaload, 1) := dX12_tail_26_k.2.2.2.2.2.2.1
theorem dX12_tail_38 : decode cX12_tail 38 = .ok (.isub, 1) := dX12_tail_26_k.2.2.2.2.2.2.2.1
theorem dX12_tail_39 : decode cX12_tail 39 = .ok (.iload_n 1, 1) := dX12_tail_26_k.2.2.2.2.2.2.2.2.1
theorem dX12_tail_40 : decode cX12_tail 40 = .ok (.iload 5, 2) := dX12_tail_26_k.2.2.2.2.2.2.2.2.2.1
theorem dX12_tail_42 : decode cX12_tail 42 = .ok (.isub, 1) := dX12_tail_26_k.2.2.2.2.2.2.2.2.2.2.1
theorem dX12_tail_43 : decode cX12_tail 43 = .ok (.invokestatic 130, 3) := dX12_tail_26_k.2.2.2.2.2.2.2.2.2.2.2.1
theorem dX12_tail_46 : decode cX12_tail 46 = .ok (.lmul, 1) := dX12_tail_26_k.2.2.2.2.2.2.2.2.2.2.2.2.1
theorem dX12_tail_47 : decode cX12_tail 47 = .ok (.ladd, 1) := dX12_tail_26_k.2.2.2.2.2.2.2.2.2.2.2.2.2.1
theorem dX12_tail_48 : decode cX12_tail 48 = .ok (.lstore_n 3, 1) := dX12_tail_26_k.2.2.2.2.2.2.2.2.2.2.2.2.2.2.1
theorem dX12_tail_49 : decode cX12_tail 49 = .ok (.iinc 5 1, 3) := dX12_tail_26_k.2.2.2.2.2.2.2.2.2.2.2.2.2.2.2
theorem dX12_tail_52_k : decode cX12_tail 52 = .ok (.goto (-47), 3) ∧ decode cX12_tail 55 = .ok (.lload_n 3, 1) ∧ decode cX12_tail 56 = .ok (.lreturn, 1) := by decide +kernel
theorem dX12_tail_52 : decode cX12_tail 52 = .ok (.goto (-47), 3) := dX12_tail_52_k.1
theorem dX12_tail_55 : decode cX12_tail 55 = .ok (.lload_n 3, 1) := dX12_tail_52_k.2.1
theorem dX12_tail_56 : decode cX12_tail 56 = .ok (.lreturn, 1) := dX12_tail_52_k.2.2
theorem dX12_halves_0_k : decode cX12_halves 0 = .ok (.lconst 0, 1) ∧ decode cX12_halves 1 = .ok (.lstore_n 2, 1) ∧ decode cX12_halves 2 = .ok (.iload_n 1, 1) ∧ decode cX12_halves 3 = .ok (.istore 4, 2) ∧ decode cX12_halves 5 = .ok (.iload 4, 2) ∧ decode cX12_halves 7 = .ok (.iload_n 0, 1) ∧ decode cX12_halves 8 = .ok (.if_icmp .gt 18, 3) ∧ decode cX12_halves 11 = .ok (.lload_n 2, 1) ∧ decode cX12_halves 12 = .ok (.iload_n 0, 1) ∧ decode cX12_halves 13 = .ok (.iload 4, 2) ∧ decode cX12_halves 15 = .ok (.invokestatic 138, 3) ∧ decode cX12_halves 18 = .ok (.ladd, 1) ∧ decode cX12_halves 19 = .ok (.lstore_n 2, 1) ∧ decode cX12_halves 20 = .ok (.iinc 4 1, 3) ∧ decode cX12_halves 23 = .ok (.goto (-18), 3) ∧ decode cX12_halves 26 = .ok (.lload_n 2, 1) := by decide +kernel
theorem dX12_halves_0 : decode cX12_halves 0 = .ok (.lconst 0, 1) := dX12_halves_0_k.1
theorem dX12_halves_1 : decode cX12_halves 1 = .ok (.lstore_n 2, 1) := dX12_halves_0_k.2.1
theorem dX12_halves_2 : decode cX12_halves 2 = .ok (.iload_n 1, 1) := dX12_halves_0_k.2.2.1
theorem dX12_halves_3 : decode cX12_halves 3 = .ok (.istore 4, 2) := dX12_halves_0_k.2.2.2.1
theorem dX12_halves_5 : decode cX12_halves 5 = .ok (.iload 4, 2) := dX12_halves_0_k.2.2.2.2.1
theorem dX12_halves_7 : decode cX12_halves 7 = .ok (.iload_n 0, 1) := dX12_halves_0_k.2.2.2.2.2.1
theorem dX12_halves_8 : decode cX12_halves 8 = .ok (.if_icmp .gt 18, 3) := dX12_halves_0_k.2.2.2.2.2.2.1
theorem dX12_halves_11 : decode cX12_halves 11 = .ok (.lload_n 2, 1) := dX12_halves_0_k.2.2.2.2.2.2.2.1
theorem dX12_halves_12 : decode cX12_halves 12 = .ok (.iload_n 0, 1) := dX12_halves_0_k.2.2.2.2.2.2.2.2.1
theorem dX12_halves_13 : decode cX12_halves 13 = .ok (.iload 4, 2) := dX12_halves_0_k.2.2.2.2.2.2.2.2.2.1
theorem dX12_halves_15 : decode cX12_halves 15 = .ok (.invokestatic 138, 3) := dX12_halves_0_k.2.2.2.2.2.2.2.2.2.2.1
theorem dX12_halves_18 : decode cX12_halves 18 = .ok (.ladd, 1) := dX12_halves_0_k.2.2.2.2.2.2.2.2.2.2.2.1
theorem dX12_halves_19 : decode cX12_halves 19 = .ok (.lstore_n 2, 1) := dX12_halves_0_k.2.2.2.2.2.2.2.2.2.2.2.2.1
theorem dX12_halves_20 : decode cX12_halves 20 = .ok (.iinc 4 1, 3) := dX12_halves_0_k.2.2.2.2.2.2.2.2.2.2.2.2.2.1
theorem dX12_halves_23 : decode cX12_halves 23 = .ok (.goto (-18), 3) := dX12_halves_0_k.2.2.2.2.2.2.2.2.2.2.2.2.2.2.1
theorem dX12_halves_26 : decode cX12_halves 26 = .ok (.lload_n 2, 1) := dX12_halves_0_k.2.2.2.2.2.2.2.2.2.2.2.2.2.2.2
theorem dX12_halves_27 : decode cX12_halves 27 = .ok (.lreturn, 1) := by decide +kernel
theorem dX12_proportion_0_k : decode cX12_proportion 0 = .ok (.aload_n 0, 1) ∧ decode cX12_proportion 1 = .ok (.getfield 7, 3) ∧ decode cX12_proportion 4 = .ok (.iconst 2, 1) ∧ decode cX12_proportion 5 = .ok (.iaload, 1) ∧ decode cX12_proportion 6 = .ok (.iconst 1, 1) ∧ decode cX12_proportion 7 = .ok (.isub, 1) ∧ decode cX12_proportion 8 = .ok (.istore_n 1, 1) ∧ decode cX12_proportion 9 = .ok (.iconst 2, 1) ∧ decode cX12_proportion 10 = .ok (.istore_n 2, 1) ∧ decode cX12_proportion 11 = .ok (.iload_n 2, 1) ∧ decode cX12_proportion 12 = .ok (.aload_n 0, 1) ∧ decode cX12_proportion 13 = .ok (.getfield 7, 3) ∧ decode cX12_proportion 16 = .ok (.iconst 2, 1) ∧ decode cX12_proportion 17 = .ok (.iaload, 1) ∧ decode cX12_proportion 18 = .ok (.if_icmp .gt 29, 3) ∧ decode cX12_proportion 21 = .ok (.aload_n 0, 1) := by decide +kernel
theorem dX12_proportion_0 : decode cX12_proportion 0 = .ok (.aload_n 0, 1) := dX12_proportion_0_k.1
theorem dX12_proportion_1 : decode cX12_proportion 1 = .ok (.getfield 7, 3) := dX12_proportion_0_k.2.1
theorem dX12_proportion_4 : decode cX12_proportion 4 = .ok (.iconst 2, 1) := dX12_proportion_0_k.2.2.1
theorem dX12_proportion_5 : decode cX12_proportion 5 = .ok (.iaload, 1) := dX12_proportion_0_k.2.2.2.1
theorem dX12_proportion_6 : decode cX12_proportion 6 = .ok (.iconst 1, 1) := dX12_proportion_0_k.2.2.2.2.1
theorem dX12_proportion_7 : decode cX12_proportion 7 = .ok (.isub, 1) := dX12_proportion_0_k.2.2.2.2.2.1
theorem dX12_proportion_8 : decode cX12_proportion 8 = .ok (.istore_n 1, 1) := dX12_proportion_0_k.2.2.2.2.2.2.1
theorem dX12_proportion_9 : decode cX12_proportion 9 = .ok (.iconst 2, 1) := dX12_proportion_0_k.2.2.2.2.2.2.2.1
theorem dX12_proportion_10 : decode cX12_proportion 10 = .ok (.istore_n 2, 1) := dX12_proportion_0_k.2.2.2.2.2.2.2.2.1
theorem dX12_proportion_11 : decode cX12_proportion 11 = .ok (.iload_n 2, 1) := dX12_proportion_0_k.2.2.2.2.2.2.2.2.2.1
theorem dX12_proportion_12 : decode cX12_proportion 12 = .ok (.aload_n 0, 1) := dX12_proportion_0_k.2.2.2.2.2.2.2.2.2.2.1
theorem dX12_proportion_13 : decode cX12_proportion 13 = .ok (.getfield 7, 3) := dX12_proportion_0_k.2.2.2.2.2.2.2.2.2.2.2.1
theorem dX12_proportion_16 : decode cX12_proportion 16 = .ok (.iconst 2, 1) := dX12_proportion_0_k.2.2.2.2.2.2.2.2.2.2.2.2.1
theorem dX12_proportion_17 : decode cX12_proportion 17 = .ok (.iaload, 1) := dX12_proportion_0_k.2.2.2.2.2.2.2.2.2.2.2.2.2.1
theorem dX12_proportion_18 : decode cX12_proportion 18 = .ok (.if_icmp .gt 29, 3) := dX12_proportion_0_k.2.2.2.2.2.2.2.2.2.2.2.2.2.2.1
theorem dX12_proportion_21 : decode cX12_proportion 21 = .ok (.aload_n 0, 1) := dX12_proportion_0_k.2.2.2.2.2.2.2.2.2.2.2.2.2.2.2
theorem dX12_proportion_22_k : decode cX12_proportion 22 = .ok (.aload_n 0, 1) ∧ decode cX12_proportion 23 = .ok (.iload_n 1, 1) ∧ decode cX12_proportion 24 = .ok (.iload_n 2, 1) ∧ decode cX12_proportion 25 = .ok (.iconst 1, 1) ∧ decode cX12_proportion 26 = .ok (.isub, 1) ∧ decode cX12_proportion 27 = .ok (.invokevirtual 141, 3) ∧ decode cX12_proportion 30 = .ok (.iconst 4, 1) ∧ decode cX12_proportion 31 = .ok (.iload_n 1, 1) ∧ decode cX12_proportion 32 = .ok (.imul, 1) ∧ decode cX12_proportion 33 = .ok (.invokevirtual 134, 3) ∧ decode cX12_proportion 36 = .ok (.ifCond .eq 5, 3) ∧ decode cX12_proportion 39 = .ok (.iload_n 2, 1) ∧ decode cX12_proportion 40 = .ok (.ireturn, 1) ∧ decode cX12_proportion 41 = .ok (.iinc 2 1, 3) ∧ decode cX12_proportion 44 = .ok (.goto (-33), 3) ∧ decode cX12_proportion 47 = .ok (.aload_n 0, 1) := by decide +kernel
theorem dX12_proportion_22 : decode cX12_proportion 22 = .ok (.aload_n 0, 1) := dX12_proportion_22_k.1
theorem dX12_proportion_23 : decode cX12_proportion 23 = .ok (.iload_n 1, 1) := dX12_proportion_22_k.2.1
theorem dX12_proportion_24 : decode cX12_proportion 24 = .ok (.iload_n 2, 1) := dX12_proportion_22_k.2.2.1
theorem dX12_proportion_25 : decode cX12_proportion 25 = .ok (.iconst 1, 1) := dX12_proportion_22_k.2.2.2.1
theorem dX12_proportion_26 : decode cX12_proportion 26 = .ok (.isub, 1) := dX12_proportion_22_k.2.2.2.2.1
theorem dX12_proportion_27 : decode cX12_proportion 27 = .ok (.invokevirtual 141, 3) := dX12_proportion_22_k.2.2.2.2.2.1
theorem dX12_proportion_30 : decode cX12_proportion 30 = .ok (.iconst 4, 1) := dX12_proportion_22_k.2.2.2.2.2.2.1
theorem dX12_proportion_31 : decode cX12_proportion 31 = .ok (.iload_n 1, 1) := dX12_proportion_22_k.2.2.2.2.2.2.2.1
theorem dX12_proportion_32 : decode cX12_proportion 32 = .ok (.imul, 1) := dX12_proportion_22_k.2.2.2.2.2.2.2.2.1
theorem dX12_proportion_33 : decode cX12_proportion 33 = .ok (.invokevirtual 134, 3) := dX12_proportion_22_k.2.2.2.2.2.2.2.2.2.1
theorem dX12_proportion_36 : decode cX12_proportion 36 = .ok (.ifCond .eq 5, 3) := dX12_proportion_22_k.2.2.2.2.2.2.2.2.2.2.1
theorem dX12_proportion_39 : decode cX12_proportion 39 = .ok (.iload_n 2, 1) := dX12_proportion_22_k.2.2.2.2.2.2.2.2.2.2.2.1
theorem dX12_proportion_40 : decode cX12_proportion 40 = .ok (.ireturn, 1) := dX12_proportion_22_k.2.2.2.2.2.2.2.2.2.2.2.2.1
theorem dX12_proportion_41 : decode cX12_proportion 41 = .ok (.iinc 2 1, 3) := dX12_proportion_22_k.2.2.2.2.2.2.2.2.2.2.2.2.2.1
theorem dX12_proportion_44 : decode cX12_proportion 44 = .ok (.goto (-33), 3) := dX12_proportion_22_k.2.2.2.2.2.2.2.2.2.2.2.2.2.2.1
theorem dX12_proportion_47 : decode cX12_proportion 47 = .ok (.aload_n 0, 1) := dX12_proportion_22_k.2.2.2.2.2.2.2.2.2.2.2.2.2.2.2
theorem dX12_proportion_48_k : decode cX12_proportion 48 = .ok (.getfield 7, 3) ∧ decode cX12_proportion 51 = .ok (.iconst 2, 1) ∧ decode cX12_proportion 52 = .ok (.iaload, 1) ∧ decode cX12_proportion 53 = .ok (.iconst 1, 1) ∧ decode cX12_proportion 54 = .ok (.iadd, 1) ∧ decode cX12_proportion 55 = .ok (.ireturn, 1) := by decide +kernel
theorem dX12_proportion_48 : decode cX12_proportion 48 = .ok (.getfield 7, 3) := dX12_proportion_48_k.1
theorem dX12_proportion_51 : decode cX12_proportion 51 = .ok (.iconst 2, 1) := dX12_proportion_48_k.2.1
theorem dX12_proportion_52 : decode cX12_proportion 52 = .ok (.iaload, 1) := dX12_proportion_48_k.2.2.1
theorem dX12_proportion_53 : decode cX12_proportion 53 = .ok (.iconst 1, 1) := dX12_proportion_48_k.2.2.2.1
theorem dX12_proportion_54 : decode cX12_proportion 54 = .ok (.iadd, 1) := dX12_proportion_48_k.2.2.2.2.1
theorem dX12_proportion_55 : decode cX12_proportion 55 = .ok (.ireturn, 1) := dX12_proportion_48_k.2.2.2.2.2
theorem dX12_changes_0_k : decode cX12_changes 0 = .ok (.aload_n 0, 1) ∧ decode cX12_changes 1 = .ok (.getfield 7, 3) ∧ decode cX12_changes 4 = .ok (.iconst 2, 1) ∧ decode cX12_changes 5 = .ok (.iaload, 1) ∧ decode cX12_changes 6 = .ok (.iconst 1, 1) ∧ decode cX12_changes 7 = .ok (.isub, 1) ∧ decode cX12_changes 8 = .ok (.istore_n 1, 1) ∧ decode cX12_changes 9 = .ok (.iconst 1, 1) ∧ decode cX12_changes 10 = .ok (.istore_n 2, 1) ∧ decode cX12_changes 11 = .ok (.iload_n 2, 1) ∧ decode cX12_changes 12 = .ok (.iload_n 1, 1) ∧ decode cX12_changes 13 = .ok (.if_icmp .gt 24, 3) ∧ decode cX12_changes 16 = .ok (.aload_n 0, 1) ∧ decode cX12_changes 17 = .ok (.iload_n 1, 1) ∧ decode cX12_changes 18 = .ok (.iload_n 2, 1) ∧ decode cX12_changes 19 = .ok (.invokestatic 144, 3) := by decide +kernel
theorem dX12_changes_0 : decode cX12_changes 0 = .ok (.aload_n 0, 1) := dX12_changes_0_k.1
theorem dX12_changes_1 : decode cX12_changes 1 = .ok (.getfield 7, 3) := dX12_changes_0_k.2.1
theorem dX12_changes_4 : decode cX12_changes 4 = .ok (.iconst 2, 1) := dX12_changes_0_k.2.2.1
theorem dX12_changes_5 : decode cX12_changes 5 = .ok (.iaload, 1) := dX12_changes_0_k.2.2.2.1
theorem dX12_changes_6 : decode cX12_changes 6 = .ok (.iconst 1, 1) := dX12_changes_0_k.2.2.2.2.1
theorem dX12_changes_7 : decode cX12_changes 7 = .ok (.isub, 1) := dX12_changes_0_k.2.2.2.2.2.1
theorem dX12_changes_8 : decode cX12_changes 8 = .ok (.istore_n 1, 1) := dX12_changes_0_k.2.2.2.2.2.2.1
theorem dX12_changes_9 : decode cX12_changes 9 = .ok (.iconst 1, 1) := dX12_changes_0_k.2.2.2.2.2.2.2.1
theorem dX12_changes_10 : decode cX12_changes 10 = .ok (.istore_n 2, 1) := dX12_changes_0_k.2.2.2.2.2.2.2.2.1
theorem dX12_changes_11 : decode cX12_changes 11 = .ok (.iload_n 2, 1) := dX12_changes_0_k.2.2.2.2.2.2.2.2.2.1
theorem dX12_changes_12 : decode cX12_changes 12 = .ok (.iload_n 1, 1) := dX12_changes_0_k.2.2.2.2.2.2.2.2.2.2.1
theorem dX12_changes_13 : decode cX12_changes 13 = .ok (.if_icmp .gt 24, 3) := dX12_changes_0_k.2.2.2.2.2.2.2.2.2.2.2.1
theorem dX12_changes_16 : decode cX12_changes 16 = .ok (.aload_n 0, 1) := dX12_changes_0_k.2.2.2.2.2.2.2.2.2.2.2.2.1
theorem dX12_changes_17 : decode cX12_changes 17 = .ok (.iload_n 1, 1) := dX12_changes_0_k.2.2.2.2.2.2.2.2.2.2.2.2.2.1
theorem dX12_changes_18 : decode cX12_changes 18 = .ok (.iload_n 2, 1) := dX12_changes_0_k.2.2.2.2.2.2.2.2.2.2.2.2.2.2.1
theorem dX12_changes_19 : decode cX12_changes 19 = .ok (.invokestatic 144, 3) := dX12_changes_0_k.2.2.2.2.2.2.2.2.2.2.2.2.2.2.2
theorem dX12_changes_22_k : decode cX12_changes 22 = .ok (.iload_n 1, 1) ∧ decode cX12_changes 23 = .ok (.invokevirtual 134, 3) ∧ decode cX12_changes 26 = .ok (.ifCond .eq 5, 3) ∧ decode cX12_changes 29 = .ok (.iload_n 2, 1) ∧ decode cX12_changes 30 = .ok (.ireturn, 1) ∧ decode cX12_changes 31 = .ok (.iinc 2 1, 3) ∧ decode cX12_changes 34 = .ok (.goto (-23), 3) ∧ decode cX12_changes 37 = .ok (.aload_n 0, 1) ∧ decode cX12_changes 38 = .ok (.getfield 7, 3) ∧ decode cX12_changes 41 = .ok (.iconst 2, 1) ∧ decode cX12_changes 42 = .ok (.iaload, 1) ∧ decode cX12_changes 43 = .ok (.ireturn, 1) := by decide +kernel
theorem dX12_changes_22 : decode cX12_changes 22 = .ok (.iload_n 1, 1) := dX12_changes_22_k.1
theorem dX12_changes_23 : decode cX12_changes 23 = .ok (.invokevirtual 134, 3) := dX12_changes_22_k.2.1
theorem dX12_changes_26 : decode cX12_changes 26 = .ok (.ifCond .eq 5, 3) := dX12_changes_22_k.2.2.1
theorem dX12_changes_29 : decode cX12_changes 29 = .ok (.iload_n 2, 1) := dX12_changes_22_k.2.2.2.1
theorem dX12_changes_30 : decode cX12_changes 30 = .ok (.ireturn, 1) := dX12_changes_22_k.2.2.2.2.1
theorem dX12_changes_31 : decode cX12_changes 31 = .ok (.iinc 2 1, 3) := dX12_changes_22_k.2.2.2.2.2.1
theorem dX12_changes_34 : decode cX12_changes 34 = .ok (.goto (-23), 3) := dX12_changes_22_k.2.2.2.2.2.2.1
theorem dX12_changes_37 : decode cX12_changes 37 = .ok (.aload_n 0, 1) := dX12_changes_22_k.2.2.2.2.2.2.2.1
theorem dX12_changes_38 : decode cX12_changes 38 = .ok (.getfield 7, 3) := dX12_changes_22_k.2.2.2.2.2.2.2.2.1
theorem dX12_changes_41 : decode cX12_changes 41 = .ok (.iconst 2, 1) := dX12_changes_22_k.2.2.2.2.2.2.2.2.2.1
theorem dX12_changes_42 : decode cX12_changes 42 = .ok (.iaload, 1) := dX12_changes_22_k.2.2.2.2.2.2.2.2.2.2.1
theorem dX12_changes_43 : decode cX12_changes 43 = .ok (.ireturn, 1) := dX12_changes_22_k.2.2.2.2.2.2.2.2.2.2.2
theorem dX12_rowsLimit_0_k : decode cX12_rowsLimit 0 = .ok (.iconst 1, 1) ∧ decode cX12_rowsLimit 1 = .ok (.istore_n 2, 1) ∧ decode cX12_rowsLimit 2 = .ok (.iload_n 2, 1) ∧ decode cX12_rowsLimit 3 = .ok (.iload_n 1, 1) ∧ decode cX12_rowsLimit 4 = .ok (.if_icmp .gt 27, 3) ∧ decode cX12_rowsLimit 7 = .ok (.aload_n 0, 1) ∧ decode cX12_rowsLimit 8 = .ok (.aload_n 0, 1) ∧ decode cX12_rowsLimit 9 = .ok (.iload_n 1, 1) ∧ decode cX12_rowsLimit 10 = .ok (.iload_n 2, 1) ∧ decode cX12_rowsLimit 11 = .ok (.invokevirtual 141, 3) ∧ decode cX12_rowsLimit 14 = .ok (.iconst 4, 1) ∧ decode cX12_rowsLimit 15 = .ok (.iload_n 1, 1) ∧ decode cX12_rowsLimit 16 = .ok (.imul, 1) ∧ decode cX12_rowsLimit 17 = .ok (.invokevirtual 134, 3) ∧ decode cX12_rowsLimit 20 = .ok (.ifCond .eq 5, 3) ∧ decode cX12_rowsLimit 23 = .ok (.iload_n 2, 1) := by decide +kernel
theorem dX12_rowsLimit_0 : decode cX12_rowsLimit 0 = .ok (.iconst 1, 1) := dX12_rowsLimit_0_k.1
theorem dX12_rowsLimit_1 : decode cX12_rowsLimit 1 = .ok (.istore_n 2, 1) := dX12_rowsLimit_0_k.2.1
theorem dX12_rowsLimit_2 : decode cX12_rowsLimit 2 = .ok (.iload_n 2, 1) := dX12_rowsLimit_0_k.2.2.1
theorem dX12_rowsLimit_3 : decode cX12_rowsLimit 3 = .ok (.iload_n 1, 1) := dX12_rowsLimit_0_k.2.2.2.1
theorem dX12_rowsLimit_4 : decode cX12_rowsLimit 4 = .ok (.if_icmp .gt 27, 3) := dX12_rowsLimit_0_k.2.2.2.2.1
theorem dX12_rowsLimit_7 : decode cX12_rowsLimit 7 = .ok (.aload_n 0, 1) := dX12_rowsLimit_0_k.2.2.2.2.2.1
theorem dX12_rowsLimit_8 : decode cX12_rowsLimit 8 = .ok (.aload_n 0, 1) := dX12_rowsLimit_0_k.2.2.2.2.2.2.1
theorem dX12_rowsLimit_9 : decode cX12_rowsLimit 9 = .ok (.iload_n 1, 1) := dX12_rowsLimit_0_k.2.2.2.2.2.2.2.1
theorem dX12_rowsLimit_10 : decode cX12_rowsLimit 10 = .ok (.iload_n 2, 1) := dX12_rowsLimit_0_k.2.2.2.2.2.2.2.2.1
theorem dX12_rowsLimit_11 : decode cX12_rowsLimit 11 = .ok (.invokevirtual 141, 3) := dX12_rowsLimit_0_k.2.2.2.2.2.2.2.2.2.1
theorem dX12_rowsLimit_14 : decode cX12_rowsLimit 14 = .ok (.iconst 4, 1) := dX12_rowsLimit_0_k.2.2.2.2.2.2.2.2.2.2.1
theorem dX12_rowsLimit_15 : decode cX12_rowsLimit 15 = .ok (.iload_n 1, 1) := dX12_rowsLimit_0_k.2.2.2.2.2.2.2.2.2.2.2.1
theorem dX12_rowsLimit_16 : decode cX12_rowsLimit 16 = .ok (.imul, 1) := dX12_rowsLimit_0_k.2.2.2.2.2.2.2.2.2.2.2.2.1
theorem dX12_rowsLimit_17 : decode cX12_rowsLimit 17 = .ok (.invokevirtual 134, 3) := dX12_rowsLimit_0_k.2.2.2.2.2.2.2.2.2.2.2.2.2.1
theorem dX12_rowsLimit_20 : decode cX12_rowsLimit 20 = .ok (.ifCond .eq 5, 3) := dX12_rowsLimit_0_k.2.2.2.2.2.2.2.2.2.2.2.2.2.2.1
theorem dX12_rowsLimit_23 : decode cX12_rowsLimit 23 = .ok (.iload_n 2, 1) := dX12_rowsLimit_0_k.2.2.2.2.2.2.2.2.2.2.2.2.2.2.2
theorem dX12_rowsLimit_24_k : decode cX12_rowsLimit 24 = .ok (.ireturn, 1) ∧ decode cX12_rowsLimit 25 = .ok (.iinc 2 1, 3) ∧ decode cX12_rowsLimit 28 = .ok (.goto (-26), 3) ∧ decode cX12_rowsLimit 31 = .ok (.iload_n 1, 1) ∧ decode cX12_rowsLimit 32 = .ok (.iconst 1, 1) ∧ decode cX12_rowsLimit 33 = .ok (.iadd, 1) ∧ decode cX12_rowsLimit 34 = .ok (.ireturn, 1) := by decide +kernel
theorem dX12_rowsLimit_24 : decode cX12_rowsLimit 24 = .ok (.ireturn, 1) := dX12_rowsLimit_24_k.1
theorem dX12_rowsLimit_25 : decode cX12_rowsLimit 25 = .ok (.iinc 2 1, 3) := dX12_rowsLimit_24_k.2.1
theorem dX12_rowsLimit_28 : decode cX12_rowsLimit 28 = .ok (.goto (-26), 3) := dX12_rowsLimit_24_k.2.2.1
theorem dX12_rowsLimit_31 : decode cX12_rowsLimit 31 = .ok (.iload_n 1, 1) := dX12_rowsLimit_24_k.2.2.2.1
theorem dX12_rowsLimit_32 : decode cX12_rowsLimit 32 = .ok (.iconst 1, 1) := dX12_rowsLimit_24_k.2.2.2.2.1
theorem dX12_rowsLimit_33 : decode cX12_rowsLimit 33 = .ok (.iadd, 1) := dX12_rowsLimit_24_k.2.2.2.2.2.1
theorem dX12_rowsLimit_34 : decode cX12_rowsLimit 34 = .ok (.ireturn, 1) := dX12_rowsLimit_24_k.2.2.2.2.2.2
theorem dX12_earned_0_k : decode cX12_earned 0 = .ok (.bipush 9, 2) ∧ decode cX12_earned 2 = .ok (.bipush 16, 2) ∧ decode cX12_earned 4 = .ok (.aload_n 0, 1) ∧ decode cX12_earned 5 = .ok (.getfield 7, 3) ∧ decode cX12_earned 8 = .ok (.iconst 0, 1) ∧ decode cX12_earned 9 = .ok (.iaload, 1) ∧ decode cX12_earned 10 = .ok (.isub, 1) ∧ decode cX12_earned 11 = .ok (.imul, 1) ∧ decode cX12_earned 12 = .ok (.ireturn, 1) := by decide +kernel
theorem dX12_earned_0 : decode cX12_earned 0 = .ok (.bipush 9, 2) := dX12_earned_0_k.1
theorem dX12_earned_2 : decode cX12_earned 2 = .ok (.bipush 16, 2) := dX12_earned_0_k.2.1
theorem dX12_earned_4 : decode cX12_earned 4 = .ok (.aload_n 0, 1) := dX12_earned_0_k.2.2.1
theorem dX12_earned_5 : decode cX12_earned 5 = .ok (.getfield 7, 3) := dX12_earned_0_k.2.2.2.1
theorem dX12_earned_8 : decode cX12_earned 8 = .ok (.iconst 0, 1) := dX12_earned_0_k.2.2.2.2.1
theorem dX12_earned_9 : decode cX12_earned 9 = .ok (.iaload, 1) := dX12_earned_0_k.2.2.2.2.2.1
theorem dX12_earned_10 : decode cX12_earned 10 = .ok (.isub, 1) := dX12_earned_0_k.2.2.2.2.2.2.1
theorem dX12_earned_11 : decode cX12_earned 11 = .ok (.imul, 1) := dX12_earned_0_k.2.2.2.2.2.2.2.1
theorem dX12_earned_12 : decode cX12_earned 12 = .ok (.ireturn, 1) := dX12_earned_0_k.2.2.2.2.2.2.2.2
theorem dX12_yields_0_k : decode cX12_yields 0 = .ok (.aload_n 0, 1) ∧ decode cX12_yields 1 = .ok (.getfield 7, 3) ∧ decode cX12_yields 4 = .ok (.iconst 5, 1) ∧ decode cX12_yields 5 = .ok (.iaload, 1) ∧ decode cX12_yields 6 = .ok (.aload_n 0, 1) ∧ decode cX12_yields 7 = .ok (.getfield 7, 3) ∧ decode cX12_yields 10 = .ok (.iconst 4, 1) ∧ decode cX12_yields 11 = .ok (.iaload, 1) ∧ decode cX12_yields 12 = .ok (.aload_n 0, 1) ∧ decode cX12_yields 13 = .ok (.invokevirtual 147, 3) ∧ decode cX12_yields 16 = .ok (.imul, 1) ∧ decode cX12_yields 17 = .ok (.bipush 100, 2) ∧ decode cX12_yields 19 = .ok (.idiv, 1) ∧ decode cX12_yields 20 = .ok (.invokestatic 150, 3) ∧ decode cX12_yields 23 = .ok (.ireturn, 1) := by decide +kernel
theorem dX12_yields_0 : decode cX12_yields 0 = .ok (.aload_n 0, 1) := dX12_yields_0_k.1
theorem dX12_yields_1 : decode cX12_yields 1 = .ok (.getfield 7, 3) := dX12_yields_0_k.2.1
theorem dX12_yields_4 : decode cX12_yields 4 = .ok (.iconst 5, 1) := dX12_yields_0_k.2.2.1
theorem dX12_yields_5 : decode cX12_yields 5 = .ok (.iaload, 1) := dX12_yields_0_k.2.2.2.1
theorem dX12_yields_6 : decode cX12_yields 6 = .ok (.aload_n 0, 1) := dX12_yields_0_k.2.2.2.2.1
theorem dX12_yields_7 : decode cX12_yields 7 = .ok (.getfield 7, 3) := dX12_yields_0_k.2.2.2.2.2.1
theorem dX12_yields_10 : decode cX12_yields 10 = .ok (.iconst 4, 1) := dX12_yields_0_k.2.2.2.2.2.2.1
theorem dX12_yields_11 : decode cX12_yields 11 = .ok (.iaload, 1) := dX12_yields_0_k.2.2.2.2.2.2.2.1
theorem dX12_yields_12 : decode cX12_yields 12 = .ok (.aload_n 0, 1) := dX12_yields_0_k.2.2.2.2.2.2.2.2.1
theorem dX12_yields_13 : decode cX12_yields 13 = .ok (.invokevirtual 147, 3) := dX12_yields_0_k.2.2.2.2.2.2.2.2.2.1
theorem dX12_yields_16 : decode cX12_yields 16 = .ok (.imul, 1) := dX12_yields_0_k.2.2.2.2.2.2.2.2.2.2.1
theorem dX12_yields_17 : decode cX12_yields 17 = .ok (.bipush 100, 2) := dX12_yields_0_k.2.2.2.2.2.2.2.2.2.2.2.1
theorem dX12_yields_19 : decode cX12_yields 19 = .ok (.idiv, 1) := dX12_yields_0_k.2.2.2.2.2.2.2.2.2.2.2.2.1
theorem dX12_yields_20 : decode cX12_yields 20 = .ok (.invokestatic 150, 3) := dX12_yields_0_k.2.2.2.2.2.2.2.2.2.2.2.2.2.1
theorem dX12_yields_23 : decode cX12_yields 23 = .ok (.ireturn, 1) := dX12_yields_0_k.2.2.2.2.2.2.2.2.2.2.2.2.2.2
theorem dX12_limit_0_k : decode cX12_limit 0 = .ok (.aload_n 0, 1) ∧ decode cX12_limit 1 = .ok (.iload_n 1, 1) ∧ decode cX12_limit 2 = .ok (.iconst 0, 1) ∧ decode cX12_limit 3 = .ok (.iconst 4, 1) ∧ decode cX12_limit 4 = .ok (.invokestatic 59, 3) ∧ decode cX12_limit 7 = .ok (.ifCond .ne 14, 3) ∧ decode cX12_limit 10 = .ok (.iload_n 1, 1) ∧ decode cX12_limit 11 = .ok (.bipush 11, 2) ∧ decode cX12_limit 13 = .ok (.bipush 25, 2) ∧ decode cX12_limit 15 = .ok (.invokestatic 59, 3) ∧ decode cX12_limit 18 = .ok (.ifCond .eq 7, 3) ∧ decode cX12_limit 21 = .ok (.iconst 0, 1) ∧ decode cX12_limit 22 = .ok (.goto 4, 3) ∧ decode cX12_limit 25 = .ok (.iconst 1, 1) ∧ decode cX12_limit 26 = .ok (.putfield 33, 3) ∧ decode cX12_limit 29 = .ok (.aload_n 0, 1) := by decide +kernel
theorem dX12_limit_0 : decode cX12_limit 0 = .ok (.aload_n 0, 1) := dX12_limit_0_k.1
theorem dX12_limit_1 : decode cX12_limit 1 = .ok (.iload_n 1, 1) := dX12_limit_0_k.2.1
theorem dX12_limit_2 : decode cX12_limit 2 = .ok (.iconst 0, 1) := dX12_limit_0_k.2.2.1
theorem dX12_limit_3 : decode cX12_limit 3 = .ok (.iconst 4, 1) := dX12_limit_0_k.2.2.2.1
theorem dX12_limit_4 : decode cX12_limit 4 = .ok (.invokestatic 59, 3) := dX12_limit_0_k.2.2.2.2.1
theorem dX12_limit_7 : decode cX12_limit 7 = .ok (.ifCond .ne 14, 3) := dX12_limit_0_k.2.2.2.2.2.1
theorem dX12_limit_10 : decode cX12_limit 10 = .ok (.iload_n 1, 1) := dX12_limit_0_k.2.2.2.2.2.2.1
theorem dX12_limit_11 : decode cX12_limit 11 = .ok (.bipush 11, 2) := dX12_limit_0_k.2.2.2.2.2.2.2.1
theorem dX12_limit_13 : decode cX12_limit 13 = .ok (.bipush 25, 2) := dX12_limit_0_k.2.2.2.2.2.2.2.2.1
theorem dX12_limit_15 : decode cX12_limit 15 = .ok (.invokestatic 59, 3) := dX12_limit_0_k.2.2.2.2.2.2.2.2.2.1
theorem dX12_limit_18 : decode cX12_limit 18 = .ok (.ifCond .eq 7, 3) := dX12_limit_0_k.2.2.2.2.2.2.2.2.2.2.1
theorem dX12_limit_21 : decode cX12_limit 21 = .ok (.iconst 0, 1) := dX12_limit_0_k.2.2.2.2.2.2.2.2.2.2.2.1
theorem dX12_limit_22 : decode cX12_limit 22 = .ok (.goto 4, 3) := dX12_limit_0_k.2.2.2.2.2.2.2.2.2.2.2.2.1
theorem dX12_limit_25 : decode cX12_limit 25 = .ok (.iconst 1, 1) := dX12_limit_0_k.2.2.2.2.2.2.2.2.2.2.2.2.2.1
theorem dX12_limit_26 : decode cX12_limit 26 = .ok (.putfield 33, 3) := dX12_limit_0_k.2.2.2.2.2.2.2.2.2.2.2.2.2.2.1
theorem dX12_limit_29 : decode cX12_limit 29 = .ok (.aload_n 0, 1) := dX12_limit_0_k.2.2.2.2.2.2.2.2.2.2.2.2.2.2.2
theorem dX12_limit_30_k : decode cX12_limit 30 = .ok (.getfield 33, 3) ∧ decode cX12_limit 33 = .ok (.ifCond .le 5, 3) ∧ decode cX12_limit 36 = .ok (.iconst 0, 1) ∧ decode cX12_limit 37 = .ok (.ireturn, 1) ∧ decode cX12_limit 38 = .ok (.iload_n 1, 1) ∧ decode cX12_limit 39 = .ok (.tableswitch 58 0 4 #[33, 38, 43, 48, 53], 33) ∧ decode cX12_limit 72 = .ok (.aload_n 0, 1) ∧ decode cX12_limit 73 = .ok (.invokevirtual 154, 3) ∧ decode cX12_limit 76 = .ok (.ireturn, 1) ∧ decode cX12_limit 77 = .ok (.aload_n 0, 1) ∧ decode cX12_limit 78 = .ok (.invokevirtual 157, 3) ∧ decode cX12_limit 81 = .ok (.ireturn, 1) ∧ decode cX12_limit 82 = .ok (.aload_n 0, 1) ∧ decode cX12_limit 83 = .ok (.invokevirtual 160, 3) ∧ decode cX12_limit 86 = .ok (.ireturn, 1) ∧ decode cX12_limit 87 = .ok (.aload_n 0, 1) := by decide +kernel
theorem dX12_limit_30 : decode cX12_limit 30 = .ok (.getfield 33, 3) := dX12_limit_30_k.1
theorem dX12_limit_33 : decode cX12_limit 33 = .ok (.ifCond .le 5, 3) := dX12_limit_30_k.2.1
theorem dX12_limit_36 : decode cX12_limit 36 = .ok (.iconst 0, 1) := dX12_limit_30_k.2.2.1
theorem dX12_limit_37 : decode cX12_limit 37 = .ok (.ireturn, 1) := dX12_limit_30_k.2.2.2.1
theorem dX12_limit_38 : decode cX12_limit 38 = .ok (.iload_n 1, 1) := dX12_limit_30_k.2.2.2.2.1
theorem dX12_limit_39 : decode cX12_limit 39 = .ok (.tableswitch 58 0 4 #[33, 38, 43, 48, 53], 33) := dX12_limit_30_k.2.2.2.2.2.1
theorem dX12_limit_72 : decode cX12_limit 72 = .ok (.aload_n 0, 1) := dX12_limit_30_k.2.2.2.2.2.2.1
theorem dX12_limit_73 : decode cX12_limit 73 = .ok (.invokevirtual 154, 3) := dX12_limit_30_k.2.2.2.2.2.2.2.1
theorem dX12_limit_76 : decode cX12_limit 76 = .ok (.ireturn, 1) := dX12_limit_30_k.2.2.2.2.2.2.2.2.1
theorem dX12_limit_77 : decode cX12_limit 77 = .ok (.aload_n 0, 1) := dX12_limit_30_k.2.2.2.2.2.2.2.2.2.1
theorem dX12_limit_78 : decode cX12_limit 78 = .ok (.invokevirtual 157, 3) := dX12_limit_30_k.2.2.2.2.2.2.2.2.2.2.1
theorem dX12_limit_81 : decode cX12_limit 81 = .ok (.ireturn, 1) := dX12_limit_30_k.2.2.2.2.2.2.2.2.2.2.2.1
theorem dX12_limit_82 : decode cX12_limit 82 = .ok (.aload_n 0, 1) := dX12_limit_30_k.2.2.2.2.2.2.2.2.2.2.2.2.1
theorem dX12_limit_83 : decode cX12_limit 83 = .ok (.invokevirtual 160, 3) := dX12_limit_30_k.2.2.2.2.2.2.2.2.2.2.2.2.2.1
theorem dX12_limit_86 : decode cX12_limit 86 = .ok (.ireturn, 1) := dX12_limit_30_k.2.2.2.2.2.2.2.2.2.2.2.2.2.2.1
theorem dX12_limit_87 : decode cX12_limit 87 = .ok (.aload_n 0, 1) := dX12_limit_30_k.2.2.2.2.2.2.2.2.2.2.2.2.2.2.2
theorem dX12_limit_88_k : decode cX12_limit 88 = .ok (.invokevirtual 163, 3) ∧ decode cX12_limit 91 = .ok (.ireturn, 1) ∧ decode cX12_limit 92 = .ok (.aload_n 0, 1) ∧ decode cX12_limit 93 = .ok (.invokevirtual 147, 3) ∧ decode cX12_limit 96 = .ok (.ireturn, 1) ∧ decode cX12_limit 97 = .ok (.aload_n 0, 1) ∧ decode cX12_limit 98 = .ok (.iload_n 1, 1) ∧ decode cX12_limit 99 = .ok (.bipush 10, 2) ∧ decode cX12_limit 101 = .ok (.isub, 1) ∧ decode cX12_limit 102 = .ok (.invokevirtual 166, 3) ∧ decode cX12_limit 105 = .ok (.ireturn, 1) := by decide +kernel
theorem dX12_limit_88 : decode cX12_limit 88 = .ok (.invokevirtual 163, 3) := dX12_limit_88_k.1
theorem dX12_limit_91 : decode cX12_limit 91 = .ok (.ireturn, 1) := dX12_limit_88_k.2.1
theorem dX12_limit_92 : decode cX12_limit 92 = .ok (.aload_n 0, 1) := dX12_limit_88_k.2.2.1
theorem dX12_limit_93 : decode cX12_limit 93 = .ok (.invokevirtual 147, 3) := dX12_limit_88_k.2.2.2.1
theorem dX12_limit_96 : decode cX12_limit 96 = .ok (.ireturn, 1) := dX12_limit_88_k.2.2.2.2.1
theorem dX12_limit_97 : decode cX12_limit 97 = .ok (.aload_n 0, 1) := dX12_limit_88_k.2.2.2.2.2.1
theorem dX12_limit_98 : decode cX12_limit 98 = .ok (.iload_n 1, 1) := dX12_limit_88_k.2.2.2.2.2.2.1
theorem dX12_limit_99 : decode cX12_limit 99 = .ok (.bipush 10, 2) := dX12_limit_88_k.2.2.2.2.2.2.2.1
theorem dX12_limit_101 : decode cX12_limit 101 = .ok (.isub, 1) := dX12_limit_88_k.2.2.2.2.2.2.2.2.1
theorem dX12_limit_102 : decode cX12_limit 102 = .ok (.invokevirtual 166, 3) := dX12_limit_88_k.2.2.2.2.2.2.2.2.2.1
theorem dX12_limit_105 : decode cX12_limit 105 = .ok (.ireturn, 1) := dX12_limit_88_k.2.2.2.2.2.2.2.2.2.2
theorem dX12_odds_0_k : decode cX12_odds 0 = .ok (.aload_n 0, 1) ∧ decode cX12_odds 1 = .ok (.iconst 0, 1) ∧ decode cX12_odds 2 = .ok (.putfield 33, 3) ∧ decode cX12_odds 5 = .ok (.iload_n 1, 1) ∧ decode cX12_odds 6 = .ok (.iconst 0, 1) ∧ decode cX12_odds 7 = .ok (.iconst 1, 1) ∧ decode cX12_odds 8 = .ok (.invokestatic 59, 3) ∧ decode cX12_odds 11 = .ok (.ifCond .ne 7, 3) ∧ decode cX12_odds 14 = .ok (.ldc2_w 169, 3) ∧ decode cX12_odds 17 = .ok (.lreturn, 1) ∧ decode cX12_odds 18 = .ok (.aload_n 0, 1) ∧ decode cX12_odds 19 = .ok (.getfield 7, 3) ∧ decode cX12_odds 22 = .ok (.iconst 2, 1) ∧ decode cX12_odds 23 = .ok (.iaload, 1) ∧ decode cX12_odds 24 = .ok (.iconst 1, 1) ∧ decode cX12_odds 25 = .ok (.isub, 1) := by decide +kernel
theorem dX12_odds_0 : decode cX12_odds 0 = .ok (.aload_n 0, 1) := dX12_odds_0_k.1
theorem dX12_odds_1 : decode cX12_odds 1 = .ok (.iconst 0, 1) := dX12_odds_0_k.2.1
theorem dX12_odds_2 : decode cX12_odds 2 = .ok (.putfield 33, 3) := dX12_odds_0_k.2.2.1
theorem dX12_odds_5 : decode cX12_odds 5 = .ok (.iload_n 1, 1) := dX12_odds_0_k.2.2.2.1
theorem dX12_odds_6 : decode cX12_odds 6 = .ok (.iconst 0, 1) := dX12_odds_0_k.2.2.2.2.1
theorem dX12_odds_7 : decode cX12_odds 7 = .ok (.iconst 1, 1) := dX12_odds_0_k.2.2.2.2.2.1
theorem dX12_odds_8 : decode cX12_odds 8 = .ok (.invokestatic 59, 3) := dX12_odds_0_k.2.2.2.2.2.2.1
theorem dX12_odds_11 : decode cX12_odds 11 = .ok (.ifCond .ne 7, 3) := dX12_odds_0_k.2.2.2.2.2.2.2.1
theorem dX12_odds_14 : decode cX12_odds 14 = .ok (.ldc2_w 169, 3) := dX12_odds_0_k.2.2.2.2.2.2.2.2.1
theorem dX12_odds_17 : decode cX12_odds 17 = .ok (.lreturn, 1) := dX12_odds_0_k.2.2.2.2.2.2.2.2.2.1
theorem dX12_odds_18 : decode cX12_odds 18 = .ok (.aload_n 0, 1) := dX12_odds_0_k.2.2.2.2.2.2.2.2.2.2.1
theorem dX12_odds_19 : decode cX12_odds 19 = .ok (.getfield 7, 3) := dX12_odds_0_k.2.2.2.2.2.2.2.2.2.2.2.1
theorem dX12_odds_22 : decode cX12_odds 22 = .ok (.iconst 2, 1) := dX12_odds_0_k.2.2.2.2.2.2.2.2.2.2.2.2.1
theorem dX12_odds_23 : decode cX12_odds 23 = .ok (.iaload, 1) := dX12_odds_0_k.2.2.2.2.2.2.2.2.2.2.2.2.2.1
theorem dX12_odds_24 : decode cX12_odds 24 = .ok (.iconst 1, 1) := dX12_odds_0_k.2.2.2.2.2.2.2.2.2.2.2.2.2.2.1
theorem dX12_odds_25 : decode cX12_odds 25 = .ok (.isub, 1) := dX12_odds_0_k.2.2.2.2.2.2.2.2.2.2.2.2.2.2.2
theorem dX12_odds_26_k : decode cX12_odds 26 = .ok (.istore_n 3, 1) ∧ decode cX12_odds 27 = .ok (.iload_n 1, 1) ∧ decode cX12_odds 28 = .ok (.ifCond .ne 17, 3) ∧ decode cX12_odds 31 = .ok (.aload_n 0, 1) ∧ decode cX12_odds 32 = .ok (.iload_n 3, 1) ∧ decode cX12_odds 33 = .ok (.aload_n 0, 1) ∧ decode cX12_odds 34 = .ok (.invokevirtual 157, 3) ∧ decode cX12_odds 37 = .ok (.iconst 1, 1) ∧ decode cX12_odds 38 = .ok (.isub, 1) ∧ decode cX12_odds 39 = .ok (.invokevirtual 141, 3) ∧ decode cX12_odds 42 = .ok (.goto 11, 3) ∧ decode cX12_odds 45 = .ok (.iload_n 3, 1) ∧ decode cX12_odds 46 = .ok (.aload_n 0, 1) ∧ decode cX12_odds 47 = .ok (.invokevirtual 160, 3) ∧ decode cX12_odds 50 = .ok (.invokestatic 144, 3) ∧ decode cX12_odds 53 = .ok (.lstore 4, 2) := by decide +kernel
theorem dX12_odds_26 : decode cX12_odds 26 = .ok (.istore_n 3, 1) := dX12_odds_26_k.1
theorem dX12_odds_27 : decode cX12_odds 27 = .ok (.iload_n 1, 1) := dX12_odds_26_k.2.1
theorem dX12_odds_28 : decode cX12_odds 28 = .ok (.ifCond .ne 17, 3) := dX12_odds_26_k.2.2.1
theorem dX12_odds_31 : decode cX12_odds 31 = .ok (.aload_n 0, 1) := dX12_odds_26_k.2.2.2.1
theorem dX12_odds_32 : decode cX12_odds 32 = .ok (.iload_n 3, 1) := dX12_odds_26_k.2.2.2.2.1
theorem dX12_odds_33 : decode cX12_odds 33 = .ok (.aload_n 0, 1) := dX12_odds_26_k.2.2.2.2.2.1
theorem dX12_odds_34 : decode cX12_odds 34 = .ok (.invokevirtual 157, 3) := dX12_odds_26_k.2.2.2.2.2.2.1
theorem dX12_odds_37 : decode cX12_odds 37 = .ok (.iconst 1, 1) := dX12_odds_26_k.2.2.2.2.2.2.2.1
theorem dX12_odds_38 : decode cX12_odds 38 = .ok (.isub, 1) := dX12_odds_26_k.2.2.2.2.2.2.2.2.1
theorem dX12_odds_39 : decode cX12_odds 39 = .ok (.invokevirtual 141, 3) := dX12_odds_26_k.2.2.2.2.2.2.2.2.2.1
theorem dX12_odds_42 : decode cX12_odds 42 = .ok (.goto 11, 3) := dX12_odds_26_k.2.2.2.2.2.2.2.2.2.2.1
theorem dX12_odds_45 : decode cX12_odds 45 = .ok (.iload_n 3, 1) := dX12_odds_26_k.2.2.2.2.2.2.2.2.2.2.2.1
theorem dX12_odds_46 : decode cX12_odds 46 = .ok (.aload_n 0, 1) := dX12_odds_26_k.2.2.2.2.2.2.2.2.2.2.2.2.1
theorem dX12_odds_47 : decode cX12_odds 47 = .ok (.invokevirtual 160, 3) := dX12_odds_26_k.2.2.2.2.2.2.2.2.2.2.2.2.2.1
theorem dX12_odds_50 : decode cX12_odds 50 = .ok (.invokestatic 144, 3) := dX12_odds_26_k.2.2.2.2.2.2.2.2.2.2.2.2.2.2.1
theorem dX12_odds_53 : decode cX12_odds 53 = .ok (.lstore 4, 2) := dX12_odds_26_k.2.2.2.2.2.2.2.2.2.2.2.2.2.2.2
theorem dX12_odds_55_k : decode cX12_odds 55 = .ok (.lconst 1, 1) ∧ decode cX12_odds 56 = .ok (.iload_n 1, 1) ∧ decode cX12_odds 57 = .ok (.ifCond .ne 9, 3) ∧ decode cX12_odds 60 = .ok (.iconst 4, 1) ∧ decode cX12_odds 61 = .ok (.iload_n 3, 1) ∧ decode cX12_odds 62 = .ok (.imul, 1) ∧ decode cX12_odds 63 = .ok (.goto 4, 3) ∧ decode cX12_odds 66 = .ok (.iload_n 3, 1) ∧ decode cX12_odds 67 = .ok (.lshl, 1) ∧ decode cX12_odds 68 = .ok (.lstore 6, 2) ∧ decode cX12_odds 70 = .ok (.lload 4, 2) ∧ decode cX12_odds 72 = .ok (.lload 6, 2) ∧ decode cX12_odds 74 = .ok (.invokestatic 171, 3) ∧ decode cX12_odds 77 = .ok (.lstore 8, 2) ∧ decode cX12_odds 79 = .ok (.iload_n 2, 1) ∧ decode cX12_odds 80 = .ok (.ifCond .eq 11, 3) := by decide +kernel
theorem dX12_odds_55 : decode cX12_odds 55 = .ok (.lconst 1, 1) := dX12_odds_55_k.1
theorem dX12_odds_56 : decode cX12_odds 56 = .ok (.iload_n 1, 1) := dX12_odds_55_k.2.1
theorem dX12_odds_57 : decode cX12_odds 57 = .ok (.ifCond .ne 9, 3) := dX12_odds_55_k.2.2.1
theorem dX12_odds_60 : decode cX12_odds 60 = .ok (.iconst 4, 1) := dX12_odds_55_k.2.2.2.1
theorem dX12_odds_61 : decode cX12_odds 61 = .ok (.iload_n 3, 1) := dX12_odds_55_k.2.2.2.2.1
theorem dX12_odds_62 : decode cX12_odds 62 = .ok (.imul, 1) := dX12_odds_55_k.2.2.2.2.2.1
theorem dX12_odds_63 : decode cX12_odds 63 = .ok (.goto 4, 3) := dX12_odds_55_k.2.2.2.2.2.2.1
theorem dX12_odds_66 : decode cX12_odds 66 = .ok (.iload_n 3, 1) := dX12_odds_55_k.2.2.2.2.2.2.2.1
theorem dX12_odds_67 : decode cX12_odds 67 = .ok (.lshl, 1) := dX12_odds_55_k.2.2.2.2.2.2.2.2.1
theorem dX12_odds_68 : decode cX12_odds 68 = .ok (.lstore 6, 2) := dX12_odds_55_k.2.2.2.2.2.2.2.2.2.1
theorem dX12_odds_70 : decode cX12_odds 70 = .ok (.lload 4, 2) := dX12_odds_55_k.2.2.2.2.2.2.2.2.2.2.1
theorem dX12_odds_72 : decode cX12_odds 72 = .ok (.lload 6, 2) := dX12_odds_55_k.2.2.2.2.2.2.2.2.2.2.2.1
theorem dX12_odds_74 : decode cX12_odds 74 = .ok (.invokestatic 171, 3) := dX12_odds_55_k.2.2.2.2.2.2.2.2.2.2.2.2.1
theorem dX12_odds_77 : decode cX12_odds 77 = .ok (.lstore 8, 2) := dX12_odds_55_k.2.2.2.2.2.2.2.2.2.2.2.2.2.1
theorem dX12_odds_79 : decode cX12_odds 79 = .ok (.iload_n 2, 1) := dX12_odds_55_k.2.2.2.2.2.2.2.2.2.2.2.2.2.2.1
theorem dX12_odds_80 : decode cX12_odds 80 = .ok (.ifCond .eq 11, 3) := dX12_odds_55_k.2.2.2.2.2.2.2.2.2.2.2.2.2.2.2
theorem dX12_odds_83_k : decode cX12_odds 83 = .ok (.lload 6, 2) ∧ decode cX12_odds 85 = .ok (.lload 8, 2) ∧ decode cX12_odds 87 = .ok (.ldiv, 1) ∧ decode cX12_odds 88 = .ok (.goto 8, 3) ∧ decode cX12_odds 91 = .ok (.lload 4, 2) ∧ decode cX12_odds 93 = .ok (.lload 8, 2) ∧ decode cX12_odds 95 = .ok (.ldiv, 1) ∧ decode cX12_odds 96 = .ok (.lreturn, 1) := by decide +kernel
theorem dX12_odds_83 : decode cX12_odds 83 = .ok (.lload 6, 2) := dX12_odds_83_k.1
theorem dX12_odds_85 : decode cX12_odds 85 = .ok (.lload 8, 2) := dX12_odds_83_k.2.1
theorem dX12_odds_87 : decode cX12_odds 87 = .ok (.ldiv, 1) := dX12_odds_83_k.2.2.1
theorem dX12_odds_88 : decode cX12_odds 88 = .ok (.goto 8, 3) := dX12_odds_83_k.2.2.2.1
theorem dX12_odds_91 : decode cX12_odds 91 = .ok (.lload 4, 2) := dX12_odds_83_k.2.2.2.2.1
theorem dX12_odds_93 : decode cX12_odds 93 = .ok (.lload 8, 2) := dX12_odds_83_k.2.2.2.2.2.1
theorem dX12_odds_95 : decode cX12_odds 95 = .ok (.ldiv, 1) := dX12_odds_83_k.2.2.2.2.2.2.1
theorem dX12_odds_96 : decode cX12_odds 96 = .ok (.lreturn, 1) := dX12_odds_83_k.2.2.2.2.2.2.2
theorem dX12_drawn_0_k : decode cX12_drawn 0 = .ok (.aload_n 0, 1) ∧ decode cX12_drawn 1 = .ok (.getfield 7, 3) ∧ decode cX12_drawn 4 = .ok (.bipush 22, 2) ∧ decode cX12_drawn 6 = .ok (.aload_n 0, 1) ∧ decode cX12_drawn 7 = .ok (.getfield 7, 3) ∧ decode cX12_drawn 10 = .ok (.bipush 22, 2) ∧ decode cX12_drawn 12 = .ok (.iaload, 1) ∧ decode cX12_drawn 13 = .ok (.ldc 175, 2) ∧ decode cX12_drawn 15 = .ok (.imul, 1) ∧ decode cX12_drawn 16 = .ok (.sipush 12345, 3) ∧ decode cX12_drawn 19 = .ok (.iadd, 1) ∧ decode cX12_drawn 20 = .ok (.iastore, 1) ∧ decode cX12_drawn 21 = .ok (.aload_n 0, 1) ∧ decode cX12_drawn 22 = .ok (.getfield 7, 3) ∧ decode cX12_drawn 25 = .ok (.bipush 22, 2) ∧ decode cX12_drawn 27 = .ok (.iaload, 1) := by decide +kernel
theorem dX12_drawn_0 : decode cX12_drawn 0 = .ok (.aload_n 0, 1) := dX12_drawn_0_k.1
theorem dX12_drawn_1 : decode cX12_drawn 1 = .ok (.getfield 7, 3) := dX12_drawn_0_k.2.1
theorem dX12_drawn_4 : decode cX12_drawn 4 = .ok (.bipush 22, 2) := dX12_drawn_0_k.2.2.1
theorem dX12_drawn_6 : decode cX12_drawn 6 = .ok (.aload_n 0, 1) := dX12_drawn_0_k.2.2.2.1
theorem dX12_drawn_7 : decode cX12_drawn 7 = .ok (.getfield 7, 3) := dX12_drawn_0_k.2.2.2.2.1
theorem dX12_drawn_10 : decode cX12_drawn 10 = .ok (.bipush 22, 2) := dX12_drawn_0_k.2.2.2.2.2.1
theorem dX12_drawn_12 : decode cX12_drawn 12 = .ok (.iaload, 1) := dX12_drawn_0_k.2.2.2.2.2.2.1
theorem dX12_drawn_13 : decode cX12_drawn 13 = .ok (.ldc 175, 2) := dX12_drawn_0_k.2.2.2.2.2.2.2.1
theorem dX12_drawn_15 : decode cX12_drawn 15 = .ok (.imul, 1) := dX12_drawn_0_k.2.2.2.2.2.2.2.2.1
theorem dX12_drawn_16 : decode cX12_drawn 16 = .ok (.sipush 12345, 3) := dX12_drawn_0_k.2.2.2.2.2.2.2.2.2.1
theorem dX12_drawn_19 : decode cX12_drawn 19 = .ok (.iadd, 1) := dX12_drawn_0_k.2.2.2.2.2.2.2.2.2.2.1
theorem dX12_drawn_20 : decode cX12_drawn 20 = .ok (.iastore, 1) := dX12_drawn_0_k.2.2.2.2.2.2.2.2.2.2.2.1
theorem dX12_drawn_21 : decode cX12_drawn 21 = .ok (.aload_n 0, 1) := dX12_drawn_0_k.2.2.2.2.2.2.2.2.2.2.2.2.1
theorem dX12_drawn_22 : decode cX12_drawn 22 = .ok (.getfield 7, 3) := dX12_drawn_0_k.2.2.2.2.2.2.2.2.2.2.2.2.2.1
theorem dX12_drawn_25 : decode cX12_drawn 25 = .ok (.bipush 22, 2) := dX12_drawn_0_k.2.2.2.2.2.2.2.2.2.2.2.2.2.2.1
theorem dX12_drawn_27 : decode cX12_drawn 27 = .ok (.iaload, 1) := dX12_drawn_0_k.2.2.2.2.2.2.2.2.2.2.2.2.2.2.2
theorem dX12_drawn_28_k : decode cX12_drawn 28 = .ok (.bipush 16, 2) ∧ decode cX12_drawn 30 = .ok (.iushr, 1) ∧ decode cX12_drawn 31 = .ok (.iload_n 1, 1) ∧ decode cX12_drawn 32 = .ok (.irem, 1) ∧ decode cX12_drawn 33 = .ok (.ireturn, 1) := by decide +kernel
theorem dX12_drawn_28 : decode cX12_drawn 28 = .ok (.bipush 16, 2) := dX12_drawn_28_k.1
theorem dX12_drawn_30 : decode cX12_drawn 30 = .ok (.iushr, 1) := dX12_drawn_28_k.2.1
theorem dX12_drawn_31 : decode cX12_drawn 31 = .ok (.iload_n 1, 1) := dX12_drawn_28_k.2.2.1
theorem dX12_drawn_32 : decode cX12_drawn 32 = .ok (.irem, 1) := dX12_drawn_28_k.2.2.2.1
theorem dX12_drawn_33 : decode cX12_drawn 33 = .ok (.ireturn, 1) := dX12_drawn_28_k.2.2.2.2
theorem dX12_sample_0_k : decode cX12_sample 0 = .ok (.aload_n 0, 1) ∧ decode cX12_sample 1 = .ok (.getfield 7, 3) ∧ decode cX12_sample 4 = .ok (.bipush 24, 2) ∧ decode cX12_sample 6 = .ok (.iaload, 1) ∧ decode cX12_sample 7 = .ok (.istore_n 1, 1) ∧ decode cX12_sample 8 = .ok (.aload_n 0, 1) ∧ decode cX12_sample 9 = .ok (.bipush 16, 2) ∧ decode cX12_sample 11 = .ok (.invokevirtual 176, 3) ∧ decode cX12_sample 14 = .ok (.aload_n 0, 1) ∧ decode cX12_sample 15 = .ok (.getfield 7, 3) ∧ decode cX12_sample 18 = .ok (.bipush 7, 2) ∧ decode cX12_sample 20 = .ok (.iaload, 1) ∧ decode cX12_sample 21 = .ok (.if_icmp .lt 25, 3) ∧ decode cX12_sample 24 = .ok (.aload_n 0, 1) ∧ decode cX12_sample 25 = .ok (.bipush 16, 2) ∧ decode cX12_sample 27 = .ok (.invokevirtual 176, 3) := by decide +kernel
theorem dX12_sample_0 : decode cX12_sample 0 = .ok (.aload_n 0, 1) := dX12_sample_0_k.1
theorem dX12_sample_1 : decode cX12_sample 1 = .ok (.getfield 7, 3) := dX12_sample_0_k.2.1
theorem dX12_sample_4 : decode cX12_sample 4 = .ok (.bipush 24, 2) := dX12_sample_0_k.2.2.1
theorem dX12_sample_6 : decode cX12_sample 6 = .ok (.iaload, 1) := dX12_sample_0_k.2.2.2.1
theorem dX12_sample_7 : decode cX12_sample 7 = .ok (.istore_n 1, 1) := dX12_sample_0_k.2.2.2.2.1
theorem dX12_sample_8 : decode cX12_sample 8 = .ok (.aload_n 0, 1) := dX12_sample_0_k.2.2.2.2.2.1
theorem dX12_sample_9 : decode cX12_sample 9 = .ok (.bipush 16, 2) := dX12_sample_0_k.2.2.2.2.2.2.1
theorem dX12_sample_11 : decode cX12_sample 11 = .ok (.invokevirtual 176, 3) := dX12_sample_0_k.2.2.2.2.2.2.2.1
theorem dX12_sample_14 : decode cX12_sample 14 = .ok (.aload_n 0, 1) := dX12_sample_0_k.2.2.2.2.2.2.2.2.1
theorem dX12_sample_15 : decode cX12_sample 15 = .ok (.getfield 7, 3) := dX12_sample_0_k.2.2.2.2.2.2.2.2.2.1
theorem dX12_sample_18 : decode cX12_sample 18 = .ok (.bipush 7, 2) := dX12_sample_0_k.2.2.2.2.2.2.2.2.2.2.1
theorem dX12_sample_20 : decode cX12_sample 20 = .ok (.iaload, 1) := dX12_sample_0_k.2.2.2.2.2.2.2.2.2.2.2.1
theorem dX12_sample_21 : decode cX12_sample 21 = .ok (.if_icmp .lt 25, 3) := dX12_sample_0_k.2.2.2.2.2.2.2.2.2.2.2.2.1
theorem dX12_sample_24 : decode cX12_sample 24 = .ok (.aload_n 0, 1) := dX12_sample_0_k.2.2.2.2.2.2.2.2.2.2.2.2.2.1
theorem dX12_sample_25 : decode cX12_sample 25 = .ok (.bipush 16, 2) := dX12_sample_0_k.2.2.2.2.2.2.2.2.2.2.2.2.2.2.1
theorem dX12_sample_27 : decode cX12_sample 27 = .ok (.invokevirtual 176, 3) := dX12_sample_0_k.2.2.2.2.2.2.2.2.2.2.2.2.2.2.2
theorem dX12_sample_30_k : decode cX12_sample 30 = .ok (.aload_n 0, 1) ∧ decode cX12_sample 31 = .ok (.getfield 7, 3) ∧ decode cX12_sample 34 = .ok (.bipush 6, 2) ∧ decode cX12_sample 36 = .ok (.iaload, 1) ∧ decode cX12_sample 37 = .ok (.if_icmp .ge 7, 3) ∧ decode cX12_sample 40 = .ok (.iconst 1, 1) ∧ decode cX12_sample 41 = .ok (.goto 4, 3) ∧ decode cX12_sample 44 = .ok (.iconst 0, 1) ∧ decode cX12_sample 45 = .ok (.istore_n 1, 1) ∧ decode cX12_sample 46 = .ok (.iconst 0, 1) ∧ decode cX12_sample 47 = .ok (.istore_n 2, 1) ∧ decode cX12_sample 48 = .ok (.iload_n 2, 1) ∧ decode cX12_sample 49 = .ok (.aload_n 0, 1) ∧ decode cX12_sample 50 = .ok (.getfield 7, 3) ∧ decode cX12_sample 53 = .ok (.bipush 9, 2) ∧ decode cX12_sample 55 = .ok (.iaload, 1) := by decide +kernel
theorem dX12_sample_30 : decode cX12_sample 30 = .ok (.aload_n 0, 1) := dX12_sample_30_k.1
theorem dX12_sample_31 : decode cX12_sample 31 = .ok (.getfield 7, 3) := dX12_sample_30_k.2.1
theorem dX12_sample_34 : decode cX12_sample 34 = .ok (.bipush 6, 2) := dX12_sample_30_k.2.2.1
theorem dX12_sample_36 : decode cX12_sample 36 = .ok (.iaload, 1) := dX12_sample_30_k.2.2.2.1
theorem dX12_sample_37 : decode cX12_sample 37 = .ok (.if_icmp .ge 7, 3) := dX12_sample_30_k.2.2.2.2.1
theorem dX12_sample_40 : decode cX12_sample 40 = .ok (.iconst 1, 1) := dX12_sample_30_k.2.2.2.2.2.1
theorem dX12_sample_41 : decode cX12_sample 41 = .ok (.goto 4, 3) := dX12_sample_30_k.2.2.2.2.2.2.1
theorem dX12_sample_44 : decode cX12_sample 44 = .ok (.iconst 0, 1) := dX12_sample_30_k.2.2.2.2.2.2.2.1
theorem dX12_sample_45 : decode cX12_sample 45 = .ok (.istore_n 1, 1) := dX12_sample_30_k.2.2.2.2.2.2.2.2.1
theorem dX12_sample_46 : decode cX12_sample 46 = .ok (.iconst 0, 1) := dX12_sample_30_k.2.2.2.2.2.2.2.2.2.1
theorem dX12_sample_47 : decode cX12_sample 47 = .ok (.istore_n 2, 1) := dX12_sample_30_k.2.2.2.2.2.2.2.2.2.2.1
theorem dX12_sample_48 : decode cX12_sample 48 = .ok (.iload_n 2, 1) := dX12_sample_30_k.2.2.2.2.2.2.2.2.2.2.2.1
theorem dX12_sample_49 : decode cX12_sample 49 = .ok (.aload_n 0, 1) := dX12_sample_30_k.2.2.2.2.2.2.2.2.2.2.2.2.1
theorem dX12_sample_50 : decode cX12_sample 50 = .ok (.getfield 7, 3) := dX12_sample_30_k.2.2.2.2.2.2.2.2.2.2.2.2.2.1
theorem dX12_sample_53 : decode cX12_sample 53 = .ok (.bipush 9, 2) := dX12_sample_30_k.2.2.2.2.2.2.2.2.2.2.2.2.2.2.1
theorem dX12_sample_55 : decode cX12_sample 55 = .ok (.iaload, 1) := dX12_sample_30_k.2.2.2.2.2.2.2.2.2.2.2.2.2.2.2
theorem dX12_sample_56_k : decode cX12_sample 56 = .ok (.if_icmp .ge 56, 3) ∧ decode cX12_sample 59 = .ok (.bipush 10, 2) ∧ decode cX12_sample 61 = .ok (.iconst 3, 1) ∧ decode cX12_sample 62 = .ok (.iload_n 2, 1) ∧ decode cX12_sample 63 = .ok (.imul, 1) ∧ decode cX12_sample 64 = .ok (.iadd, 1) ∧ decode cX12_sample 65 = .ok (.istore_n 3, 1) ∧ decode cX12_sample 66 = .ok (.aload_n 0, 1) ∧ decode cX12_sample 67 = .ok (.getfield 7, 3) ∧ decode cX12_sample 70 = .ok (.bipush 23, 2) ∧ decode cX12_sample 72 = .ok (.iaload, 1) ∧ decode cX12_sample 73 = .ok (.aload_n 0, 1) ∧ decode cX12_sample 74 = .ok (.getfield 7, 3) ∧ decode cX12_sample 77 = .ok (.iload_n 3, 1) ∧ decode cX12_sample 78 = .ok (.iaload, 1) ∧ decode cX12_sample 79 = .ok (.aload_n 0, 1) := by decide +kernel
theorem dX12_sample_56 : decode cX12_sample 56 = .ok (.if_icmp .ge 56, 3) := dX12_sample_56_k.1
theorem dX12_sample_59 : decode cX12_sample 59 = .ok (.bipush 10, 2) := dX12_sample_56_k.2.1
theorem dX12_sample_61 : decode cX12_sample 61 = .ok (.iconst 3, 1) := dX12_sample_56_k.2.2.1
theorem dX12_sample_62 : decode cX12_sample 62 = .ok (.iload_n 2, 1) := dX12_sample_56_k.2.2.2.1
theorem dX12_sample_63 : decode cX12_sample 63 = .ok (.imul, 1) := dX12_sample_56_k.2.2.2.2.1
theorem dX12_sample_64 : decode cX12_sample 64 = .ok (.iadd, 1) := dX12_sample_56_k.2.2.2.2.2.1
theorem dX12_sample_65 : decode cX12_sample 65 = .ok (.istore_n 3, 1) := dX12_sample_56_k.2.2.2.2.2.2.1
theorem dX12_sample_66 : decode cX12_sample 66 = .ok (.aload_n 0, 1) := dX12_sample_56_k.2.2.2.2.2.2.2.1
theorem dX12_sample_67 : decode cX12_sample 67 = .ok (.getfield 7, 3) := dX12_sample_56_k.2.2.2.2.2.2.2.2.1
theorem dX12_sample_70 : decode cX12_sample 70 = .ok (.bipush 23, 2) := dX12_sample_56_k.2.2.2.2.2.2.2.2.2.1
theorem dX12_sample_72 : decode cX12_sample 72 = .ok (.iaload, 1) := dX12_sample_56_k.2.2.2.2.2.2.2.2.2.2.1
theorem dX12_sample_73 : decode cX12_sample 73 = .ok (.aload_n 0, 1) := dX12_sample_56_k.2.2.2.2.2.2.2.2.2.2.2.1
theorem dX12_sample_74 : decode cX12_sample 74 = .ok (.getfield 7, 3) := dX12_sample_56_k.2.2.2.2.2.2.2.2.2.2.2.2.1
theorem dX12_sample_77 : decode cX12_sample 77 = .ok (.iload_n 3, 1) := dX12_sample_56_k.2.2.2.2.2.2.2.2.2.2.2.2.2.1
theorem dX12_sample_78 : decode cX12_sample 78 = .ok (.iaload, 1) := dX12_sample_56_k.2.2.2.2.2.2.2.2.2.2.2.2.2.2.1
theorem dX12_sample_79 : decode cX12_sample 79 = .ok (.aload_n 0, 1) := dX12_sample_56_k.2.2.2.2.2.2.2.2.2.2.2.2.2.2.2
theorem dX12_sample_80_k : decode cX12_sample 80 = .ok (.getfield 7, 3) ∧ decode cX12_sample 83 = .ok (.iload_n 3, 1) ∧ decode cX12_sample 84 = .ok (.iconst 1, 1) ∧ decode cX12_sample 85 = .ok (.iadd, 1) ∧ decode cX12_sample 86 = .ok (.iaload, 1) ∧ decode cX12_sample 87 = .ok (.invokestatic 59, 3) ∧ decode cX12_sample 90 = .ok (.ifCond .eq 14, 3) ∧ decode cX12_sample 93 = .ok (.aload_n 0, 1) ∧ decode cX12_sample 94 = .ok (.getfield 7, 3) ∧ decode cX12_sample 97 = .ok (.iload_n 3, 1) ∧ decode cX12_sample 98 = .ok (.iconst 2, 1) ∧ decode cX12_sample 99 = .ok (.iadd, 1) ∧ decode cX12_sample 100 = .ok (.iaload, 1) ∧ decode cX12_sample 101 = .ok (.goto 4, 3) ∧ decode cX12_sample 104 = .ok (.iload_n 1, 1) ∧ decode cX12_sample 105 = .ok (.istore_n 1, 1) := by decide +kernel
theorem dX12_sample_80 : decode cX12_sample 80 = .ok (.getfield 7, 3) := dX12_sample_80_k.1
theorem dX12_sample_83 : decode cX12_sample 83 = .ok (.iload_n 3, 1) := dX12_sample_80_k.2.1
theorem dX12_sample_84 : decode cX12_sample 84 = .ok (.iconst 1, 1) := dX12_sample_80_k.2.2.1
theorem dX12_sample_85 : decode cX12_sample 85 = .ok (.iadd, 1) := dX12_sample_80_k.2.2.2.1
theorem dX12_sample_86 : decode cX12_sample 86 = .ok (.iaload, 1) := dX12_sample_80_k.2.2.2.2.1
theorem dX12_sample_87 : decode cX12_sample 87 = .ok (.invokestatic 59, 3) := dX12_sample_80_k.2.2.2.2.2.1
theorem dX12_sample_90 : decode cX12_sample 90 = .ok (.ifCond .eq 14, 3) := dX12_sample_80_k.2.2.2.2.2.2.1
theorem dX12_sample_93 : decode cX12_sample 93 = .ok (.aload_n 0, 1) := dX12_sample_80_k.2.2.2.2.2.2.2.1
theorem dX12_sample_94 : decode cX12_sample 94 = .ok (.getfield 7, 3) := dX12_sample_80_k.2.2.2.2.2.2.2.2.1
theorem dX12_sample_97 : decode cX12_sample 97 = .ok (.iload_n 3, 1) := dX12_sample_80_k.2.2.2.2.2.2.2.2.2.1
theorem dX12_sample_98 : decode cX12_sample 98 = .ok (.iconst 2, 1) := dX12_sample_80_k.2.2.2.2.2.2.2.2.2.2.1
theorem dX12_sample_99 : decode cX12_sample 99 = .ok (.iadd, 1) := dX12_sample_80_k.2.2.2.2.2.2.2.2.2.2.2.1
theorem dX12_sample_100 : decode cX12_sample 100 = .ok (.iaload, 1) := dX12_sample_80_k.2.2.2.2.2.2.2.2.2.2.2.2.1
theorem dX12_sample_101 : decode cX12_sample 101 = .ok (.goto 4, 3) := dX12_sample_80_k.2.2.2.2.2.2.2.2.2.2.2.2.2.1
theorem dX12_sample_104 : decode cX12_sample 104 = .ok (.iload_n 1, 1) := dX12_sample_80_k.2.2.2.2.2.2.2.2.2.2.2.2.2.2.1
theorem dX12_sample_105 : decode cX12_sample 105 = .ok (.istore_n 1, 1) := dX12_sample_80_k.2.2.2.2.2.2.2.2.2.2.2.2.2.2.2
theorem dX12_sample_106_k : decode cX12_sample 106 = .ok (.iinc 2 1, 3) ∧ decode cX12_sample 109 = .ok (.goto (-61), 3) ∧ decode cX12_sample 112 = .ok (.aload_n 0, 1) ∧ decode cX12_sample 113 = .ok (.getfield 7, 3) ∧ decode cX12_sample 116 = .ok (.bipush 23, 2) ∧ decode cX12_sample 118 = .ok (.dup2, 1) ∧ decode cX12_sample 119 = .ok (.iaload, 1) ∧ decode cX12_sample 120 = .ok (.iconst 1, 1) ∧ decode cX12_sample 121 = .ok (.iadd, 1) ∧ decode cX12_sample 122 = .ok (.iastore, 1) ∧ decode cX12_sample 123 = .ok (.aload_n 0, 1) ∧ decode cX12_sample 124 = .ok (.getfield 7, 3) ∧ decode cX12_sample 127 = .ok (.bipush 24, 2) ∧ decode cX12_sample 129 = .ok (.iload_n 1, 1) ∧ decode cX12_sample 130 = .ok (.iastore, 1) ∧ decode cX12_sample 131 = .ok (.iload_n 1, 1) := by decide +kernel
theorem dX12_sample_106 : decode cX12_sample 106 = .ok (.iinc 2 1, 3) := dX12_sample_106_k.1
theorem dX12_sample_109 : decode cX12_sample 109 = .ok (.goto (-61), 3) := dX12_sample_106_k.2.1
theorem dX12_sample_112 : decode cX12_sample 112 = .ok (.aload_n 0, 1) := dX12_sample_106_k.2.2.1
theorem dX12_sample_113 : decode cX12_sample 113 = .ok (.getfield 7, 3) := dX12_sample_106_k.2.2.2.1
theorem dX12_sample_116 : decode cX12_sample 116 = .ok (.bipush 23, 2) := dX12_sample_106_k.2.2.2.2.1
theorem dX12_sample_118 : decode cX12_sample 118 = .ok (.dup2, 1) := dX12_sample_106_k.2.2.2.2.2.1
theorem dX12_sample_119 : decode cX12_sample 119 = .ok (.iaload, 1) := dX12_sample_106_k.2.2.2.2.2.2.1
theorem dX12_sample_120 : decode cX12_sample 120 = .ok (.iconst 1, 1) := dX12_sample_106_k.2.2.2.2.2.2.2.1
theorem dX12_sample_121 : decode cX12_sample 121 = .ok (.iadd, 1) := dX12_sample_106_k.2.2.2.2.2.2.2.2.1
theorem dX12_sample_122 : decode cX12_sample 122 = .ok (.iastore, 1) := dX12_sample_106_k.2.2.2.2.2.2.2.2.2.1
theorem dX12_sample_123 : decode cX12_sample 123 = .ok (.aload_n 0, 1) := dX12_sample_106_k.2.2.2.2.2.2.2.2.2.2.1
theorem dX12_sample_124 : decode cX12_sample 124 = .ok (.getfield 7, 3) := dX12_sample_106_k.2.2.2.2.2.2.2.2.2.2.2.1
theorem dX12_sample_127 : decode cX12_sample 127 = .ok (.bipush 24, 2) := dX12_sample_106_k.2.2.2.2.2.2.2.2.2.2.2.2.1
theorem dX12_sample_129 : decode cX12_sample 129 = .ok (.iload_n 1, 1) := dX12_sample_106_k.2.2.2.2.2.2.2.2.2.2.2.2.2.1
theorem dX12_sample_130 : decode cX12_sample 130 = .ok (.iastore, 1) := dX12_sample_106_k.2.2.2.2.2.2.2.2.2.2.2.2.2.2.1
theorem dX12_sample_131 : decode cX12_sample 131 = .ok (.iload_n 1, 1) := dX12_sample_106_k.2.2.2.2.2.2.2.2.2.2.2.2.2.2.2
theorem dX12_sample_132 : decode cX12_sample 132 = .ok (.ireturn, 1) := by decide +kernel
theorem dX12_laysLimits_0_k : decode cX12_laysLimits 0 = .ok (.aload_n 0, 1) ∧ decode cX12_laysLimits 1 = .ok (.aload_n 0, 1) ∧ decode cX12_laysLimits 2 = .ok (.invokevirtual 154, 3) ∧ decode cX12_laysLimits 5 = .ok (.putfield 179, 3) ∧ decode cX12_laysLimits 8 = .ok (.aload_n 0, 1) ∧ decode cX12_laysLimits 9 = .ok (.aload_n 0, 1) ∧ decode cX12_laysLimits 10 = .ok (.invokevirtual 157, 3) ∧ decode cX12_laysLimits 13 = .ok (.putfield 182, 3) ∧ decode cX12_laysLimits 16 = .ok (.aload_n 0, 1) ∧ decode cX12_laysLimits 17 = .ok (.aload_n 0, 1) ∧ decode cX12_laysLimits 18 = .ok (.invokevirtual 160, 3) ∧ decode cX12_laysLimits 21 = .ok (.putfield 185, 3) ∧ decode cX12_laysLimits 24 = .ok (.aload_n 0, 1) ∧ decode cX12_laysLimits 25 = .ok (.aload_n 0, 1) ∧ decode cX12_laysLimits 26 = .ok (.invokevirtual 163, 3) ∧ decode cX12_laysLimits 29 = .ok (.putfield 188, 3) := by decide +kernel
theorem dX12_laysLimits_0 : decode cX12_laysLimits 0 = .ok (.aload_n 0, 1) := dX12_laysLimits_0_k.1
theorem dX12_laysLimits_1 : decode cX12_laysLimits 1 = .ok (.aload_n 0, 1) := dX12_laysLimits_0_k.2.1
theorem dX12_laysLimits_2 : decode cX12_laysLimits 2 = .ok (.invokevirtual 154, 3) := dX12_laysLimits_0_k.2.2.1
theorem dX12_laysLimits_5 : decode cX12_laysLimits 5 = .ok (.putfield 179, 3) := dX12_laysLimits_0_k.2.2.2.1
theorem dX12_laysLimits_8 : decode cX12_laysLimits 8 = .ok (.aload_n 0, 1) := dX12_laysLimits_0_k.2.2.2.2.1
theorem dX12_laysLimits_9 : decode cX12_laysLimits 9 = .ok (.aload_n 0, 1) := dX12_laysLimits_0_k.2.2.2.2.2.1
theorem dX12_laysLimits_10 : decode cX12_laysLimits 10 = .ok (.invokevirtual 157, 3) := dX12_laysLimits_0_k.2.2.2.2.2.2.1
theorem dX12_laysLimits_13 : decode cX12_laysLimits 13 = .ok (.putfield 182, 3) := dX12_laysLimits_0_k.2.2.2.2.2.2.2.1
theorem dX12_laysLimits_16 : decode cX12_laysLimits 16 = .ok (.aload_n 0, 1) := dX12_laysLimits_0_k.2.2.2.2.2.2.2.2.1
theorem dX12_laysLimits_17 : decode cX12_laysLimits 17 = .ok (.aload_n 0, 1) := dX12_laysLimits_0_k.2.2.2.2.2.2.2.2.2.1
theorem dX12_laysLimits_18 : decode cX12_laysLimits 18 = .ok (.invokevirtual 160, 3) := dX12_laysLimits_0_k.2.2.2.2.2.2.2.2.2.2.1
theorem dX12_laysLimits_21 : decode cX12_laysLimits 21 = .ok (.putfield 185, 3) := dX12_laysLimits_0_k.2.2.2.2.2.2.2.2.2.2.2.1
theorem dX12_laysLimits_24 : decode cX12_laysLimits 24 = .ok (.aload_n 0, 1) := dX12_laysLimits_0_k.2.2.2.2.2.2.2.2.2.2.2.2.1
theorem dX12_laysLimits_25 : decode cX12_laysLimits 25 = .ok (.aload_n 0, 1) := dX12_laysLimits_0_k.2.2.2.2.2.2.2.2.2.2.2.2.2.1
theorem dX12_laysLimits_26 : decode cX12_laysLimits 26 = .ok (.invokevirtual 163, 3) := dX12_laysLimits_0_k.2.2.2.2.2.2.2.2.2.2.2.2.2.2.1
theorem dX12_laysLimits_29 : decode cX12_laysLimits 29 = .ok (.putfield 188, 3) := dX12_laysLimits_0_k.2.2.2.2.2.2.2.2.2.2.2.2.2.2.2
theorem dX12_laysLimits_32 : decode cX12_laysLimits 32 = .ok (.return_, 1) := by decide +kernel
theorem dX12_empties_0_k : decode cX12_empties 0 = .ok (.aload_n 0, 1) ∧ decode cX12_empties 1 = .ok (.getfield 7, 3) ∧ decode cX12_empties 4 = .ok (.bipush 42, 2) ∧ decode cX12_empties 6 = .ok (.dup2, 1) ∧ decode cX12_empties 7 = .ok (.iaload, 1) ∧ decode cX12_empties 8 = .ok (.aload_n 0, 1) ∧ decode cX12_empties 9 = .ok (.getfield 7, 3) ∧ decode cX12_empties 12 = .ok (.bipush 43, 2) ∧ decode cX12_empties 14 = .ok (.iaload, 1) ∧ decode cX12_empties 15 = .ok (.iadd, 1) ∧ decode cX12_empties 16 = .ok (.iastore, 1) ∧ decode cX12_empties 17 = .ok (.aload_n 0, 1) ∧ decode cX12_empties 18 = .ok (.getfield 7, 3) ∧ decode cX12_empties 21 = .ok (.bipush 43, 2) ∧ decode cX12_empties 23 = .ok (.iconst 0, 1) ∧ decode cX12_empties 24 = .ok (.iastore, 1) := by decide +kernel
theorem dX12_empties_0 : decode cX12_empties 0 = .ok (.aload_n 0, 1) := dX12_empties_0_k.1
theorem dX12_empties_1 : decode cX12_empties 1 = .ok (.getfield 7, 3) := dX12_empties_0_k.2.1
theorem dX12_empties_4 : decode cX12_empties 4 = .ok (.bipush 42, 2) := dX12_empties_0_k.2.2.1
theorem dX12_empties_6 : decode cX12_empties 6 = .ok (.dup2, 1) := dX12_empties_0_k.2.2.2.1
theorem dX12_empties_7 : decode cX12_empties 7 = .ok (.iaload, 1) := dX12_empties_0_k.2.2.2.2.1
theorem dX12_empties_8 : decode cX12_empties 8 = .ok (.aload_n 0, 1) := dX12_empties_0_k.2.2.2.2.2.1
theorem dX12_empties_9 : decode cX12_empties 9 = .ok (.getfield 7, 3) := dX12_empties_0_k.2.2.2.2.2.2.1
theorem dX12_empties_12 : decode cX12_empties 12 = .ok (.bipush 43, 2) := dX12_empties_0_k.2.2.2.2.2.2.2.1
theorem dX12_empties_14 : decode cX12_empties 14 = .ok (.iaload, 1) := dX12_empties_0_k.2.2.2.2.2.2.2.2.1
theorem dX12_empties_15 : decode cX12_empties 15 = .ok (.iadd, 1) := dX12_empties_0_k.2.2.2.2.2.2.2.2.2.1
theorem dX12_empties_16 : decode cX12_empties 16 = .ok (.iastore, 1) := dX12_empties_0_k.2.2.2.2.2.2.2.2.2.2.1
theorem dX12_empties_17 : decode cX12_empties 17 = .ok (.aload_n 0, 1) := dX12_empties_0_k.2.2.2.2.2.2.2.2.2.2.2.1
theorem dX12_empties_18 : decode cX12_empties 18 = .ok (.getfield 7, 3) := dX12_empties_0_k.2.2.2.2.2.2.2.2.2.2.2.2.1
theorem dX12_empties_21 : decode cX12_empties 21 = .ok (.bipush 43, 2) := dX12_empties_0_k.2.2.2.2.2.2.2.2.2.2.2.2.2.1
theorem dX12_empties_23 : decode cX12_empties 23 = .ok (.iconst 0, 1) := dX12_empties_0_k.2.2.2.2.2.2.2.2.2.2.2.2.2.2.1
theorem dX12_empties_24 : decode cX12_empties 24 = .ok (.iastore, 1) := dX12_empties_0_k.2.2.2.2.2.2.2.2.2.2.2.2.2.2.2
theorem dX12_empties_25_k : decode cX12_empties 25 = .ok (.aload_n 0, 1) ∧ decode cX12_empties 26 = .ok (.getfield 7, 3) ∧ decode cX12_empties 29 = .ok (.bipush 37, 2) ∧ decode cX12_empties 31 = .ok (.iconst 0, 1) ∧ decode cX12_empties 32 = .ok (.iastore, 1) ∧ decode cX12_empties 33 = .ok (.aload_n 0, 1) ∧ decode cX12_empties 34 = .ok (.getfield 7, 3) ∧ decode cX12_empties 37 = .ok (.bipush 38, 2) ∧ decode cX12_empties 39 = .ok (.iconst 0, 1) ∧ decode cX12_empties 40 = .ok (.iastore, 1) ∧ decode cX12_empties 41 = .ok (.return_, 1) := by decide +kernel
theorem dX12_empties_25 : decode cX12_empties 25 = .ok (.aload_n 0, 1) := dX12_empties_25_k.1
theorem dX12_empties_26 : decode cX12_empties 26 = .ok (.getfield 7, 3) := dX12_empties_25_k.2.1
theorem dX12_empties_29 : decode cX12_empties 29 = .ok (.bipush 37, 2) := dX12_empties_25_k.2.2.1
theorem dX12_empties_31 : decode cX12_empties 31 = .ok (.iconst 0, 1) := dX12_empties_25_k.2.2.2.1
theorem dX12_empties_32 : decode cX12_empties 32 = .ok (.iastore, 1) := dX12_empties_25_k.2.2.2.2.1
theorem dX12_empties_33 : decode cX12_empties 33 = .ok (.aload_n 0, 1) := dX12_empties_25_k.2.2.2.2.2.1
theorem dX12_empties_34 : decode cX12_empties 34 = .ok (.getfield 7, 3) := dX12_empties_25_k.2.2.2.2.2.2.1
theorem dX12_empties_37 : decode cX12_empties 37 = .ok (.bipush 38, 2) := dX12_empties_25_k.2.2.2.2.2.2.2.1
theorem dX12_empties_39 : decode cX12_empties 39 = .ok (.iconst 0, 1) := dX12_empties_25_k.2.2.2.2.2.2.2.2.1
theorem dX12_empties_40 : decode cX12_empties 40 = .ok (.iastore, 1) := dX12_empties_25_k.2.2.2.2.2.2.2.2.2.1
theorem dX12_empties_41 : decode cX12_empties 41 = .ok (.return_, 1) := dX12_empties_25_k.2.2.2.2.2.2.2.2.2.2
theorem dX12_forgets_0_k : decode cX12_forgets 0 = .ok (.aload_n 0, 1) ∧ decode cX12_forgets 1 = .ok (.getfield 7, 3) ∧ decode cX12_forgets 4 = .ok (.bipush 30, 2) ∧ decode cX12_forgets 6 = .ok (.iconst 0, 1) ∧ decode cX12_forgets 7 = .ok (.iastore, 1) ∧ decode cX12_forgets 8 = .ok (.aload_n 0, 1) ∧ decode cX12_forgets 9 = .ok (.getfield 7, 3) ∧ decode cX12_forgets 12 = .ok (.bipush 31, 2) ∧ decode cX12_forgets 14 = .ok (.iconst 0, 1) ∧ decode cX12_forgets 15 = .ok (.iastore, 1) ∧ decode cX12_forgets 16 = .ok (.aload_n 0, 1) ∧ decode cX12_forgets 17 = .ok (.getfield 7, 3) ∧ decode cX12_forgets 20 = .ok (.bipush 33, 2) ∧ decode cX12_forgets 22 = .ok (.iconst 0, 1) ∧ decode cX12_forgets 23 = .ok (.iastore, 1) ∧ decode cX12_forgets 24 = .ok (.aload_n 0, 1) := by decide +kernel
theorem dX12_forgets_0 : decode cX12_forgets 0 = .ok (.aload_n 0, 1) := dX12_forgets_0_k.1
theorem dX12_forgets_1 : decode cX12_forgets 1 = .ok (.getfield 7, 3) := dX12_forgets_0_k.2.1
theorem dX12_forgets_4 : decode cX12_forgets 4 = .ok (.bipush 30, 2) := dX12_forgets_0_k.2.2.1
theorem dX12_forgets_6 : decode cX12_forgets 6 = .ok (.iconst 0, 1) := dX12_forgets_0_k.2.2.2.1
theorem dX12_forgets_7 : decode cX12_forgets 7 = .ok (.iastore, 1) := dX12_forgets_0_k.2.2.2.2.1
theorem dX12_forgets_8 : decode cX12_forgets 8 = .ok (.aload_n 0, 1) := dX12_forgets_0_k.2.2.2.2.2.1
theorem dX12_forgets_9 : decode cX12_forgets 9 = .ok (.getfield 7, 3) := dX12_forgets_0_k.2.2.2.2.2.2.1
theorem dX12_forgets_12 : decode cX12_forgets 12 = .ok (.bipush 31, 2) := dX12_forgets_0_k.2.2.2.2.2.2.2.1
theorem dX12_forgets_14 : decode cX12_forgets 14 = .ok (.iconst 0, 1) := dX12_forgets_0_k.2.2.2.2.2.2.2.2.1
theorem dX12_forgets_15 : decode cX12_forgets 15 = .ok (.iastore, 1) := dX12_forgets_0_k.2.2.2.2.2.2.2.2.2.1
theorem dX12_forgets_16 : decode cX12_forgets 16 = .ok (.aload_n 0, 1) := dX12_forgets_0_k.2.2.2.2.2.2.2.2.2.2.1
theorem dX12_forgets_17 : decode cX12_forgets 17 = .ok (.getfield 7, 3) := dX12_forgets_0_k.2.2.2.2.2.2.2.2.2.2.2.1
theorem dX12_forgets_20 : decode cX12_forgets 20 = .ok (.bipush 33, 2) := dX12_forgets_0_k.2.2.2.2.2.2.2.2.2.2.2.2.1
theorem dX12_forgets_22 : decode cX12_forgets 22 = .ok (.iconst 0, 1) := dX12_forgets_0_k.2.2.2.2.2.2.2.2.2.2.2.2.2.1
theorem dX12_forgets_23 : decode cX12_forgets 23 = .ok (.iastore, 1) := dX12_forgets_0_k.2.2.2.2.2.2.2.2.2.2.2.2.2.2.1
theorem dX12_forgets_24 : decode cX12_forgets 24 = .ok (.aload_n 0, 1) := dX12_forgets_0_k.2.2.2.2.2.2.2.2.2.2.2.2.2.2.2
theorem dX12_forgets_25_k : decode cX12_forgets 25 = .ok (.getfield 7, 3) ∧ decode cX12_forgets 28 = .ok (.bipush 34, 2) ∧ decode cX12_forgets 30 = .ok (.iconst 0, 1) ∧ decode cX12_forgets 31 = .ok (.iastore, 1) ∧ decode cX12_forgets 32 = .ok (.aload_n 0, 1) ∧ decode cX12_forgets 33 = .ok (.getfield 7, 3) ∧ decode cX12_forgets 36 = .ok (.bipush 35, 2) ∧ decode cX12_forgets 38 = .ok (.iconst 0, 1) ∧ decode cX12_forgets 39 = .ok (.iastore, 1) ∧ decode cX12_forgets 40 = .ok (.return_, 1) := by decide +kernel
theorem dX12_forgets_25 : decode cX12_forgets 25 = .ok (.getfield 7, 3) := dX12_forgets_25_k.1
theorem dX12_forgets_28 : decode cX12_forgets 28 = .ok (.bipush 34, 2) := dX12_forgets_25_k.2.1
theorem dX12_forgets_30 : decode cX12_forgets 30 = .ok (.iconst 0, 1) := dX12_forgets_25_k.2.2.1
theorem dX12_forgets_31 : decode cX12_forgets 31 = .ok (.iastore, 1) := dX12_forgets_25_k.2.2.2.1
theorem dX12_forgets_32 : decode cX12_forgets 32 = .ok (.aload_n 0, 1) := dX12_forgets_25_k.2.2.2.2.1
theorem dX12_forgets_33 : decode cX12_forgets 33 = .ok (.getfield 7, 3) := dX12_forgets_25_k.2.2.2.2.2.1
theorem dX12_forgets_36 : decode cX12_forgets 36 = .ok (.bipush 35, 2) := dX12_forgets_25_k.2.2.2.2.2.2.1
theorem dX12_forgets_38 : decode cX12_forgets 38 = .ok (.iconst 0, 1) := dX12_forgets_25_k.2.2.2.2.2.2.2.1
theorem dX12_forgets_39 : decode cX12_forgets 39 = .ok (.iastore, 1) := dX12_forgets_25_k.2.2.2.2.2.2.2.2.1
theorem dX12_forgets_40 : decode cX12_forgets 40 = .ok (.return_, 1) := dX12_forgets_25_k.2.2.2.2.2.2.2.2.2
theorem dX12_starts_0_k : decode cX12_starts 0 = .ok (.aload_n 0, 1) ∧ decode cX12_starts 1 = .ok (.invokevirtual 191, 3) ∧ decode cX12_starts 4 = .ok (.aload_n 0, 1) ∧ decode cX12_starts 5 = .ok (.invokevirtual 194, 3) ∧ decode cX12_starts 8 = .ok (.aload_n 0, 1) ∧ decode cX12_starts 9 = .ok (.getfield 7, 3) ∧ decode cX12_starts 12 = .ok (.bipush 25, 2) ∧ decode cX12_starts 14 = .ok (.aload_n 0, 1) ∧ decode cX12_starts 15 = .ok (.getfield 7, 3) ∧ decode cX12_starts 18 = .ok (.iconst 3, 1) ∧ decode cX12_starts 19 = .ok (.iaload, 1) ∧ decode cX12_starts 20 = .ok (.ifCond .ne 7, 3) ∧ decode cX12_starts 23 = .ok (.iconst 2, 1) ∧ decode cX12_starts 24 = .ok (.goto 4, 3) ∧ decode cX12_starts 27 = .ok (.iconst 1, 1) ∧ decode cX12_starts 28 = .ok (.iastore, 1) := by decide +kernel
theorem dX12_starts_0 : decode cX12_starts 0 = .ok (.aload_n 0, 1) := dX12_starts_0_k.1
theorem dX12_starts_1 : decode cX12_starts 1 = .ok (.invokevirtual 191, 3) := dX12_starts_0_k.2.1
theorem dX12_starts_4 : decode cX12_starts 4 = .ok (.aload_n 0, 1) := dX12_starts_0_k.2.2.1
theorem dX12_starts_5 : decode cX12_starts 5 = .ok (.invokevirtual 194, 3) := dX12_starts_0_k.2.2.2.1
theorem dX12_starts_8 : decode cX12_starts 8 = .ok (.aload_n 0, 1) := dX12_starts_0_k.2.2.2.2.1
theorem dX12_starts_9 : decode cX12_starts 9 = .ok (.getfield 7, 3) := dX12_starts_0_k.2.2.2.2.2.1
theorem dX12_starts_12 : decode cX12_starts 12 = .ok (.bipush 25, 2) := dX12_starts_0_k.2.2.2.2.2.2.1
theorem dX12_starts_14 : decode cX12_starts 14 = .ok (.aload_n 0, 1) := dX12_starts_0_k.2.2.2.2.2.2.2.1
theorem dX12_starts_15 : decode cX12_starts 15 = .ok (.getfield 7, 3) := dX12_starts_0_k.2.2.2.2.2.2.2.2.1
theorem dX12_starts_18 : decode cX12_starts 18 = .ok (.iconst 3, 1) := dX12_starts_0_k.2.2.2.2.2.2.2.2.2.1
theorem dX12_starts_19 : decode cX12_starts 19 = .ok (.iaload, 1) := dX12_starts_0_k.2.2.2.2.2.2.2.2.2.2.1
theorem dX12_starts_20 : decode cX12_starts 20 = .ok (.ifCond .ne 7, 3) := dX12_starts_0_k.2.2.2.2.2.2.2.2.2.2.2.1
theorem dX12_starts_23 : decode cX12_starts 23 = .ok (.iconst 2, 1) := dX12_starts_0_k.2.2.2.2.2.2.2.2.2.2.2.2.1
theorem dX12_starts_24 : decode cX12_starts 24 = .ok (.goto 4, 3) := dX12_starts_0_k.2.2.2.2.2.2.2.2.2.2.2.2.2.1
theorem dX12_starts_27 : decode cX12_starts 27 = .ok (.iconst 1, 1) := dX12_starts_0_k.2.2.2.2.2.2.2.2.2.2.2.2.2.2.1
theorem dX12_starts_28 : decode cX12_starts 28 = .ok (.iastore, 1) := dX12_starts_0_k.2.2.2.2.2.2.2.2.2.2.2.2.2.2.2
theorem dX12_starts_29_k : decode cX12_starts 29 = .ok (.aload_n 0, 1) ∧ decode cX12_starts 30 = .ok (.getfield 7, 3) ∧ decode cX12_starts 33 = .ok (.bipush 28, 2) ∧ decode cX12_starts 35 = .ok (.dup2, 1) ∧ decode cX12_starts 36 = .ok (.iaload, 1) ∧ decode cX12_starts 37 = .ok (.iconst 1, 1) ∧ decode cX12_starts 38 = .ok (.iadd, 1) ∧ decode cX12_starts 39 = .ok (.iastore, 1) ∧ decode cX12_starts 40 = .ok (.aload_n 0, 1) ∧ decode cX12_starts 41 = .ok (.getfield 7, 3) ∧ decode cX12_starts 44 = .ok (.sipush 701, 3) ∧ decode cX12_starts 47 = .ok (.iaload, 1) ∧ decode cX12_starts 48 = .ok (.bipush 15, 2) ∧ decode cX12_starts 50 = .ok (.if_icmp .ne 53, 3) ∧ decode cX12_starts 53 = .ok (.iconst 0, 1) ∧ decode cX12_starts 54 = .ok (.istore_n 1, 1) := by decide +kernel
theorem dX12_starts_29 : decode cX12_starts 29 = .ok (.aload_n 0, 1) := dX12_starts_29_k.1
theorem dX12_starts_30 : decode cX12_starts 30 = .ok (.getfield 7, 3) := dX12_starts_29_k.2.1
theorem dX12_starts_33 : decode cX12_starts 33 = .ok (.bipush 28, 2) := dX12_starts_29_k.2.2.1
theorem dX12_starts_35 : decode cX12_starts 35 = .ok (.dup2, 1) := dX12_starts_29_k.2.2.2.1
theorem dX12_starts_36 : decode cX12_starts 36 = .ok (.iaload, 1) := dX12_starts_29_k.2.2.2.2.1
theorem dX12_starts_37 : decode cX12_starts 37 = .ok (.iconst 1, 1) := dX12_starts_29_k.2.2.2.2.2.1
theorem dX12_starts_38 : decode cX12_starts 38 = .ok (.iadd, 1) := dX12_starts_29_k.2.2.2.2.2.2.1
theorem dX12_starts_39 : decode cX12_starts 39 = .ok (.iastore, 1) := dX12_starts_29_k.2.2.2.2.2.2.2.1
theorem dX12_starts_40 : decode cX12_starts 40 = .ok (.aload_n 0, 1) := dX12_starts_29_k.2.2.2.2.2.2.2.2.1
theorem dX12_starts_41 : decode cX12_starts 41 = .ok (.getfield 7, 3) := dX12_starts_29_k.2.2.2.2.2.2.2.2.2.1
theorem dX12_starts_44 : decode cX12_starts 44 = .ok (.sipush 701, 3) := dX12_starts_29_k.2.2.2.2.2.2.2.2.2.2.1
theorem dX12_starts_47 : decode cX12_starts 47 = .ok (.iaload, 1) := dX12_starts_29_k.2.2.2.2.2.2.2.2.2.2.2.1
theorem dX12_starts_48 : decode cX12_starts 48 = .ok (.bipush 15, 2) := dX12_starts_29_k.2.2.2.2.2.2.2.2.2.2.2.2.1
theorem dX12_starts_50 : decode cX12_starts 50 = .ok (.if_icmp .ne 53, 3) := dX12_starts_29_k.2.2.2.2.2.2.2.2.2.2.2.2.2.1
theorem dX12_starts_53 : decode cX12_starts 53 = .ok (.iconst 0, 1) := dX12_starts_29_k.2.2.2.2.2.2.2.2.2.2.2.2.2.2.1
theorem dX12_starts_54 : decode cX12_starts 54 = .ok (.istore_n 1, 1) := dX12_starts_29_k.2.2.2.2.2.2.2.2.2.2.2.2.2.2.2
theorem dX12_starts_55_k : decode cX12_starts 55 = .ok (.iload_n 1, 1) ∧ decode cX12_starts 56 = .ok (.sipush 224, 3) ∧ decode cX12_starts 59 = .ok (.if_icmp .ge 32, 3) ∧ decode cX12_starts 62 = .ok (.aload_n 0, 1) ∧ decode cX12_starts 63 = .ok (.getfield 7, 3) ∧ decode cX12_starts 66 = .ok (.sipush 702, 3) ∧ decode cX12_starts 69 = .ok (.iload_n 1, 1) ∧ decode cX12_starts 70 = .ok (.iadd, 1) ∧ decode cX12_starts 71 = .ok (.aload_n 0, 1) ∧ decode cX12_starts 72 = .ok (.getfield 7, 3) ∧ decode cX12_starts 75 = .ok (.sipush 702, 3) ∧ decode cX12_starts 78 = .ok (.iload_n 1, 1) ∧ decode cX12_starts 79 = .ok (.iadd, 1) ∧ decode cX12_starts 80 = .ok (.bipush 16, 2) ∧ decode cX12_starts 82 = .ok (.iadd, 1) ∧ decode cX12_starts 83 = .ok (.iaload, 1) := by decide +kernel
theorem dX12_starts_55 : decode cX12_starts 55 = .ok (.iload_n 1, 1) := dX12_starts_55_k.1
theorem dX12_starts_56 : decode cX12_starts 56 = .ok (.sipush 224, 3) := dX12_starts_55_k.2.1
theorem dX12_starts_59 : decode cX12_starts 59 = .ok (.if_icmp .ge 32, 3) := dX12_starts_55_k.2.2.1
theorem dX12_starts_62 : decode cX12_starts 62 = .ok (.aload_n 0, 1) := dX12_starts_55_k.2.2.2.1
theorem dX12_starts_63 : decode cX12_starts 63 = .ok (.getfield 7, 3) := dX12_starts_55_k.2.2.2.2.1
theorem dX12_starts_66 : decode cX12_starts 66 = .ok (.sipush 702, 3) := dX12_starts_55_k.2.2.2.2.2.1
theorem dX12_starts_69 : decode cX12_starts 69 = .ok (.iload_n 1, 1) := dX12_starts_55_k.2.2.2.2.2.2.1
theorem dX12_starts_70 : decode cX12_starts 70 = .ok (.iadd, 1) := dX12_starts_55_k.2.2.2.2.2.2.2.1
theorem dX12_starts_71 : decode cX12_starts 71 = .ok (.aload_n 0, 1) := dX12_starts_55_k.2.2.2.2.2.2.2.2.1
theorem dX12_starts_72 : decode cX12_starts 72 = .ok (.getfield 7, 3) := dX12_starts_55_k.2.2.2.2.2.2.2.2.2.1
theorem dX12_starts_75 : decode cX12_starts 75 = .ok (.sipush 702, 3) := dX12_starts_55_k.2.2.2.2.2.2.2.2.2.2.1
theorem dX12_starts_78 : decode cX12_starts 78 = .ok (.iload_n 1, 1) := dX12_starts_55_k.2.2.2.2.2.2.2.2.2.2.2.1
theorem dX12_starts_79 : decode cX12_starts 79 = .ok (.iadd, 1) := dX12_starts_55_k.2.2.2.2.2.2.2.2.2.2.2.2.1
theorem dX12_starts_80 : decode cX12_starts 80 = .ok (.bipush 16, 2) := dX12_starts_55_k.2.2.2.2.2.2.2.2.2.2.2.2.2.1
theorem dX12_starts_82 : decode cX12_starts 82 = .ok (.iadd, 1) := dX12_starts_55_k.2.2.2.2.2.2.2.2.2.2.2.2.2.2.1
theorem dX12_starts_83 : decode cX12_starts 83 = .ok (.iaload, 1) := dX12_starts_55_k.2.2.2.2.2.2.2.2.2.2.2.2.2.2.2
theorem dX12_starts_84_k : decode cX12_starts 84 = .ok (.iastore, 1) ∧ decode cX12_starts 85 = .ok (.iinc 1 1, 3) ∧ decode cX12_starts 88 = .ok (.goto (-33), 3) ∧ decode cX12_starts 91 = .ok (.aload_n 0, 1) ∧ decode cX12_starts 92 = .ok (.getfield 7, 3) ∧ decode cX12_starts 95 = .ok (.sipush 701, 3) ∧ decode cX12_starts 98 = .ok (.dup2, 1) ∧ decode cX12_starts 99 = .ok (.iaload, 1) ∧ decode cX12_starts 100 = .ok (.iconst 1, 1) ∧ decode cX12_starts 101 = .ok (.isub, 1) ∧ decode cX12_starts 102 = .ok (.iastore, 1) ∧ decode cX12_starts 103 = .ok (.aload_n 0, 1) ∧ decode cX12_starts 104 = .ok (.getfield 7, 3) ∧ decode cX12_starts 107 = .ok (.sipush 702, 3) ∧ decode cX12_starts 110 = .ok (.bipush 16, 2) ∧ decode cX12_starts 112 = .ok (.aload_n 0, 1) := by decide +kernel
theorem dX12_starts_84 : decode cX12_starts 84 = .ok (.iastore, 1) := dX12_starts_84_k.1
theorem dX12_starts_85 : decode cX12_starts 85 = .ok (.iinc 1 1, 3) := dX12_starts_84_k.2.1
theorem dX12_starts_88 : decode cX12_starts 88 = .ok (.goto (-33), 3) := dX12_starts_84_k.2.2.1
theorem dX12_starts_91 : decode cX12_starts 91 = .ok (.aload_n 0, 1) := dX12_starts_84_k.2.2.2.1
theorem dX12_starts_92 : decode cX12_starts 92 = .ok (.getfield 7, 3) := dX12_starts_84_k.2.2.2.2.1
theorem dX12_starts_95 : decode cX12_starts 95 = .ok (.sipush 701, 3) := dX12_starts_84_k.2.2.2.2.2.1
theorem dX12_starts_98 : decode cX12_starts 98 = .ok (.dup2, 1) := dX12_starts_84_k.2.2.2.2.2.2.1
theorem dX12_starts_99 : decode cX12_starts 99 = .ok (.iaload, 1) := dX12_starts_84_k.2.2.2.2.2.2.2.1
theorem dX12_starts_100 : decode cX12_starts 100 = .ok (.iconst 1, 1) := dX12_starts_84_k.2.2.2.2.2.2.2.2.1
theorem dX12_starts_101 : decode cX12_starts 101 = .ok (.isub, 1) := dX12_starts_84_k.2.2.2.2.2.2.2.2.2.1
theorem dX12_starts_102 : decode cX12_starts 102 = .ok (.iastore, 1) := dX12_starts_84_k.2.2.2.2.2.2.2.2.2.2.1
theorem dX12_starts_103 : decode cX12_starts 103 = .ok (.aload_n 0, 1) := dX12_starts_84_k.2.2.2.2.2.2.2.2.2.2.2.1
theorem dX12_starts_104 : decode cX12_starts 104 = .ok (.getfield 7, 3) := dX12_starts_84_k.2.2.2.2.2.2.2.2.2.2.2.2.1
theorem dX12_starts_107 : decode cX12_starts 107 = .ok (.sipush 702, 3) := dX12_starts_84_k.2.2.2.2.2.2.2.2.2.2.2.2.2.1
theorem dX12_starts_110 : decode cX12_starts 110 = .ok (.bipush 16, 2) := dX12_starts_84_k.2.2.2.2.2.2.2.2.2.2.2.2.2.2.1
theorem dX12_starts_112 : decode cX12_starts 112 = .ok (.aload_n 0, 1) := dX12_starts_84_k.2.2.2.2.2.2.2.2.2.2.2.2.2.2.2
theorem dX12_starts_113_k : decode cX12_starts 113 = .ok (.getfield 7, 3) ∧ decode cX12_starts 116 = .ok (.sipush 701, 3) ∧ decode cX12_starts 119 = .ok (.iaload, 1) ∧ decode cX12_starts 120 = .ok (.imul, 1) ∧ decode cX12_starts 121 = .ok (.iadd, 1) ∧ decode cX12_starts 122 = .ok (.iconst 0, 1) ∧ decode cX12_starts 123 = .ok (.iastore, 1) ∧ decode cX12_starts 124 = .ok (.aload_n 0, 1) ∧ decode cX12_starts 125 = .ok (.getfield 7, 3) ∧ decode cX12_starts 128 = .ok (.sipush 701, 3) ∧ decode cX12_starts 131 = .ok (.dup2, 1) ∧ decode cX12_starts 132 = .ok (.iaload, 1) ∧ decode cX12_starts 133 = .ok (.iconst 1, 1) ∧ decode cX12_starts 134 = .ok (.iadd, 1) ∧ decode cX12_starts 135 = .ok (.iastore, 1) ∧ decode cX12_starts 136 = .ok (.return_, 1) := by decide +kernel
theorem dX12_starts_113 : decode cX12_starts 113 = .ok (.getfield 7, 3) := dX12_starts_113_k.1
theorem dX12_starts_116 : decode cX12_starts 116 = .ok (.sipush 701, 3) := dX12_starts_113_k.2.1
theorem dX12_starts_119 : decode cX12_starts 119 = .ok (.iaload, 1) := dX12_starts_113_k.2.2.1
theorem dX12_starts_120 : decode cX12_starts 120 = .ok (.imul, 1) := dX12_starts_113_k.2.2.2.1
theorem dX12_starts_121 : decode cX12_starts 121 = .ok (.iadd, 1) := dX12_starts_113_k.2.2.2.2.1
theorem dX12_starts_122 : decode cX12_starts 122 = .ok (.iconst 0, 1) := dX12_starts_113_k.2.2.2.2.2.1
theorem dX12_starts_123 : decode cX12_starts 123 = .ok (.iastore, 1) := dX12_starts_113_k.2.2.2.2.2.2.1
theorem dX12_starts_124 : decode cX12_starts 124 = .ok (.aload_n 0, 1) := dX12_starts_113_k.2.2.2.2.2.2.2.1
theorem dX12_starts_125 : decode cX12_starts 125 = .ok (.getfield 7, 3) := dX12_starts_113_k.2.2.2.2.2.2.2.2.1
theorem dX12_starts_128 : decode cX12_starts 128 = .ok (.sipush 701, 3) := dX12_starts_113_k.2.2.2.2.2.2.2.2.2.1
theorem dX12_starts_131 : decode cX12_starts 131 = .ok (.dup2, 1) := dX12_starts_113_k.2.2.2.2.2.2.2.2.2.2.1
theorem dX12_starts_132 : decode cX12_starts 132 = .ok (.iaload, 1) := dX12_starts_113_k.2.2.2.2.2.2.2.2.2.2.2.1
theorem dX12_starts_133 : decode cX12_starts 133 = .ok (.iconst 1, 1) := dX12_starts_113_k.2.2.2.2.2.2.2.2.2.2.2.2.1
theorem dX12_starts_134 : decode cX12_starts 134 = .ok (.iadd, 1) := dX12_starts_113_k.2.2.2.2.2.2.2.2.2.2.2.2.2.1
theorem dX12_starts_135 : decode cX12_starts 135 = .ok (.iastore, 1) := dX12_starts_113_k.2.2.2.2.2.2.2.2.2.2.2.2.2.2.1
theorem dX12_starts_136 : decode cX12_starts 136 = .ok (.return_, 1) := dX12_starts_113_k.2.2.2.2.2.2.2.2.2.2.2.2.2.2.2
theorem dX12_comesToHistory_0_k : decode cX12_comesToHistory 0 = .ok (.aload_n 0, 1) ∧ decode cX12_comesToHistory 1 = .ok (.getfield 7, 3) ∧ decode cX12_comesToHistory 4 = .ok (.sipush 300, 3) ∧ decode cX12_comesToHistory 7 = .ok (.iaload, 1) ∧ decode cX12_comesToHistory 8 = .ok (.sipush 400, 3) ∧ decode cX12_comesToHistory 11 = .ok (.if_icmp .ne 52, 3) ∧ decode cX12_comesToHistory 14 = .ok (.iconst 1, 1) ∧ decode cX12_comesToHistory 15 = .ok (.istore_n 2, 1) ∧ decode cX12_comesToHistory 16 = .ok (.iload_n 2, 1) ∧ decode cX12_comesToHistory 17 = .ok (.sipush 400, 3) ∧ decode cX12_comesToHistory 20 = .ok (.if_icmp .ge 31, 3) ∧ decode cX12_comesToHistory 23 = .ok (.aload_n 0, 1) ∧ decode cX12_comesToHistory 24 = .ok (.getfield 7, 3) ∧ decode cX12_comesToHistory 27 = .ok (.sipush 301, 3) ∧ decode cX12_comesToHistory 30 = .ok (.iload_n 2, 1) ∧ decode cX12_comesToHistory 31 = .ok (.iadd, 1) := by decide +kernel
theorem dX12_comesToHistory_0 : decode cX12_comesToHistory 0 = .ok (.aload_n 0, 1) := dX12_comesToHistory_0_k.1
theorem dX12_comesToHistory_1 : decode cX12_comesToHistory 1 = .ok (.getfield 7, 3) := dX12_comesToHistory_0_k.2.1
theorem dX12_comesToHistory_4 : decode cX12_comesToHistory 4 = .ok (.sipush 300, 3) := dX12_comesToHistory_0_k.2.2.1
theorem dX12_comesToHistory_7 : decode cX12_comesToHistory 7 = .ok (.iaload, 1) := dX12_comesToHistory_0_k.2.2.2.1
theorem dX12_comesToHistory_8 : decode cX12_comesToHistory 8 = .ok (.sipush 400, 3) := dX12_comesToHistory_0_k.2.2.2.2.1
theorem dX12_comesToHistory_11 : decode cX12_comesToHistory 11 = .ok (.if_icmp .ne 52, 3) := dX12_comesToHistory_0_k.2.2.2.2.2.1
theorem dX12_comesToHistory_14 : decode cX12_comesToHistory 14 = .ok (.iconst 1, 1) := dX12_comesToHistory_0_k.2.2.2.2.2.2.1
theorem dX12_comesToHistory_15 : decode cX12_comesToHistory 15 = .ok (.istore_n 2, 1) := dX12_comesToHistory_0_k.2.2.2.2.2.2.2.1
theorem dX12_comesToHistory_16 : decode cX12_comesToHistory 16 = .ok (.iload_n 2, 1) := dX12_comesToHistory_0_k.2.2.2.2.2.2.2.2.1
theorem dX12_comesToHistory_17 : decode cX12_comesToHistory 17 = .ok (.sipush 400, 3) := dX12_comesToHistory_0_k.2.2.2.2.2.2.2.2.2.1
theorem dX12_comesToHistory_20 : decode cX12_comesToHistory 20 = .ok (.if_icmp .ge 31, 3) := dX12_comesToHistory_0_k.2.2.2.2.2.2.2.2.2.2.1
theorem dX12_comesToHistory_23 : decode cX12_comesToHistory 23 = .ok (.aload_n 0, 1) := dX12_comesToHistory_0_k.2.2.2.2.2.2.2.2.2.2.2.1
theorem dX12_comesToHistory_24 : decode cX12_comesToHistory 24 = .ok (.getfield 7, 3) := dX12_comesToHistory_0_k.2.2.2.2.2.2.2.2.2.2.2.2.1
theorem dX12_comesToHistory_27 : decode cX12_comesToHistory 27 = .ok (.sipush 301, 3) := dX12_comesToHistory_0_k.2.2.2.2.2.2.2.2.2.2.2.2.2.1
theorem dX12_comesToHistory_30 : decode cX12_comesToHistory 30 = .ok (.iload_n 2, 1) := dX12_comesToHistory_0_k.2.2.2.2.2.2.2.2.2.2.2.2.2.2.1
theorem dX12_comesToHistory_31 : decode cX12_comesToHistory 31 = .ok (.iadd, 1) := dX12_comesToHistory_0_k.2.2.2.2.2.2.2.2.2.2.2.2.2.2.2
theorem dX12_comesToHistory_32_k : decode cX12_comesToHistory 32 = .ok (.iconst 1, 1) ∧ decode cX12_comesToHistory 33 = .ok (.isub, 1) ∧ decode cX12_comesToHistory 34 = .ok (.aload_n 0, 1) ∧ decode cX12_comesToHistory 35 = .ok (.getfield 7, 3) ∧ decode cX12_comesToHistory 38 = .ok (.sipush 301, 3) ∧ decode cX12_comesToHistory 41 = .ok (.iload_n 2, 1) ∧ decode cX12_comesToHistory 42 = .ok (.iadd, 1) ∧ decode cX12_comesToHistory 43 = .ok (.iaload, 1) ∧ decode cX12_comesToHistory 44 = .ok (.iastore, 1) ∧ decode cX12_comesToHistory 45 = .ok (.iinc 2 1, 3) ∧ decode cX12_comesToHistory 48 = .ok (.goto (-32), 3) ∧ decode cX12_comesToHistory 51 = .ok (.aload_n 0, 1) ∧ decode cX12_comesToHistory 52 = .ok (.getfield 7, 3) ∧ decode cX12_comesToHistory 55 = .ok (.sipush 300, 3) ∧ decode cX12_comesToHistory 58 = .ok (.dup2, 1) ∧ decode cX12_comesToHistory 59 = .ok (.iaload, 1) := by decide +kernel
theorem dX12_comesToHistory_32 : decode cX12_comesToHistory 32 = .ok (.iconst 1, 1) := dX12_comesToHistory_32_k.1
theorem dX12_comesToHistory_33 : decode cX12_comesToHistory 33 = .ok (.isub, 1) := dX12_comesToHistory_32_k.2.1
theorem dX12_comesToHistory_34 : decode cX12_comesToHistory 34 = .ok (.aload_n 0, 1) := dX12_comesToHistory_32_k.2.2.1
theorem dX12_comesToHistory_35 : decode cX12_comesToHistory 35 = .ok (.getfield 7, 3) := dX12_comesToHistory_32_k.2.2.2.1
theorem dX12_comesToHistory_38 : decode cX12_comesToHistory 38 = .ok (.sipush 301, 3) := dX12_comesToHistory_32_k.2.2.2.2.1
theorem dX12_comesToHistory_41 : decode cX12_comesToHistory 41 = .ok (.iload_n 2, 1) := dX12_comesToHistory_32_k.2.2.2.2.2.1
theorem dX12_comesToHistory_42 : decode cX12_comesToHistory 42 = .ok (.iadd, 1) := dX12_comesToHistory_32_k.2.2.2.2.2.2.1
theorem dX12_comesToHistory_43 : decode cX12_comesToHistory 43 = .ok (.iaload, 1) := dX12_comesToHistory_32_k.2.2.2.2.2.2.2.1
theorem dX12_comesToHistory_44 : decode cX12_comesToHistory 44 = .ok (.iastore, 1) := dX12_comesToHistory_32_k.2.2.2.2.2.2.2.2.1
theorem dX12_comesToHistory_45 : decode cX12_comesToHistory 45 = .ok (.iinc 2 1, 3) := dX12_comesToHistory_32_k.2.2.2.2.2.2.2.2.2.1
theorem dX12_comesToHistory_48 : decode cX12_comesToHistory 48 = .ok (.goto (-32), 3) := dX12_comesToHistory_32_k.2.2.2.2.2.2.2.2.2.2.1
theorem dX12_comesToHistory_51 : decode cX12_comesToHistory 51 = .ok (.aload_n 0, 1) := dX12_comesToHistory_32_k.2.2.2.2.2.2.2.2.2.2.2.1
theorem dX12_comesToHistory_52 : decode cX12_comesToHistory 52 = .ok (.getfield 7, 3) := dX12_comesToHistory_32_k.2.2.2.2.2.2.2.2.2.2.2.2.1
theorem dX12_comesToHistory_55 : decode cX12_comesToHistory 55 = .ok (.sipush 300, 3) := dX12_comesToHistory_32_k.2.2.2.2.2.2.2.2.2.2.2.2.2.1
theorem dX12_comesToHistory_58 : decode cX12_comesToHistory 58 = .ok (.dup2, 1) := dX12_comesToHistory_32_k.2.2.2.2.2.2.2.2.2.2.2.2.2.2.1
theorem dX12_comesToHistory_59 : decode cX12_comesToHistory 59 = .ok (.iaload, 1) := dX12_comesToHistory_32_k.2.2.2.2.2.2.2.2.2.2.2.2.2.2.2
theorem dX12_comesToHistory_60_k : decode cX12_comesToHistory 60 = .ok (.iconst 1, 1) ∧ decode cX12_comesToHistory 61 = .ok (.isub, 1) ∧ decode cX12_comesToHistory 62 = .ok (.iastore, 1) ∧ decode cX12_comesToHistory 63 = .ok (.aload_n 0, 1) ∧ decode cX12_comesToHistory 64 = .ok (.getfield 7, 3) ∧ decode cX12_comesToHistory 67 = .ok (.sipush 301, 3) ∧ decode cX12_comesToHistory 70 = .ok (.aload_n 0, 1) ∧ decode cX12_comesToHistory 71 = .ok (.getfield 7, 3) ∧ decode cX12_comesToHistory 74 = .ok (.sipush 300, 3) ∧ decode cX12_comesToHistory 77 = .ok (.iaload, 1) ∧ decode cX12_comesToHistory 78 = .ok (.iadd, 1) ∧ decode cX12_comesToHistory 79 = .ok (.iload_n 1, 1) ∧ decode cX12_comesToHistory 80 = .ok (.iastore, 1) ∧ decode cX12_comesToHistory 81 = .ok (.aload_n 0, 1) ∧ decode cX12_comesToHistory 82 = .ok (.getfield 7, 3) ∧ decode cX12_comesToHistory 85 = .ok (.sipush 300, 3) := by decide +kernel
theorem dX12_comesToHistory_60 : decode cX12_comesToHistory 60 = .ok (.iconst 1, 1) := dX12_comesToHistory_60_k.1
theorem dX12_comesToHistory_61 : decode cX12_comesToHistory 61 = .ok (.isub, 1) := dX12_comesToHistory_60_k.2.1
theorem dX12_comesToHistory_62 : decode cX12_comesToHistory 62 = .ok (.iastore, 1) := dX12_comesToHistory_60_k.2.2.1
theorem dX12_comesToHistory_63 : decode cX12_comesToHistory 63 = .ok (.aload_n 0, 1) := dX12_comesToHistory_60_k.2.2.2.1
theorem dX12_comesToHistory_64 : decode cX12_comesToHistory 64 = .ok (.getfield 7, 3) := dX12_comesToHistory_60_k.2.2.2.2.1
theorem dX12_comesToHistory_67 : decode cX12_comesToHistory 67 = .ok (.sipush 301, 3) := dX12_comesToHistory_60_k.2.2.2.2.2.1
theorem dX12_comesToHistory_70 : decode cX12_comesToHistory 70 = .ok (.aload_n 0, 1) := dX12_comesToHistory_60_k.2.2.2.2.2.2.1
theorem dX12_comesToHistory_71 : decode cX12_comesToHistory 71 = .ok (.getfield 7, 3) := dX12_comesToHistory_60_k.2.2.2.2.2.2.2.1
theorem dX12_comesToHistory_74 : decode cX12_comesToHistory 74 = .ok (.sipush 300, 3) := dX12_comesToHistory_60_k.2.2.2.2.2.2.2.2.1
theorem dX12_comesToHistory_77 : decode cX12_comesToHistory 77 = .ok (.iaload, 1) := dX12_comesToHistory_60_k.2.2.2.2.2.2.2.2.2.1
theorem dX12_comesToHistory_78 : decode cX12_comesToHistory 78 = .ok (.iadd, 1) := dX12_comesToHistory_60_k.2.2.2.2.2.2.2.2.2.2.1
theorem dX12_comesToHistory_79 : decode cX12_comesToHistory 79 = .ok (.iload_n 1, 1) := dX12_comesToHistory_60_k.2.2.2.2.2.2.2.2.2.2.2.1
theorem dX12_comesToHistory_80 : decode cX12_comesToHistory 80 = .ok (.iastore, 1) := dX12_comesToHistory_60_k.2.2.2.2.2.2.2.2.2.2.2.2.1
theorem dX12_comesToHistory_81 : decode cX12_comesToHistory 81 = .ok (.aload_n 0, 1) := dX12_comesToHistory_60_k.2.2.2.2.2.2.2.2.2.2.2.2.2.1
theorem dX12_comesToHistory_82 : decode cX12_comesToHistory 82 = .ok (.getfield 7, 3) := dX12_comesToHistory_60_k.2.2.2.2.2.2.2.2.2.2.2.2.2.2.1
theorem dX12_comesToHistory_85 : decode cX12_comesToHistory 85 = .ok (.sipush 300, 3) := dX12_comesToHistory_60_k.2.2.2.2.2.2.2.2.2.2.2.2.2.2.2
theorem dX12_comesToHistory_88_k : decode cX12_comesToHistory 88 = .ok (.dup2, 1) ∧ decode cX12_comesToHistory 89 = .ok (.iaload, 1) ∧ decode cX12_comesToHistory 90 = .ok (.iconst 1, 1) ∧ decode cX12_comesToHistory 91 = .ok (.iadd, 1) ∧ decode cX12_comesToHistory 92 = .ok (.iastore, 1) ∧ decode cX12_comesToHistory 93 = .ok (.return_, 1) := by decide +kernel
theorem dX12_comesToHistory_88 : decode cX12_comesToHistory 88 = .ok (.dup2, 1) := dX12_comesToHistory_88_k.1
theorem dX12_comesToHistory_89 : decode cX12_comesToHistory 89 = .ok (.iaload, 1) := dX12_comesToHistory_88_k.2.1
theorem dX12_comesToHistory_90 : decode cX12_comesToHistory 90 = .ok (.iconst 1, 1) := dX12_comesToHistory_88_k.2.2.1
theorem dX12_comesToHistory_91 : decode cX12_comesToHistory 91 = .ok (.iadd, 1) := dX12_comesToHistory_88_k.2.2.2.1
theorem dX12_comesToHistory_92 : decode cX12_comesToHistory 92 = .ok (.iastore, 1) := dX12_comesToHistory_88_k.2.2.2.2.1
theorem dX12_comesToHistory_93 : decode cX12_comesToHistory 93 = .ok (.return_, 1) := dX12_comesToHistory_88_k.2.2.2.2.2
theorem dX12_comesToRow_0_k : decode cX12_comesToRow 0 = .ok (.sipush 702, 3) ∧ decode cX12_comesToRow 3 = .ok (.bipush 16, 2) ∧ decode cX12_comesToRow 5 = .ok (.aload_n 0, 1) ∧ decode cX12_comesToRow 6 = .ok (.getfield 7, 3) ∧ decode cX12_comesToRow 9 = .ok (.sipush 701, 3) ∧ decode cX12_comesToRow 12 = .ok (.iaload, 1) ∧ decode cX12_comesToRow 13 = .ok (.iconst 1, 1) ∧ decode cX12_comesToRow 14 = .ok (.isub, 1) ∧ decode cX12_comesToRow 15 = .ok (.imul, 1) ∧ decode cX12_comesToRow 16 = .ok (.iadd, 1) ∧ decode cX12_comesToRow 17 = .ok (.istore_n 2, 1) ∧ decode cX12_comesToRow 18 = .ok (.aload_n 0, 1) ∧ decode cX12_comesToRow 19 = .ok (.getfield 7, 3) ∧ decode cX12_comesToRow 22 = .ok (.iload_n 2, 1) ∧ decode cX12_comesToRow 23 = .ok (.iaload, 1) ∧ decode cX12_comesToRow 24 = .ok (.bipush 15, 2) := by decide +kernel
theorem dX12_comesToRow_0 : decode cX12_comesToRow 0 = .ok (.sipush 702, 3) := dX12_comesToRow_0_k.1
theorem dX12_comesToRow_3 : decode cX12_comesToRow 3 = .ok (.bipush 16, 2) := dX12_comesToRow_0_k.2.1
theorem dX12_comesToRow_5 : decode cX12_comesToRow 5 = .ok (.aload_n 0, 1) := dX12_comesToRow_0_k.2.2.1
theorem dX12_comesToRow_6 : decode cX12_comesToRow 6 = .ok (.getfield 7, 3) := dX12_comesToRow_0_k.2.2.2.1
theorem dX12_comesToRow_9 : decode cX12_comesToRow 9 = .ok (.sipush 701, 3) := dX12_comesToRow_0_k.2.2.2.2.1
theorem dX12_comesToRow_12 : decode cX12_comesToRow 12 = .ok (.iaload, 1) := dX12_comesToRow_0_k.2.2.2.2.2.1
theorem dX12_comesToRow_13 : decode cX12_comesToRow 13 = .ok (.iconst 1, 1) := dX12_comesToRow_0_k.2.2.2.2.2.2.1
theorem dX12_comesToRow_14 : decode cX12_comesToRow 14 = .ok (.isub, 1) := dX12_comesToRow_0_k.2.2.2.2.2.2.2.1
theorem dX12_comesToRow_15 : decode cX12_comesToRow 15 = .ok (.imul, 1) := dX12_comesToRow_0_k.2.2.2.2.2.2.2.2.1
theorem dX12_comesToRow_16 : decode cX12_comesToRow 16 = .ok (.iadd, 1) := dX12_comesToRow_0_k.2.2.2.2.2.2.2.2.2.1
theorem dX12_comesToRow_17 : decode cX12_comesToRow 17 = .ok (.istore_n 2, 1) := dX12_comesToRow_0_k.2.2.2.2.2.2.2.2.2.2.1
theorem dX12_comesToRow_18 : decode cX12_comesToRow 18 = .ok (.aload_n 0, 1) := dX12_comesToRow_0_k.2.2.2.2.2.2.2.2.2.2.2.1
theorem dX12_comesToRow_19 : decode cX12_comesToRow 19 = .ok (.getfield 7, 3) := dX12_comesToRow_0_k.2.2.2.2.2.2.2.2.2.2.2.2.1
theorem dX12_comesToRow_22 : decode cX12_comesToRow 22 = .ok (.iload_n 2, 1) := dX12_comesToRow_0_k.2.2.2.2.2.2.2.2.2.2.2.2.2.1
theorem dX12_comesToRow_23 : decode cX12_comesToRow 23 = .ok (.iaload, 1) := dX12_comesToRow_0_k.2.2.2.2.2.2.2.2.2.2.2.2.2.2.1
theorem dX12_comesToRow_24 : decode cX12_comesToRow 24 = .ok (.bipush 15, 2) := dX12_comesToRow_0_k.2.2.2.2.2.2.2.2.2.2.2.2.2.2.2
theorem dX12_comesToRow_26_k : decode cX12_comesToRow 26 = .ok (.if_icmp .ge 29, 3) ∧ decode cX12_comesToRow 29 = .ok (.aload_n 0, 1) ∧ decode cX12_comesToRow 30 = .ok (.getfield 7, 3) ∧ decode cX12_comesToRow 33 = .ok (.iload_n 2, 1) ∧ decode cX12_comesToRow 34 = .ok (.iconst 1, 1) ∧ decode cX12_comesToRow 35 = .ok (.iadd, 1) ∧ decode cX12_comesToRow 36 = .ok (.aload_n 0, 1) ∧ decode cX12_comesToRow 37 = .ok (.getfield 7, 3) ∧ decode cX12_comesToRow 40 = .ok (.iload_n 2, 1) ∧ decode cX12_comesToRow 41 = .ok (.iaload, 1) ∧ decode cX12_comesToRow 42 = .ok (.iadd, 1) ∧ decode cX12_comesToRow 43 = .ok (.iload_n 1, 1) ∧ decode cX12_comesToRow 44 = .ok (.iastore, 1) ∧ decode cX12_comesToRow 45 = .ok (.aload_n 0, 1) ∧ decode cX12_comesToRow 46 = .ok (.getfield 7, 3) ∧ decode cX12_comesToRow 49 = .ok (.iload_n 2, 1) := by decide +kernel
theorem dX12_comesToRow_26 : decode cX12_comesToRow 26 = .ok (.if_icmp .ge 29, 3) := dX12_comesToRow_26_k.1
theorem dX12_comesToRow_29 : decode cX12_comesToRow 29 = .ok (.aload_n 0, 1) := dX12_comesToRow_26_k.2.1
theorem dX12_comesToRow_30 : decode cX12_comesToRow 30 = .ok (.getfield 7, 3) := dX12_comesToRow_26_k.2.2.1
theorem dX12_comesToRow_33 : decode cX12_comesToRow 33 = .ok (.iload_n 2, 1) := dX12_comesToRow_26_k.2.2.2.1
theorem dX12_comesToRow_34 : decode cX12_comesToRow 34 = .ok (.iconst 1, 1) := dX12_comesToRow_26_k.2.2.2.2.1
theorem dX12_comesToRow_35 : decode cX12_comesToRow 35 = .ok (.iadd, 1) := dX12_comesToRow_26_k.2.2.2.2.2.1
theorem dX12_comesToRow_36 : decode cX12_comesToRow 36 = .ok (.aload_n 0, 1) := dX12_comesToRow_26_k.2.2.2.2.2.2.1
theorem dX12_comesToRow_37 : decode cX12_comesToRow 37 = .ok (.getfield 7, 3) := dX12_comesToRow_26_k.2.2.2.2.2.2.2.1
theorem dX12_comesToRow_40 : decode cX12_comesToRow 40 = .ok (.iload_n 2, 1) := dX12_comesToRow_26_k.2.2.2.2.2.2.2.2.1
theorem dX12_comesToRow_41 : decode cX12_comesToRow 41 = .ok (.iaload, 1) := dX12_comesToRow_26_k.2.2.2.2.2.2.2.2.2.1
theorem dX12_comesToRow_42 : decode cX12_comesToRow 42 = .ok (.iadd, 1) := dX12_comesToRow_26_k.2.2.2.2.2.2.2.2.2.2.1
theorem dX12_comesToRow_43 : decode cX12_comesToRow 43 = .ok (.iload_n 1, 1) := dX12_comesToRow_26_k.2.2.2.2.2.2.2.2.2.2.2.1
theorem dX12_comesToRow_44 : decode cX12_comesToRow 44 = .ok (.iastore, 1) := dX12_comesToRow_26_k.2.2.2.2.2.2.2.2.2.2.2.2.1
theorem dX12_comesToRow_45 : decode cX12_comesToRow 45 = .ok (.aload_n 0, 1) := dX12_comesToRow_26_k.2.2.2.2.2.2.2.2.2.2.2.2.2.1
theorem dX12_comesToRow_46 : decode cX12_comesToRow 46 = .ok (.getfield 7, 3) := dX12_comesToRow_26_k.2.2.2.2.2.2.2.2.2.2.2.2.2.2.1
theorem dX12_comesToRow_49 : decode cX12_comesToRow 49 = .ok (.iload_n 2, 1) := dX12_comesToRow_26_k.2.2.2.2.2.2.2.2.2.2.2.2.2.2.2
theorem dX12_comesToRow_50_k : decode cX12_comesToRow 50 = .ok (.dup2, 1) ∧ decode cX12_comesToRow 51 = .ok (.iaload, 1) ∧ decode cX12_comesToRow 52 = .ok (.iconst 1, 1) ∧ decode cX12_comesToRow 53 = .ok (.iadd, 1) ∧ decode cX12_comesToRow 54 = .ok (.iastore, 1) ∧ decode cX12_comesToRow 55 = .ok (.return_, 1) := by decide +kernel
theorem dX12_comesToRow_50 : decode cX12_comesToRow 50 = .ok (.dup2, 1) := dX12_comesToRow_50_k.1
theorem dX12_comesToRow_51 : decode cX12_comesToRow 51 = .ok (.iaload, 1) := dX12_comesToRow_50_k.2.1
theorem dX12_comesToRow_52 : decode cX12_comesToRow 52 = .ok (.iconst 1, 1) := dX12_comesToRow_50_k.2.2.1
theorem dX12_comesToRow_53 : decode cX12_comesToRow 53 = .ok (.iadd, 1) := dX12_comesToRow_50_k.2.2.2.1
theorem dX12_comesToRow_54 : decode cX12_comesToRow 54 = .ok (.iastore, 1) := dX12_comesToRow_50_k.2.2.2.2.1
theorem dX12_comesToRow_55 : decode cX12_comesToRow 55 = .ok (.return_, 1) := dX12_comesToRow_50_k.2.2.2.2.2
theorem dX12_tests_0_k : decode cX12_tests 0 = .ok (.aload_n 0, 1) ∧ decode cX12_tests 1 = .ok (.getfield 7, 3) ∧ decode cX12_tests 4 = .ok (.bipush 30, 2) ∧ decode cX12_tests 6 = .ok (.iaload, 1) ∧ decode cX12_tests 7 = .ok (.ifCond .le 18, 3) ∧ decode cX12_tests 10 = .ok (.aload_n 0, 1) ∧ decode cX12_tests 11 = .ok (.getfield 7, 3) ∧ decode cX12_tests 14 = .ok (.bipush 32, 2) ∧ decode cX12_tests 16 = .ok (.iaload, 1) ∧ decode cX12_tests 17 = .ok (.iload_n 1, 1) ∧ decode cX12_tests 18 = .ok (.if_icmp .ne 7, 3) ∧ decode cX12_tests 21 = .ok (.iconst 1, 1) ∧ decode cX12_tests 22 = .ok (.goto 4, 3) ∧ decode cX12_tests 25 = .ok (.iconst 0, 1) ∧ decode cX12_tests 26 = .ok (.istore_n 2, 1) ∧ decode cX12_tests 27 = .ok (.aload_n 0, 1) := by decide +kernel
theorem dX12_tests_0 : decode cX12_tests 0 = .ok (.aload_n 0, 1) := dX12_tests_0_k.1
theorem dX12_tests_1 : decode cX12_tests 1 = .ok (.getfield 7, 3) := dX12_tests_0_k.2.1
theorem dX12_tests_4 : decode cX12_tests 4 = .ok (.bipush 30, 2) := dX12_tests_0_k.2.2.1
theorem dX12_tests_6 : decode cX12_tests 6 = .ok (.iaload, 1) := dX12_tests_0_k.2.2.2.1
theorem dX12_tests_7 : decode cX12_tests 7 = .ok (.ifCond .le 18, 3) := dX12_tests_0_k.2.2.2.2.1
theorem dX12_tests_10 : decode cX12_tests 10 = .ok (.aload_n 0, 1) := dX12_tests_0_k.2.2.2.2.2.1
theorem dX12_tests_11 : decode cX12_tests 11 = .ok (.getfield 7, 3) := dX12_tests_0_k.2.2.2.2.2.2.1
theorem dX12_tests_14 : decode cX12_tests 14 = .ok (.bipush 32, 2) := dX12_tests_0_k.2.2.2.2.2.2.2.1
theorem dX12_tests_16 : decode cX12_tests 16 = .ok (.iaload, 1) := dX12_tests_0_k.2.2.2.2.2.2.2.2.1
theorem dX12_tests_17 : decode cX12_tests 17 = .ok (.iload_n 1, 1) := dX12_tests_0_k.2.2.2.2.2.2.2.2.2.1
theorem dX12_tests_18 : decode cX12_tests 18 = .ok (.if_icmp .ne 7, 3) := dX12_tests_0_k.2.2.2.2.2.2.2.2.2.2.1
theorem dX12_tests_21 : decode cX12_tests 21 = .ok (.iconst 1, 1) := dX12_tests_0_k.2.2.2.2.2.2.2.2.2.2.2.1
theorem dX12_tests_22 : decode cX12_tests 22 = .ok (.goto 4, 3) := dX12_tests_0_k.2.2.2.2.2.2.2.2.2.2.2.2.1
theorem dX12_tests_25 : decode cX12_tests 25 = .ok (.iconst 0, 1) := dX12_tests_0_k.2.2.2.2.2.2.2.2.2.2.2.2.2.1
theorem dX12_tests_26 : decode cX12_tests 26 = .ok (.istore_n 2, 1) := dX12_tests_0_k.2.2.2.2.2.2.2.2.2.2.2.2.2.2.1
theorem dX12_tests_27 : decode cX12_tests 27 = .ok (.aload_n 0, 1) := dX12_tests_0_k.2.2.2.2.2.2.2.2.2.2.2.2.2.2.2
theorem dX12_tests_28_k : decode cX12_tests 28 = .ok (.getfield 7, 3) ∧ decode cX12_tests 31 = .ok (.bipush 31, 2) ∧ decode cX12_tests 33 = .ok (.iload_n 2, 1) ∧ decode cX12_tests 34 = .ok (.ifCond .eq 15, 3) ∧ decode cX12_tests 37 = .ok (.aload_n 0, 1) ∧ decode cX12_tests 38 = .ok (.getfield 7, 3) ∧ decode cX12_tests 41 = .ok (.bipush 31, 2) ∧ decode cX12_tests 43 = .ok (.iaload, 1) ∧ decode cX12_tests 44 = .ok (.iconst 1, 1) ∧ decode cX12_tests 45 = .ok (.iadd, 1) ∧ decode cX12_tests 46 = .ok (.goto 4, 3) ∧ decode cX12_tests 49 = .ok (.iconst 1, 1) ∧ decode cX12_tests 50 = .ok (.iastore, 1) ∧ decode cX12_tests 51 = .ok (.aload_n 0, 1) ∧ decode cX12_tests 52 = .ok (.getfield 7, 3) ∧ decode cX12_tests 55 = .ok (.bipush 33, 2) := by decide +kernel
theorem dX12_tests_28 : decode cX12_tests 28 = .ok (.getfield 7, 3) := dX12_tests_28_k.1
theorem dX12_tests_31 : decode cX12_tests 31 = .ok (.bipush 31, 2) := dX12_tests_28_k.2.1
theorem dX12_tests_33 : decode cX12_tests 33 = .ok (.iload_n 2, 1) := dX12_tests_28_k.2.2.1
theorem dX12_tests_34 : decode cX12_tests 34 = .ok (.ifCond .eq 15, 3) := dX12_tests_28_k.2.2.2.1
theorem dX12_tests_37 : decode cX12_tests 37 = .ok (.aload_n 0, 1) := dX12_tests_28_k.2.2.2.2.1
theorem dX12_tests_38 : decode cX12_tests 38 = .ok (.getfield 7, 3) := dX12_tests_28_k.2.2.2.2.2.1
theorem dX12_tests_41 : decode cX12_tests 41 = .ok (.bipush 31, 2) := dX12_tests_28_k.2.2.2.2.2.2.1
theorem dX12_tests_43 : decode cX12_tests 43 = .ok (.iaload, 1) := dX12_tests_28_k.2.2.2.2.2.2.2.1
theorem dX12_tests_44 : decode cX12_tests 44 = .ok (.iconst 1, 1) := dX12_tests_28_k.2.2.2.2.2.2.2.2.1
theorem dX12_tests_45 : decode cX12_tests 45 = .ok (.iadd, 1) := dX12_tests_28_k.2.2.2.2.2.2.2.2.2.1
theorem dX12_tests_46 : decode cX12_tests 46 = .ok (.goto 4, 3) := dX12_tests_28_k.2.2.2.2.2.2.2.2.2.2.1
theorem dX12_tests_49 : decode cX12_tests 49 = .ok (.iconst 1, 1) := dX12_tests_28_k.2.2.2.2.2.2.2.2.2.2.2.1
theorem dX12_tests_50 : decode cX12_tests 50 = .ok (.iastore, 1) := dX12_tests_28_k.2.2.2.2.2.2.2.2.2.2.2.2.1
theorem dX12_tests_51 : decode cX12_tests 51 = .ok (.aload_n 0, 1) := dX12_tests_28_k.2.2.2.2.2.2.2.2.2.2.2.2.2.1
theorem dX12_tests_52 : decode cX12_tests 52 = .ok (.getfield 7, 3) := dX12_tests_28_k.2.2.2.2.2.2.2.2.2.2.2.2.2.2.1
theorem dX12_tests_55 : decode cX12_tests 55 = .ok (.bipush 33, 2) := dX12_tests_28_k.2.2.2.2.2.2.2.2.2.2.2.2.2.2.2
theorem dX12_tests_57_k : decode cX12_tests 57 = .ok (.iaload, 1) ∧ decode cX12_tests 58 = .ok (.aload_n 0, 1) ∧ decode cX12_tests 59 = .ok (.getfield 7, 3) ∧ decode cX12_tests 62 = .ok (.iconst 2, 1) ∧ decode cX12_tests 63 = .ok (.iaload, 1) ∧ decode cX12_tests 64 = .ok (.if_icmp .eq 13, 3) ∧ decode cX12_tests 67 = .ok (.aload_n 0, 1) ∧ decode cX12_tests 68 = .ok (.getfield 7, 3) ∧ decode cX12_tests 71 = .ok (.bipush 33, 2) ∧ decode cX12_tests 73 = .ok (.iaload, 1) ∧ decode cX12_tests 74 = .ok (.ifCond .ne 38, 3) ∧ decode cX12_tests 77 = .ok (.aload_n 0, 1) ∧ decode cX12_tests 78 = .ok (.getfield 7, 3) ∧ decode cX12_tests 81 = .ok (.bipush 33, 2) ∧ decode cX12_tests 83 = .ok (.iconst 0, 1) ∧ decode cX12_tests 84 = .ok (.iastore, 1) := by decide +kernel
theorem dX12_tests_57 : decode cX12_tests 57 = .ok (.iaload, 1) := dX12_tests_57_k.1
theorem dX12_tests_58 : decode cX12_tests 58 = .ok (.aload_n 0, 1) := dX12_tests_57_k.2.1
theorem dX12_tests_59 : decode cX12_tests 59 = .ok (.getfield 7, 3) := dX12_tests_57_k.2.2.1
theorem dX12_tests_62 : decode cX12_tests 62 = .ok (.iconst 2, 1) := dX12_tests_57_k.2.2.2.1
theorem dX12_tests_63 : decode cX12_tests 63 = .ok (.iaload, 1) := dX12_tests_57_k.2.2.2.2.1
theorem dX12_tests_64 : decode cX12_tests 64 = .ok (.if_icmp .eq 13, 3) := dX12_tests_57_k.2.2.2.2.2.1
theorem dX12_tests_67 : decode cX12_tests 67 = .ok (.aload_n 0, 1) := dX12_tests_57_k.2.2.2.2.2.2.1
theorem dX12_tests_68 : decode cX12_tests 68 = .ok (.getfield 7, 3) := dX12_tests_57_k.2.2.2.2.2.2.2.1
theorem dX12_tests_71 : decode cX12_tests 71 = .ok (.bipush 33, 2) := dX12_tests_57_k.2.2.2.2.2.2.2.2.1
theorem dX12_tests_73 : decode cX12_tests 73 = .ok (.iaload, 1) := dX12_tests_57_k.2.2.2.2.2.2.2.2.2.1
theorem dX12_tests_74 : decode cX12_tests 74 = .ok (.ifCond .ne 38, 3) := dX12_tests_57_k.2.2.2.2.2.2.2.2.2.2.1
theorem dX12_tests_77 : decode cX12_tests 77 = .ok (.aload_n 0, 1) := dX12_tests_57_k.2.2.2.2.2.2.2.2.2.2.2.1
theorem dX12_tests_78 : decode cX12_tests 78 = .ok (.getfield 7, 3) := dX12_tests_57_k.2.2.2.2.2.2.2.2.2.2.2.2.1
theorem dX12_tests_81 : decode cX12_tests 81 = .ok (.bipush 33, 2) := dX12_tests_57_k.2.2.2.2.2.2.2.2.2.2.2.2.2.1
theorem dX12_tests_83 : decode cX12_tests 83 = .ok (.iconst 0, 1) := dX12_tests_57_k.2.2.2.2.2.2.2.2.2.2.2.2.2.2.1
theorem dX12_tests_84 : decode cX12_tests 84 = .ok (.iastore, 1) := dX12_tests_57_k.2.2.2.2.2.2.2.2.2.2.2.2.2.2.2
theorem dX12_tests_85_k : decode cX12_tests 85 = .ok (.aload_n 0, 1) ∧ decode cX12_tests 86 = .ok (.getfield 7, 3) ∧ decode cX12_tests 89 = .ok (.bipush 36, 2) ∧ decode cX12_tests 91 = .ok (.iload_n 1, 1) ∧ decode cX12_tests 92 = .ok (.iastore, 1) ∧ decode cX12_tests 93 = .ok (.aload_n 0, 1) ∧ decode cX12_tests 94 = .ok (.getfield 7, 3) ∧ decode cX12_tests 97 = .ok (.bipush 34, 2) ∧ decode cX12_tests 99 = .ok (.iconst 0, 1) ∧ decode cX12_tests 100 = .ok (.iastore, 1) ∧ decode cX12_tests 101 = .ok (.aload_n 0, 1) ∧ decode cX12_tests 102 = .ok (.getfield 7, 3) ∧ decode cX12_tests 105 = .ok (.bipush 35, 2) ∧ decode cX12_tests 107 = .ok (.iconst 0, 1) ∧ decode cX12_tests 108 = .ok (.iastore, 1) ∧ decode cX12_tests 109 = .ok (.goto 22, 3) := by decide +kernel
theorem dX12_tests_85 : decode cX12_tests 85 = .ok (.aload_n 0, 1) := dX12_tests_85_k.1
theorem dX12_tests_86 : decode cX12_tests 86 = .ok (.getfield 7, 3) := dX12_tests_85_k.2.1
theorem dX12_tests_89 : decode cX12_tests 89 = .ok (.bipush 36, 2) := dX12_tests_85_k.2.2.1
theorem dX12_tests_91 : decode cX12_tests 91 = .ok (.iload_n 1, 1) := dX12_tests_85_k.2.2.2.1
theorem dX12_tests_92 : decode cX12_tests 92 = .ok (.iastore, 1) := dX12_tests_85_k.2.2.2.2.1
theorem dX12_tests_93 : decode cX12_tests 93 = .ok (.aload_n 0, 1) := dX12_tests_85_k.2.2.2.2.2.1
theorem dX12_tests_94 : decode cX12_tests 94 = .ok (.getfield 7, 3) := dX12_tests_85_k.2.2.2.2.2.2.1
theorem dX12_tests_97 : decode cX12_tests 97 = .ok (.bipush 34, 2) := dX12_tests_85_k.2.2.2.2.2.2.2.1
theorem dX12_tests_99 : decode cX12_tests 99 = .ok (.iconst 0, 1) := dX12_tests_85_k.2.2.2.2.2.2.2.2.1
theorem dX12_tests_100 : decode cX12_tests 100 = .ok (.iastore, 1) := dX12_tests_85_k.2.2.2.2.2.2.2.2.2.1
theorem dX12_tests_101 : decode cX12_tests 101 = .ok (.aload_n 0, 1) := dX12_tests_85_k.2.2.2.2.2.2.2.2.2.2.1
theorem dX12_tests_102 : decode cX12_tests 102 = .ok (.getfield 7, 3) := dX12_tests_85_k.2.2.2.2.2.2.2.2.2.2.2.1
theorem dX12_tests_105 : decode cX12_tests 105 = .ok (.bipush 35, 2) := dX12_tests_85_k.2.2.2.2.2.2.2.2.2.2.2.2.1
theorem dX12_tests_107 : decode cX12_tests 107 = .ok (.iconst 0, 1) := dX12_tests_85_k.2.2.2.2.2.2.2.2.2.2.2.2.2.1
theorem dX12_tests_108 : decode cX12_tests 108 = .ok (.iastore, 1) := dX12_tests_85_k.2.2.2.2.2.2.2.2.2.2.2.2.2.2.1
theorem dX12_tests_109 : decode cX12_tests 109 = .ok (.goto 22, 3) := dX12_tests_85_k.2.2.2.2.2.2.2.2.2.2.2.2.2.2.2
theorem dX12_tests_112_k : decode cX12_tests 112 = .ok (.aload_n 0, 1) ∧ decode cX12_tests 113 = .ok (.getfield 7, 3) ∧ decode cX12_tests 116 = .ok (.bipush 35, 2) ∧ decode cX12_tests 118 = .ok (.dup2, 1) ∧ decode cX12_tests 119 = .ok (.iaload, 1) ∧ decode cX12_tests 120 = .ok (.iload_n 2, 1) ∧ decode cX12_tests 121 = .ok (.ifCond .eq 7, 3) ∧ decode cX12_tests 124 = .ok (.iconst 0, 1) ∧ decode cX12_tests 125 = .ok (.goto 4, 3) ∧ decode cX12_tests 128 = .ok (.iconst 1, 1) ∧ decode cX12_tests 129 = .ok (.iadd, 1) ∧ decode cX12_tests 130 = .ok (.iastore, 1) ∧ decode cX12_tests 131 = .ok (.aload_n 0, 1) ∧ decode cX12_tests 132 = .ok (.getfield 7, 3) ∧ decode cX12_tests 135 = .ok (.bipush 33, 2) ∧ decode cX12_tests 137 = .ok (.dup2, 1) := by decide +kernel
theorem dX12_tests_112 : decode cX12_tests 112 = .ok (.aload_n 0, 1) := dX12_tests_112_k.1
theorem dX12_tests_113 : decode cX12_tests 113 = .ok (.getfield 7, 3) := dX12_tests_112_k.2.1
theorem dX12_tests_116 : decode cX12_tests 116 = .ok (.bipush 35, 2) := dX12_tests_112_k.2.2.1
theorem dX12_tests_118 : decode cX12_tests 118 = .ok (.dup2, 1) := dX12_tests_112_k.2.2.2.1
theorem dX12_tests_119 : decode cX12_tests 119 = .ok (.iaload, 1) := dX12_tests_112_k.2.2.2.2.1
theorem dX12_tests_120 : decode cX12_tests 120 = .ok (.iload_n 2, 1) := dX12_tests_112_k.2.2.2.2.2.1
theorem dX12_tests_121 : decode cX12_tests 121 = .ok (.ifCond .eq 7, 3) := dX12_tests_112_k.2.2.2.2.2.2.1
theorem dX12_tests_124 : decode cX12_tests 124 = .ok (.iconst 0, 1) := dX12_tests_112_k.2.2.2.2.2.2.2.1
theorem dX12_tests_125 : decode cX12_tests 125 = .ok (.goto 4, 3) := dX12_tests_112_k.2.2.2.2.2.2.2.2.1
theorem dX12_tests_128 : decode cX12_tests 128 = .ok (.iconst 1, 1) := dX12_tests_112_k.2.2.2.2.2.2.2.2.2.1
theorem dX12_tests_129 : decode cX12_tests 129 = .ok (.iadd, 1) := dX12_tests_112_k.2.2.2.2.2.2.2.2.2.2.1
theorem dX12_tests_130 : decode cX12_tests 130 = .ok (.iastore, 1) := dX12_tests_112_k.2.2.2.2.2.2.2.2.2.2.2.1
theorem dX12_tests_131 : decode cX12_tests 131 = .ok (.aload_n 0, 1) := dX12_tests_112_k.2.2.2.2.2.2.2.2.2.2.2.2.1
theorem dX12_tests_132 : decode cX12_tests 132 = .ok (.getfield 7, 3) := dX12_tests_112_k.2.2.2.2.2.2.2.2.2.2.2.2.2.1
theorem dX12_tests_135 : decode cX12_tests 135 = .ok (.bipush 33, 2) := dX12_tests_112_k.2.2.2.2.2.2.2.2.2.2.2.2.2.2.1
theorem dX12_tests_137 : decode cX12_tests 137 = .ok (.dup2, 1) := dX12_tests_112_k.2.2.2.2.2.2.2.2.2.2.2.2.2.2.2
theorem dX12_tests_138_k : decode cX12_tests 138 = .ok (.iaload, 1) ∧ decode cX12_tests 139 = .ok (.iconst 1, 1) ∧ decode cX12_tests 140 = .ok (.iadd, 1) ∧ decode cX12_tests 141 = .ok (.iastore, 1) ∧ decode cX12_tests 142 = .ok (.aload_n 0, 1) ∧ decode cX12_tests 143 = .ok (.getfield 7, 3) ∧ decode cX12_tests 146 = .ok (.bipush 34, 2) ∧ decode cX12_tests 148 = .ok (.dup2, 1) ∧ decode cX12_tests 149 = .ok (.iaload, 1) ∧ decode cX12_tests 150 = .ok (.iload_n 1, 1) ∧ decode cX12_tests 151 = .ok (.aload_n 0, 1) ∧ decode cX12_tests 152 = .ok (.getfield 7, 3) ∧ decode cX12_tests 155 = .ok (.bipush 36, 2) ∧ decode cX12_tests 157 = .ok (.iaload, 1) ∧ decode cX12_tests 158 = .ok (.if_icmp .ne 7, 3) ∧ decode cX12_tests 161 = .ok (.iconst 1, 1) := by decide +kernel
theorem dX12_tests_138 : decode cX12_tests 138 = .ok (.iaload, 1) := dX12_tests_138_k.1
theorem dX12_tests_139 : decode cX12_tests 139 = .ok (.iconst 1, 1) := dX12_tests_138_k.2.1
theorem dX12_tests_140 : decode cX12_tests 140 = .ok (.iadd, 1) := dX12_tests_138_k.2.2.1
theorem dX12_tests_141 : decode cX12_tests 141 = .ok (.iastore, 1) := dX12_tests_138_k.2.2.2.1
theorem dX12_tests_142 : decode cX12_tests 142 = .ok (.aload_n 0, 1) := dX12_tests_138_k.2.2.2.2.1
theorem dX12_tests_143 : decode cX12_tests 143 = .ok (.getfield 7, 3) := dX12_tests_138_k.2.2.2.2.2.1
theorem dX12_tests_146 : decode cX12_tests 146 = .ok (.bipush 34, 2) := dX12_tests_138_k.2.2.2.2.2.2.1
theorem dX12_tests_148 : decode cX12_tests 148 = .ok (.dup2, 1) := dX12_tests_138_k.2.2.2.2.2.2.2.1
theorem dX12_tests_149 : decode cX12_tests 149 = .ok (.iaload, 1) := dX12_tests_138_k.2.2.2.2.2.2.2.2.1
theorem dX12_tests_150 : decode cX12_tests 150 = .ok (.iload_n 1, 1) := dX12_tests_138_k.2.2.2.2.2.2.2.2.2.1
theorem dX12_tests_151 : decode cX12_tests 151 = .ok (.aload_n 0, 1) := dX12_tests_138_k.2.2.2.2.2.2.2.2.2.2.1
theorem dX12_tests_152 : decode cX12_tests 152 = .ok (.getfield 7, 3) := dX12_tests_138_k.2.2.2.2.2.2.2.2.2.2.2.1
theorem dX12_tests_155 : decode cX12_tests 155 = .ok (.bipush 36, 2) := dX12_tests_138_k.2.2.2.2.2.2.2.2.2.2.2.2.1
theorem dX12_tests_157 : decode cX12_tests 157 = .ok (.iaload, 1) := dX12_tests_138_k.2.2.2.2.2.2.2.2.2.2.2.2.2.1
theorem dX12_tests_158 : decode cX12_tests 158 = .ok (.if_icmp .ne 7, 3) := dX12_tests_138_k.2.2.2.2.2.2.2.2.2.2.2.2.2.2.1
theorem dX12_tests_161 : decode cX12_tests 161 = .ok (.iconst 1, 1) := dX12_tests_138_k.2.2.2.2.2.2.2.2.2.2.2.2.2.2.2
theorem dX12_tests_162_k : decode cX12_tests 162 = .ok (.goto 4, 3) ∧ decode cX12_tests 165 = .ok (.iconst 0, 1) ∧ decode cX12_tests 166 = .ok (.iadd, 1) ∧ decode cX12_tests 167 = .ok (.iastore, 1) ∧ decode cX12_tests 168 = .ok (.aload_n 0, 1) ∧ decode cX12_tests 169 = .ok (.getfield 7, 3) ∧ decode cX12_tests 172 = .ok (.bipush 32, 2) ∧ decode cX12_tests 174 = .ok (.iload_n 1, 1) ∧ decode cX12_tests 175 = .ok (.iastore, 1) ∧ decode cX12_tests 176 = .ok (.aload_n 0, 1) ∧ decode cX12_tests 177 = .ok (.getfield 7, 3) ∧ decode cX12_tests 180 = .ok (.bipush 30, 2) ∧ decode cX12_tests 182 = .ok (.dup2, 1) ∧ decode cX12_tests 183 = .ok (.iaload, 1) ∧ decode cX12_tests 184 = .ok (.iconst 1, 1) ∧ decode cX12_tests 185 = .ok (.iadd, 1) := by decide +kernel
theorem dX12_tests_162 : decode cX12_tests 162 = .ok (.goto 4, 3) := dX12_tests_162_k.1
theorem dX12_tests_165 : decode cX12_tests 165 = .ok (.iconst 0, 1) := dX12_tests_162_k.2.1
theorem dX12_tests_166 : decode cX12_tests 166 = .ok (.iadd, 1) := dX12_tests_162_k.2.2.1
theorem dX12_tests_167 : decode cX12_tests 167 = .ok (.iastore, 1) := dX12_tests_162_k.2.2.2.1
theorem dX12_tests_168 : decode cX12_tests 168 = .ok (.aload_n 0, 1) := dX12_tests_162_k.2.2.2.2.1
theorem dX12_tests_169 : decode cX12_tests 169 = .ok (.getfield 7, 3) := dX12_tests_162_k.2.2.2.2.2.1
theorem dX12_tests_172 : decode cX12_tests 172 = .ok (.bipush 32, 2) := dX12_tests_162_k.2.2.2.2.2.2.1
theorem dX12_tests_174 : decode cX12_tests 174 = .ok (.iload_n 1, 1) := dX12_tests_162_k.2.2.2.2.2.2.2.1
theorem dX12_tests_175 : decode cX12_tests 175 = .ok (.iastore, 1) := dX12_tests_162_k.2.2.2.2.2.2.2.2.1
theorem dX12_tests_176 : decode cX12_tests 176 = .ok (.aload_n 0, 1) := dX12_tests_162_k.2.2.2.2.2.2.2.2.2.1
theorem dX12_tests_177 : decode cX12_tests 177 = .ok (.getfield 7, 3) := dX12_tests_162_k.2.2.2.2.2.2.2.2.2.2.1
theorem dX12_tests_180 : decode cX12_tests 180 = .ok (.bipush 30, 2) := dX12_tests_162_k.2.2.2.2.2.2.2.2.2.2.2.1
theorem dX12_tests_182 : decode cX12_tests 182 = .ok (.dup2, 1) := dX12_tests_162_k.2.2.2.2.2.2.2.2.2.2.2.2.1
theorem dX12_tests_183 : decode cX12_tests 183 = .ok (.iaload, 1) := dX12_tests_162_k.2.2.2.2.2.2.2.2.2.2.2.2.2.1
theorem dX12_tests_184 : decode cX12_tests 184 = .ok (.iconst 1, 1) := dX12_tests_162_k.2.2.2.2.2.2.2.2.2.2.2.2.2.2.1
theorem dX12_tests_185 : decode cX12_tests 185 = .ok (.iadd, 1) := dX12_tests_162_k.2.2.2.2.2.2.2.2.2.2.2.2.2.2.2
theorem dX12_tests_186_k : decode cX12_tests 186 = .ok (.iastore, 1) ∧ decode cX12_tests 187 = .ok (.aload_n 0, 1) ∧ decode cX12_tests 188 = .ok (.getfield 7, 3) ∧ decode cX12_tests 191 = .ok (.bipush 31, 2) ∧ decode cX12_tests 193 = .ok (.iaload, 1) ∧ decode cX12_tests 194 = .ok (.aload_n 0, 1) ∧ decode cX12_tests 195 = .ok (.getfield 179, 3) ∧ decode cX12_tests 198 = .ok (.if_icmp .lt 7, 3) ∧ decode cX12_tests 201 = .ok (.iconst 1, 1) ∧ decode cX12_tests 202 = .ok (.goto 4, 3) ∧ decode cX12_tests 205 = .ok (.iconst 0, 1) ∧ decode cX12_tests 206 = .ok (.aload_n 0, 1) ∧ decode cX12_tests 207 = .ok (.getfield 7, 3) ∧ decode cX12_tests 210 = .ok (.bipush 34, 2) ∧ decode cX12_tests 212 = .ok (.iaload, 1) ∧ decode cX12_tests 213 = .ok (.aload_n 0, 1) := by decide +kernel
theorem dX12_tests_186 : decode cX12_tests 186 = .ok (.iastore, 1) := dX12_tests_186_k.1
theorem dX12_tests_187 : decode cX12_tests 187 = .ok (.aload_n 0, 1) := dX12_tests_186_k.2.1
theorem dX12_tests_188 : decode cX12_tests 188 = .ok (.getfield 7, 3) := dX12_tests_186_k.2.2.1
theorem dX12_tests_191 : decode cX12_tests 191 = .ok (.bipush 31, 2) := dX12_tests_186_k.2.2.2.1
theorem dX12_tests_193 : decode cX12_tests 193 = .ok (.iaload, 1) := dX12_tests_186_k.2.2.2.2.1
theorem dX12_tests_194 : decode cX12_tests 194 = .ok (.aload_n 0, 1) := dX12_tests_186_k.2.2.2.2.2.1
theorem dX12_tests_195 : decode cX12_tests 195 = .ok (.getfield 179, 3) := dX12_tests_186_k.2.2.2.2.2.2.1
theorem dX12_tests_198 : decode cX12_tests 198 = .ok (.if_icmp .lt 7, 3) := dX12_tests_186_k.2.2.2.2.2.2.2.1
theorem dX12_tests_201 : decode cX12_tests 201 = .ok (.iconst 1, 1) := dX12_tests_186_k.2.2.2.2.2.2.2.2.1
theorem dX12_tests_202 : decode cX12_tests 202 = .ok (.goto 4, 3) := dX12_tests_186_k.2.2.2.2.2.2.2.2.2.1
theorem dX12_tests_205 : decode cX12_tests 205 = .ok (.iconst 0, 1) := dX12_tests_186_k.2.2.2.2.2.2.2.2.2.2.1
theorem dX12_tests_206 : decode cX12_tests 206 = .ok (.aload_n 0, 1) := dX12_tests_186_k.2.2.2.2.2.2.2.2.2.2.2.1
theorem dX12_tests_207 : decode cX12_tests 207 = .ok (.getfield 7, 3) := dX12_tests_186_k.2.2.2.2.2.2.2.2.2.2.2.2.1
theorem dX12_tests_210 : decode cX12_tests 210 = .ok (.bipush 34, 2) := dX12_tests_186_k.2.2.2.2.2.2.2.2.2.2.2.2.2.1
theorem dX12_tests_212 : decode cX12_tests 212 = .ok (.iaload, 1) := dX12_tests_186_k.2.2.2.2.2.2.2.2.2.2.2.2.2.2.1
theorem dX12_tests_213 : decode cX12_tests 213 = .ok (.aload_n 0, 1) := dX12_tests_186_k.2.2.2.2.2.2.2.2.2.2.2.2.2.2.2
theorem dX12_tests_214_k : decode cX12_tests 214 = .ok (.getfield 182, 3) ∧ decode cX12_tests 217 = .ok (.if_icmp .lt 7, 3) ∧ decode cX12_tests 220 = .ok (.iconst 2, 1) ∧ decode cX12_tests 221 = .ok (.goto 4, 3) ∧ decode cX12_tests 224 = .ok (.iconst 0, 1) ∧ decode cX12_tests 225 = .ok (.iadd, 1) ∧ decode cX12_tests 226 = .ok (.aload_n 0, 1) ∧ decode cX12_tests 227 = .ok (.getfield 7, 3) ∧ decode cX12_tests 230 = .ok (.bipush 35, 2) ∧ decode cX12_tests 232 = .ok (.iaload, 1) ∧ decode cX12_tests 233 = .ok (.aload_n 0, 1) ∧ decode cX12_tests 234 = .ok (.getfield 185, 3) ∧ decode cX12_tests 237 = .ok (.if_icmp .lt 7, 3) ∧ decode cX12_tests 240 = .ok (.iconst 4, 1) ∧ decode cX12_tests 241 = .ok (.goto 4, 3) ∧ decode cX12_tests 244 = .ok (.iconst 0, 1) := by decide +kernel
theorem dX12_tests_214 : decode cX12_tests 214 = .ok (.getfield 182, 3) := dX12_tests_214_k.1
theorem dX12_tests_217 : decode cX12_tests 217 = .ok (.if_icmp .lt 7, 3) := dX12_tests_214_k.2.1
theorem dX12_tests_220 : decode cX12_tests 220 = .ok (.iconst 2, 1) := dX12_tests_214_k.2.2.1
theorem dX12_tests_221 : decode cX12_tests 221 = .ok (.goto 4, 3) := dX12_tests_214_k.2.2.2.1
theorem dX12_tests_224 : decode cX12_tests 224 = .ok (.iconst 0, 1) := dX12_tests_214_k.2.2.2.2.1
theorem dX12_tests_225 : decode cX12_tests 225 = .ok (.iadd, 1) := dX12_tests_214_k.2.2.2.2.2.1
theorem dX12_tests_226 : decode cX12_tests 226 = .ok (.aload_n 0, 1) := dX12_tests_214_k.2.2.2.2.2.2.1
theorem dX12_tests_227 : decode cX12_tests 227 = .ok (.getfield 7, 3) := dX12_tests_214_k.2.2.2.2.2.2.2.1
theorem dX12_tests_230 : decode cX12_tests 230 = .ok (.bipush 35, 2) := dX12_tests_214_k.2.2.2.2.2.2.2.2.1
theorem dX12_tests_232 : decode cX12_tests 232 = .ok (.iaload, 1) := dX12_tests_214_k.2.2.2.2.2.2.2.2.2.1
theorem dX12_tests_233 : decode cX12_tests 233 = .ok (.aload_n 0, 1) := dX12_tests_214_k.2.2.2.2.2.2.2.2.2.2.1
theorem dX12_tests_234 : decode cX12_tests 234 = .ok (.getfield 185, 3) := dX12_tests_214_k.2.2.2.2.2.2.2.2.2.2.2.1
theorem dX12_tests_237 : decode cX12_tests 237 = .ok (.if_icmp .lt 7, 3) := dX12_tests_214_k.2.2.2.2.2.2.2.2.2.2.2.2.1
theorem dX12_tests_240 : decode cX12_tests 240 = .ok (.iconst 4, 1) := dX12_tests_214_k.2.2.2.2.2.2.2.2.2.2.2.2.2.1
theorem dX12_tests_241 : decode cX12_tests 241 = .ok (.goto 4, 3) := dX12_tests_214_k.2.2.2.2.2.2.2.2.2.2.2.2.2.2.1
theorem dX12_tests_244 : decode cX12_tests 244 = .ok (.iconst 0, 1) := dX12_tests_214_k.2.2.2.2.2.2.2.2.2.2.2.2.2.2.2
theorem dX12_tests_245_k : decode cX12_tests 245 = .ok (.iadd, 1) ∧ decode cX12_tests 246 = .ok (.ireturn, 1) := by decide +kernel
theorem dX12_tests_245 : decode cX12_tests 245 = .ok (.iadd, 1) := dX12_tests_245_k.1
theorem dX12_tests_246 : decode cX12_tests 246 = .ok (.ireturn, 1) := dX12_tests_245_k.2
theorem dX12_pours_0_k : decode cX12_pours 0 = .ok (.aload_n 0, 1) ∧ decode cX12_pours 1 = .ok (.getfield 188, 3) ∧ decode cX12_pours 4 = .ok (.iconst 1, 1) ∧ decode cX12_pours 5 = .ok (.isub, 1) ∧ decode cX12_pours 6 = .ok (.istore_n 1, 1) ∧ decode cX12_pours 7 = .ok (.iload_n 1, 1) ∧ decode cX12_pours 8 = .ok (.ifCond .lt 84, 3) ∧ decode cX12_pours 11 = .ok (.aload_n 0, 1) ∧ decode cX12_pours 12 = .ok (.getfield 7, 3) ∧ decode cX12_pours 15 = .ok (.bipush 43, 2) ∧ decode cX12_pours 17 = .ok (.iaload, 1) ∧ decode cX12_pours 18 = .ok (.sipush 256, 3) ∧ decode cX12_pours 21 = .ok (.if_icmp .ne 17, 3) ∧ decode cX12_pours 24 = .ok (.aload_n 0, 1) ∧ decode cX12_pours 25 = .ok (.getfield 7, 3) ∧ decode cX12_pours 28 = .ok (.bipush 40, 2) := by decide +kernel
theorem dX12_pours_0 : decode cX12_pours 0 = .ok (.aload_n 0, 1) := dX12_pours_0_k.1
theorem dX12_pours_1 : decode cX12_pours 1 = .ok (.getfield 188, 3) := dX12_pours_0_k.2.1
theorem dX12_pours_4 : decode cX12_pours 4 = .ok (.iconst 1, 1) := dX12_pours_0_k.2.2.1
theorem dX12_pours_5 : decode cX12_pours 5 = .ok (.isub, 1) := dX12_pours_0_k.2.2.2.1
theorem dX12_pours_6 : decode cX12_pours 6 = .ok (.istore_n 1, 1) := dX12_pours_0_k.2.2.2.2.1
theorem dX12_pours_7 : decode cX12_pours 7 = .ok (.iload_n 1, 1) := dX12_pours_0_k.2.2.2.2.2.1
theorem dX12_pours_8 : decode cX12_pours 8 = .ok (.ifCond .lt 84, 3) := dX12_pours_0_k.2.2.2.2.2.2.1
theorem dX12_pours_11 : decode cX12_pours 11 = .ok (.aload_n 0, 1) := dX12_pours_0_k.2.2.2.2.2.2.2.1
theorem dX12_pours_12 : decode cX12_pours 12 = .ok (.getfield 7, 3) := dX12_pours_0_k.2.2.2.2.2.2.2.2.1
theorem dX12_pours_15 : decode cX12_pours 15 = .ok (.bipush 43, 2) := dX12_pours_0_k.2.2.2.2.2.2.2.2.2.1
theorem dX12_pours_17 : decode cX12_pours 17 = .ok (.iaload, 1) := dX12_pours_0_k.2.2.2.2.2.2.2.2.2.2.1
theorem dX12_pours_18 : decode cX12_pours 18 = .ok (.sipush 256, 3) := dX12_pours_0_k.2.2.2.2.2.2.2.2.2.2.2.1
theorem dX12_pours_21 : decode cX12_pours 21 = .ok (.if_icmp .ne 17, 3) := dX12_pours_0_k.2.2.2.2.2.2.2.2.2.2.2.2.1
theorem dX12_pours_24 : decode cX12_pours 24 = .ok (.aload_n 0, 1) := dX12_pours_0_k.2.2.2.2.2.2.2.2.2.2.2.2.2.1
theorem dX12_pours_25 : decode cX12_pours 25 = .ok (.getfield 7, 3) := dX12_pours_0_k.2.2.2.2.2.2.2.2.2.2.2.2.2.2.1
theorem dX12_pours_28 : decode cX12_pours 28 = .ok (.bipush 40, 2) := dX12_pours_0_k.2.2.2.2.2.2.2.2.2.2.2.2.2.2.2
theorem dX12_pours_30_k : decode cX12_pours 30 = .ok (.dup2, 1) ∧ decode cX12_pours 31 = .ok (.iaload, 1) ∧ decode cX12_pours 32 = .ok (.iconst 1, 1) ∧ decode cX12_pours 33 = .ok (.iadd, 1) ∧ decode cX12_pours 34 = .ok (.iastore, 1) ∧ decode cX12_pours 35 = .ok (.goto 51, 3) ∧ decode cX12_pours 38 = .ok (.aload_n 0, 1) ∧ decode cX12_pours 39 = .ok (.getfield 7, 3) ∧ decode cX12_pours 42 = .ok (.bipush 44, 2) ∧ decode cX12_pours 44 = .ok (.aload_n 0, 1) ∧ decode cX12_pours 45 = .ok (.getfield 7, 3) ∧ decode cX12_pours 48 = .ok (.bipush 43, 2) ∧ decode cX12_pours 50 = .ok (.iaload, 1) ∧ decode cX12_pours 51 = .ok (.iadd, 1) ∧ decode cX12_pours 52 = .ok (.aload_n 0, 1) ∧ decode cX12_pours 53 = .ok (.getfield 7, 3) := by decide +kernel
theorem dX12_pours_30 : decode cX12_pours 30 = .ok (.dup2, 1) := dX12_pours_30_k.1
theorem dX12_pours_31 : decode cX12_pours 31 = .ok (.iaload, 1) := dX12_pours_30_k.2.1
theorem dX12_pours_32 : decode cX12_pours 32 = .ok (.iconst 1, 1) := dX12_pours_30_k.2.2.1
theorem dX12_pours_33 : decode cX12_pours 33 = .ok (.iadd, 1) := dX12_pours_30_k.2.2.2.1
theorem dX12_pours_34 : decode cX12_pours 34 = .ok (.iastore, 1) := dX12_pours_30_k.2.2.2.2.1
theorem dX12_pours_35 : decode cX12_pours 35 = .ok (.goto 51, 3) := dX12_pours_30_k.2.2.2.2.2.1
theorem dX12_pours_38 : decode cX12_pours 38 = .ok (.aload_n 0, 1) := dX12_pours_30_k.2.2.2.2.2.2.1
theorem dX12_pours_39 : decode cX12_pours 39 = .ok (.getfield 7, 3) := dX12_pours_30_k.2.2.2.2.2.2.2.1
theorem dX12_pours_42 : decode cX12_pours 42 = .ok (.bipush 44, 2) := dX12_pours_30_k.2.2.2.2.2.2.2.2.1
theorem dX12_pours_44 : decode cX12_pours 44 = .ok (.aload_n 0, 1) := dX12_pours_30_k.2.2.2.2.2.2.2.2.2.1
theorem dX12_pours_45 : decode cX12_pours 45 = .ok (.getfield 7, 3) := dX12_pours_30_k.2.2.2.2.2.2.2.2.2.2.1
theorem dX12_pours_48 : decode cX12_pours 48 = .ok (.bipush 43, 2) := dX12_pours_30_k.2.2.2.2.2.2.2.2.2.2.2.1
theorem dX12_pours_50 : decode cX12_pours 50 = .ok (.iaload, 1) := dX12_pours_30_k.2.2.2.2.2.2.2.2.2.2.2.2.1
theorem dX12_pours_51 : decode cX12_pours 51 = .ok (.iadd, 1) := dX12_pours_30_k.2.2.2.2.2.2.2.2.2.2.2.2.2.1
theorem dX12_pours_52 : decode cX12_pours 52 = .ok (.aload_n 0, 1) := dX12_pours_30_k.2.2.2.2.2.2.2.2.2.2.2.2.2.2.1
theorem dX12_pours_53 : decode cX12_pours 53 = .ok (.getfield 7, 3) := dX12_pours_30_k.2.2.2.2.2.2.2.2.2.2.2.2.2.2.2
theorem dX12_pours_56_k : decode cX12_pours 56 = .ok (.bipush 38, 2) ∧ decode cX12_pours 58 = .ok (.iaload, 1) ∧ decode cX12_pours 59 = .ok (.iload_n 1, 1) ∧ decode cX12_pours 60 = .ok (.ishr, 1) ∧ decode cX12_pours 61 = .ok (.iconst 1, 1) ∧ decode cX12_pours 62 = .ok (.iand, 1) ∧ decode cX12_pours 63 = .ok (.iastore, 1) ∧ decode cX12_pours 64 = .ok (.aload_n 0, 1) ∧ decode cX12_pours 65 = .ok (.getfield 7, 3) ∧ decode cX12_pours 68 = .ok (.bipush 43, 2) ∧ decode cX12_pours 70 = .ok (.dup2, 1) ∧ decode cX12_pours 71 = .ok (.iaload, 1) ∧ decode cX12_pours 72 = .ok (.iconst 1, 1) ∧ decode cX12_pours 73 = .ok (.iadd, 1) ∧ decode cX12_pours 74 = .ok (.iastore, 1) ∧ decode cX12_pours 75 = .ok (.aload_n 0, 1) := by decide +kernel
theorem dX12_pours_56 : decode cX12_pours 56 = .ok (.bipush 38, 2) := dX12_pours_56_k.1
theorem dX12_pours_58 : decode cX12_pours 58 = .ok (.iaload, 1) := dX12_pours_56_k.2.1
theorem dX12_pours_59 : decode cX12_pours 59 = .ok (.iload_n 1, 1) := dX12_pours_56_k.2.2.1
theorem dX12_pours_60 : decode cX12_pours 60 = .ok (.ishr, 1) := dX12_pours_56_k.2.2.2.1
theorem dX12_pours_61 : decode cX12_pours 61 = .ok (.iconst 1, 1) := dX12_pours_56_k.2.2.2.2.1
theorem dX12_pours_62 : decode cX12_pours 62 = .ok (.iand, 1) := dX12_pours_56_k.2.2.2.2.2.1
theorem dX12_pours_63 : decode cX12_pours 63 = .ok (.iastore, 1) := dX12_pours_56_k.2.2.2.2.2.2.1
theorem dX12_pours_64 : decode cX12_pours 64 = .ok (.aload_n 0, 1) := dX12_pours_56_k.2.2.2.2.2.2.2.1
theorem dX12_pours_65 : decode cX12_pours 65 = .ok (.getfield 7, 3) := dX12_pours_56_k.2.2.2.2.2.2.2.2.1
theorem dX12_pours_68 : decode cX12_pours 68 = .ok (.bipush 43, 2) := dX12_pours_56_k.2.2.2.2.2.2.2.2.2.1
theorem dX12_pours_70 : decode cX12_pours 70 = .ok (.dup2, 1) := dX12_pours_56_k.2.2.2.2.2.2.2.2.2.2.1
theorem dX12_pours_71 : decode cX12_pours 71 = .ok (.iaload, 1) := dX12_pours_56_k.2.2.2.2.2.2.2.2.2.2.2.1
theorem dX12_pours_72 : decode cX12_pours 72 = .ok (.iconst 1, 1) := dX12_pours_56_k.2.2.2.2.2.2.2.2.2.2.2.2.1
theorem dX12_pours_73 : decode cX12_pours 73 = .ok (.iadd, 1) := dX12_pours_56_k.2.2.2.2.2.2.2.2.2.2.2.2.2.1
theorem dX12_pours_74 : decode cX12_pours 74 = .ok (.iastore, 1) := dX12_pours_56_k.2.2.2.2.2.2.2.2.2.2.2.2.2.2.1
theorem dX12_pours_75 : decode cX12_pours 75 = .ok (.aload_n 0, 1) := dX12_pours_56_k.2.2.2.2.2.2.2.2.2.2.2.2.2.2.2
theorem dX12_pours_76_k : decode cX12_pours 76 = .ok (.getfield 7, 3) ∧ decode cX12_pours 79 = .ok (.bipush 39, 2) ∧ decode cX12_pours 81 = .ok (.dup2, 1) ∧ decode cX12_pours 82 = .ok (.iaload, 1) ∧ decode cX12_pours 83 = .ok (.iconst 1, 1) ∧ decode cX12_pours 84 = .ok (.iadd, 1) ∧ decode cX12_pours 85 = .ok (.iastore, 1) ∧ decode cX12_pours 86 = .ok (.iinc 1 (-1), 3) ∧ decode cX12_pours 89 = .ok (.goto (-82), 3) ∧ decode cX12_pours 92 = .ok (.aload_n 0, 1) ∧ decode cX12_pours 93 = .ok (.getfield 7, 3) ∧ decode cX12_pours 96 = .ok (.bipush 37, 2) ∧ decode cX12_pours 98 = .ok (.iconst 0, 1) ∧ decode cX12_pours 99 = .ok (.iastore, 1) ∧ decode cX12_pours 100 = .ok (.aload_n 0, 1) ∧ decode cX12_pours 101 = .ok (.getfield 7, 3) := by decide +kernel
theorem dX12_pours_76 : decode cX12_pours 76 = .ok (.getfield 7, 3) := dX12_pours_76_k.1
theorem dX12_pours_79 : decode cX12_pours 79 = .ok (.bipush 39, 2) := dX12_pours_76_k.2.1
theorem dX12_pours_81 : decode cX12_pours 81 = .ok (.dup2, 1) := dX12_pours_76_k.2.2.1
theorem dX12_pours_82 : decode cX12_pours 82 = .ok (.iaload, 1) := dX12_pours_76_k.2.2.2.1
theorem dX12_pours_83 : decode cX12_pours 83 = .ok (.iconst 1, 1) := dX12_pours_76_k.2.2.2.2.1
theorem dX12_pours_84 : decode cX12_pours 84 = .ok (.iadd, 1) := dX12_pours_76_k.2.2.2.2.2.1
theorem dX12_pours_85 : decode cX12_pours 85 = .ok (.iastore, 1) := dX12_pours_76_k.2.2.2.2.2.2.1
theorem dX12_pours_86 : decode cX12_pours 86 = .ok (.iinc 1 (-1), 3) := dX12_pours_76_k.2.2.2.2.2.2.2.1
theorem dX12_pours_89 : decode cX12_pours 89 = .ok (.goto (-82), 3) := dX12_pours_76_k.2.2.2.2.2.2.2.2.1
theorem dX12_pours_92 : decode cX12_pours 92 = .ok (.aload_n 0, 1) := dX12_pours_76_k.2.2.2.2.2.2.2.2.2.1
theorem dX12_pours_93 : decode cX12_pours 93 = .ok (.getfield 7, 3) := dX12_pours_76_k.2.2.2.2.2.2.2.2.2.2.1
theorem dX12_pours_96 : decode cX12_pours 96 = .ok (.bipush 37, 2) := dX12_pours_76_k.2.2.2.2.2.2.2.2.2.2.2.1
theorem dX12_pours_98 : decode cX12_pours 98 = .ok (.iconst 0, 1) := dX12_pours_76_k.2.2.2.2.2.2.2.2.2.2.2.2.1
theorem dX12_pours_99 : decode cX12_pours 99 = .ok (.iastore, 1) := dX12_pours_76_k.2.2.2.2.2.2.2.2.2.2.2.2.2.1
theorem dX12_pours_100 : decode cX12_pours 100 = .ok (.aload_n 0, 1) := dX12_pours_76_k.2.2.2.2.2.2.2.2.2.2.2.2.2.2.1
theorem dX12_pours_101 : decode cX12_pours 101 = .ok (.getfield 7, 3) := dX12_pours_76_k.2.2.2.2.2.2.2.2.2.2.2.2.2.2.2
theorem dX12_pours_104_k : decode cX12_pours 104 = .ok (.bipush 38, 2) ∧ decode cX12_pours 106 = .ok (.iconst 0, 1) ∧ decode cX12_pours 107 = .ok (.iastore, 1) ∧ decode cX12_pours 108 = .ok (.return_, 1) := by decide +kernel
theorem dX12_pours_104 : decode cX12_pours 104 = .ok (.bipush 38, 2) := dX12_pours_104_k.1
theorem dX12_pours_106 : decode cX12_pours 106 = .ok (.iconst 0, 1) := dX12_pours_104_k.2.1
theorem dX12_pours_107 : decode cX12_pours 107 = .ok (.iastore, 1) := dX12_pours_104_k.2.2.1
theorem dX12_pours_108 : decode cX12_pours 108 = .ok (.return_, 1) := dX12_pours_104_k.2.2.2
theorem dX12_blocks_0_k : decode cX12_blocks 0 = .ok (.aload_n 0, 1) ∧ decode cX12_blocks 1 = .ok (.getfield 7, 3) ∧ decode cX12_blocks 4 = .ok (.bipush 38, 2) ∧ decode cX12_blocks 6 = .ok (.iaload, 1) ∧ decode cX12_blocks 7 = .ok (.bipush 15, 2) ∧ decode cX12_blocks 9 = .ok (.ishr, 1) ∧ decode cX12_blocks 10 = .ok (.iconst 1, 1) ∧ decode cX12_blocks 11 = .ok (.iand, 1) ∧ decode cX12_blocks 12 = .ok (.iload_n 1, 1) ∧ decode cX12_blocks 13 = .ok (.if_icmp .eq 7, 3) ∧ decode cX12_blocks 16 = .ok (.iconst 1, 1) ∧ decode cX12_blocks 17 = .ok (.goto 4, 3) ∧ decode cX12_blocks 20 = .ok (.iconst 0, 1) ∧ decode cX12_blocks 21 = .ok (.istore_n 2, 1) ∧ decode cX12_blocks 22 = .ok (.aload_n 0, 1) ∧ decode cX12_blocks 23 = .ok (.getfield 7, 3) := by decide +kernel
theorem dX12_blocks_0 : decode cX12_blocks 0 = .ok (.aload_n 0, 1) := dX12_blocks_0_k.1
theorem dX12_blocks_1 : decode cX12_blocks 1 = .ok (.getfield 7, 3) := dX12_blocks_0_k.2.1
theorem dX12_blocks_4 : decode cX12_blocks 4 = .ok (.bipush 38, 2) := dX12_blocks_0_k.2.2.1
theorem dX12_blocks_6 : decode cX12_blocks 6 = .ok (.iaload, 1) := dX12_blocks_0_k.2.2.2.1
theorem dX12_blocks_7 : decode cX12_blocks 7 = .ok (.bipush 15, 2) := dX12_blocks_0_k.2.2.2.2.1
theorem dX12_blocks_9 : decode cX12_blocks 9 = .ok (.ishr, 1) := dX12_blocks_0_k.2.2.2.2.2.1
theorem dX12_blocks_10 : decode cX12_blocks 10 = .ok (.iconst 1, 1) := dX12_blocks_0_k.2.2.2.2.2.2.1
theorem dX12_blocks_11 : decode cX12_blocks 11 = .ok (.iand, 1) := dX12_blocks_0_k.2.2.2.2.2.2.2.1
theorem dX12_blocks_12 : decode cX12_blocks 12 = .ok (.iload_n 1, 1) := dX12_blocks_0_k.2.2.2.2.2.2.2.2.1
theorem dX12_blocks_13 : decode cX12_blocks 13 = .ok (.if_icmp .eq 7, 3) := dX12_blocks_0_k.2.2.2.2.2.2.2.2.2.1
theorem dX12_blocks_16 : decode cX12_blocks 16 = .ok (.iconst 1, 1) := dX12_blocks_0_k.2.2.2.2.2.2.2.2.2.2.1
theorem dX12_blocks_17 : decode cX12_blocks 17 = .ok (.goto 4, 3) := dX12_blocks_0_k.2.2.2.2.2.2.2.2.2.2.2.1
theorem dX12_blocks_20 : decode cX12_blocks 20 = .ok (.iconst 0, 1) := dX12_blocks_0_k.2.2.2.2.2.2.2.2.2.2.2.2.1
theorem dX12_blocks_21 : decode cX12_blocks 21 = .ok (.istore_n 2, 1) := dX12_blocks_0_k.2.2.2.2.2.2.2.2.2.2.2.2.2.1
theorem dX12_blocks_22 : decode cX12_blocks 22 = .ok (.aload_n 0, 1) := dX12_blocks_0_k.2.2.2.2.2.2.2.2.2.2.2.2.2.2.1
theorem dX12_blocks_23 : decode cX12_blocks 23 = .ok (.getfield 7, 3) := dX12_blocks_0_k.2.2.2.2.2.2.2.2.2.2.2.2.2.2.2
theorem dX12_blocks_26_k : decode cX12_blocks 26 = .ok (.bipush 38, 2) ∧ decode cX12_blocks 28 = .ok (.iaload, 1) ∧ decode cX12_blocks 29 = .ok (.iconst 1, 1) ∧ decode cX12_blocks 30 = .ok (.ishl, 1) ∧ decode cX12_blocks 31 = .ok (.ldc 197, 2) ∧ decode cX12_blocks 33 = .ok (.iand, 1) ∧ decode cX12_blocks 34 = .ok (.istore_n 3, 1) ∧ decode cX12_blocks 35 = .ok (.aload_n 0, 1) ∧ decode cX12_blocks 36 = .ok (.getfield 7, 3) ∧ decode cX12_blocks 39 = .ok (.bipush 38, 2) ∧ decode cX12_blocks 41 = .ok (.iload_n 2, 1) ∧ decode cX12_blocks 42 = .ok (.ifCond .eq 11, 3) ∧ decode cX12_blocks 45 = .ok (.iload_n 3, 1) ∧ decode cX12_blocks 46 = .ok (.sipush 4129, 3) ∧ decode cX12_blocks 49 = .ok (.ixor, 1) ∧ decode cX12_blocks 50 = .ok (.goto 4, 3) := by decide +kernel
theorem dX12_blocks_26 : decode cX12_blocks 26 = .ok (.bipush 38, 2) := dX12_blocks_26_k.1
theorem dX12_blocks_28 : decode cX12_blocks 28 = .ok (.iaload, 1) := dX12_blocks_26_k.2.1
theorem dX12_blocks_29 : decode cX12_blocks 29 = .ok (.iconst 1, 1) := dX12_blocks_26_k.2.2.1
theorem dX12_blocks_30 : decode cX12_blocks 30 = .ok (.ishl, 1) := dX12_blocks_26_k.2.2.2.1
theorem dX12_blocks_31 : decode cX12_blocks 31 = .ok (.ldc 197, 2) := dX12_blocks_26_k.2.2.2.2.1
theorem dX12_blocks_33 : decode cX12_blocks 33 = .ok (.iand, 1) := dX12_blocks_26_k.2.2.2.2.2.1
theorem dX12_blocks_34 : decode cX12_blocks 34 = .ok (.istore_n 3, 1) := dX12_blocks_26_k.2.2.2.2.2.2.1
theorem dX12_blocks_35 : decode cX12_blocks 35 = .ok (.aload_n 0, 1) := dX12_blocks_26_k.2.2.2.2.2.2.2.1
theorem dX12_blocks_36 : decode cX12_blocks 36 = .ok (.getfield 7, 3) := dX12_blocks_26_k.2.2.2.2.2.2.2.2.1
theorem dX12_blocks_39 : decode cX12_blocks 39 = .ok (.bipush 38, 2) := dX12_blocks_26_k.2.2.2.2.2.2.2.2.2.1
theorem dX12_blocks_41 : decode cX12_blocks 41 = .ok (.iload_n 2, 1) := dX12_blocks_26_k.2.2.2.2.2.2.2.2.2.2.1
theorem dX12_blocks_42 : decode cX12_blocks 42 = .ok (.ifCond .eq 11, 3) := dX12_blocks_26_k.2.2.2.2.2.2.2.2.2.2.2.1
theorem dX12_blocks_45 : decode cX12_blocks 45 = .ok (.iload_n 3, 1) := dX12_blocks_26_k.2.2.2.2.2.2.2.2.2.2.2.2.1
theorem dX12_blocks_46 : decode cX12_blocks 46 = .ok (.sipush 4129, 3) := dX12_blocks_26_k.2.2.2.2.2.2.2.2.2.2.2.2.2.1
theorem dX12_blocks_49 : decode cX12_blocks 49 = .ok (.ixor, 1) := dX12_blocks_26_k.2.2.2.2.2.2.2.2.2.2.2.2.2.2.1
theorem dX12_blocks_50 : decode cX12_blocks 50 = .ok (.goto 4, 3) := dX12_blocks_26_k.2.2.2.2.2.2.2.2.2.2.2.2.2.2.2
theorem dX12_blocks_53_k : decode cX12_blocks 53 = .ok (.iload_n 3, 1) ∧ decode cX12_blocks 54 = .ok (.iastore, 1) ∧ decode cX12_blocks 55 = .ok (.aload_n 0, 1) ∧ decode cX12_blocks 56 = .ok (.getfield 7, 3) ∧ decode cX12_blocks 59 = .ok (.bipush 37, 2) ∧ decode cX12_blocks 61 = .ok (.dup2, 1) ∧ decode cX12_blocks 62 = .ok (.iaload, 1) ∧ decode cX12_blocks 63 = .ok (.iconst 1, 1) ∧ decode cX12_blocks 64 = .ok (.iadd, 1) ∧ decode cX12_blocks 65 = .ok (.iastore, 1) ∧ decode cX12_blocks 66 = .ok (.aload_n 0, 1) ∧ decode cX12_blocks 67 = .ok (.getfield 7, 3) ∧ decode cX12_blocks 70 = .ok (.bipush 37, 2) ∧ decode cX12_blocks 72 = .ok (.iaload, 1) ∧ decode cX12_blocks 73 = .ok (.aload_n 0, 1) ∧ decode cX12_blocks 74 = .ok (.getfield 7, 3) := by decide +kernel
theorem dX12_blocks_53 : decode cX12_blocks 53 = .ok (.iload_n 3, 1) := dX12_blocks_53_k.1
theorem dX12_blocks_54 : decode cX12_blocks 54 = .ok (.iastore, 1) := dX12_blocks_53_k.2.1
theorem dX12_blocks_55 : decode cX12_blocks 55 = .ok (.aload_n 0, 1) := dX12_blocks_53_k.2.2.1
theorem dX12_blocks_56 : decode cX12_blocks 56 = .ok (.getfield 7, 3) := dX12_blocks_53_k.2.2.2.1
theorem dX12_blocks_59 : decode cX12_blocks 59 = .ok (.bipush 37, 2) := dX12_blocks_53_k.2.2.2.2.1
theorem dX12_blocks_61 : decode cX12_blocks 61 = .ok (.dup2, 1) := dX12_blocks_53_k.2.2.2.2.2.1
theorem dX12_blocks_62 : decode cX12_blocks 62 = .ok (.iaload, 1) := dX12_blocks_53_k.2.2.2.2.2.2.1
theorem dX12_blocks_63 : decode cX12_blocks 63 = .ok (.iconst 1, 1) := dX12_blocks_53_k.2.2.2.2.2.2.2.1
theorem dX12_blocks_64 : decode cX12_blocks 64 = .ok (.iadd, 1) := dX12_blocks_53_k.2.2.2.2.2.2.2.2.1
theorem dX12_blocks_65 : decode cX12_blocks 65 = .ok (.iastore, 1) := dX12_blocks_53_k.2.2.2.2.2.2.2.2.2.1
theorem dX12_blocks_66 : decode cX12_blocks 66 = .ok (.aload_n 0, 1) := dX12_blocks_53_k.2.2.2.2.2.2.2.2.2.2.1
theorem dX12_blocks_67 : decode cX12_blocks 67 = .ok (.getfield 7, 3) := dX12_blocks_53_k.2.2.2.2.2.2.2.2.2.2.2.1
theorem dX12_blocks_70 : decode cX12_blocks 70 = .ok (.bipush 37, 2) := dX12_blocks_53_k.2.2.2.2.2.2.2.2.2.2.2.2.1
theorem dX12_blocks_72 : decode cX12_blocks 72 = .ok (.iaload, 1) := dX12_blocks_53_k.2.2.2.2.2.2.2.2.2.2.2.2.2.1
theorem dX12_blocks_73 : decode cX12_blocks 73 = .ok (.aload_n 0, 1) := dX12_blocks_53_k.2.2.2.2.2.2.2.2.2.2.2.2.2.2.1
theorem dX12_blocks_74 : decode cX12_blocks 74 = .ok (.getfield 7, 3) := dX12_blocks_53_k.2.2.2.2.2.2.2.2.2.2.2.2.2.2.2
theorem dX12_blocks_77_k : decode cX12_blocks 77 = .ok (.iconst 4, 1) ∧ decode cX12_blocks 78 = .ok (.iaload, 1) ∧ decode cX12_blocks 79 = .ok (.if_icmp .ne 7, 3) ∧ decode cX12_blocks 82 = .ok (.aload_n 0, 1) ∧ decode cX12_blocks 83 = .ok (.invokevirtual 198, 3) ∧ decode cX12_blocks 86 = .ok (.return_, 1) := by decide +kernel
theorem dX12_blocks_77 : decode cX12_blocks 77 = .ok (.iconst 4, 1) := dX12_blocks_77_k.1
theorem dX12_blocks_78 : decode cX12_blocks 78 = .ok (.iaload, 1) := dX12_blocks_77_k.2.1
theorem dX12_blocks_79 : decode cX12_blocks 79 = .ok (.if_icmp .ne 7, 3) := dX12_blocks_77_k.2.2.1
theorem dX12_blocks_82 : decode cX12_blocks 82 = .ok (.aload_n 0, 1) := dX12_blocks_77_k.2.2.2.1
theorem dX12_blocks_83 : decode cX12_blocks 83 = .ok (.invokevirtual 198, 3) := dX12_blocks_77_k.2.2.2.2.1
theorem dX12_blocks_86 : decode cX12_blocks 86 = .ok (.return_, 1) := dX12_blocks_77_k.2.2.2.2.2
theorem dX12_hears_0_k : decode cX12_hears 0 = .ok (.aload_n 0, 1) ∧ decode cX12_hears 1 = .ok (.getfield 7, 3) ∧ decode cX12_hears 4 = .ok (.bipush 25, 2) ∧ decode cX12_hears 6 = .ok (.iaload, 1) ∧ decode cX12_hears 7 = .ok (.ifCond .eq 14, 3) ∧ decode cX12_hears 10 = .ok (.aload_n 0, 1) ∧ decode cX12_hears 11 = .ok (.getfield 7, 3) ∧ decode cX12_hears 14 = .ok (.bipush 25, 2) ∧ decode cX12_hears 16 = .ok (.iaload, 1) ∧ decode cX12_hears 17 = .ok (.iconst 3, 1) ∧ decode cX12_hears 18 = .ok (.if_icmp .ne 5, 3) ∧ decode cX12_hears 21 = .ok (.iconst 0, 1) ∧ decode cX12_hears 22 = .ok (.ireturn, 1) ∧ decode cX12_hears 23 = .ok (.aload_n 0, 1) ∧ decode cX12_hears 24 = .ok (.getfield 7, 3) ∧ decode cX12_hears 27 = .ok (.bipush 25, 2) := by decide +kernel
theorem dX12_hears_0 : decode cX12_hears 0 = .ok (.aload_n 0, 1) := dX12_hears_0_k.1
theorem dX12_hears_1 : decode cX12_hears 1 = .ok (.getfield 7, 3) := dX12_hears_0_k.2.1
theorem dX12_hears_4 : decode cX12_hears 4 = .ok (.bipush 25, 2) := dX12_hears_0_k.2.2.1
theorem dX12_hears_6 : decode cX12_hears 6 = .ok (.iaload, 1) := dX12_hears_0_k.2.2.2.1
theorem dX12_hears_7 : decode cX12_hears 7 = .ok (.ifCond .eq 14, 3) := dX12_hears_0_k.2.2.2.2.1
theorem dX12_hears_10 : decode cX12_hears 10 = .ok (.aload_n 0, 1) := dX12_hears_0_k.2.2.2.2.2.1
theorem dX12_hears_11 : decode cX12_hears 11 = .ok (.getfield 7, 3) := dX12_hears_0_k.2.2.2.2.2.2.1
theorem dX12_hears_14 : decode cX12_hears 14 = .ok (.bipush 25, 2) := dX12_hears_0_k.2.2.2.2.2.2.2.1
theorem dX12_hears_16 : decode cX12_hears 16 = .ok (.iaload, 1) := dX12_hears_0_k.2.2.2.2.2.2.2.2.1
theorem dX12_hears_17 : decode cX12_hears 17 = .ok (.iconst 3, 1) := dX12_hears_0_k.2.2.2.2.2.2.2.2.2.1
theorem dX12_hears_18 : decode cX12_hears 18 = .ok (.if_icmp .ne 5, 3) := dX12_hears_0_k.2.2.2.2.2.2.2.2.2.2.1
theorem dX12_hears_21 : decode cX12_hears 21 = .ok (.iconst 0, 1) := dX12_hears_0_k.2.2.2.2.2.2.2.2.2.2.2.1
theorem dX12_hears_22 : decode cX12_hears 22 = .ok (.ireturn, 1) := dX12_hears_0_k.2.2.2.2.2.2.2.2.2.2.2.2.1
theorem dX12_hears_23 : decode cX12_hears 23 = .ok (.aload_n 0, 1) := dX12_hears_0_k.2.2.2.2.2.2.2.2.2.2.2.2.2.1
theorem dX12_hears_24 : decode cX12_hears 24 = .ok (.getfield 7, 3) := dX12_hears_0_k.2.2.2.2.2.2.2.2.2.2.2.2.2.2.1
theorem dX12_hears_27 : decode cX12_hears 27 = .ok (.bipush 25, 2) := dX12_hears_0_k.2.2.2.2.2.2.2.2.2.2.2.2.2.2.2
theorem dX12_hears_29_k : decode cX12_hears 29 = .ok (.iaload, 1) ∧ decode cX12_hears 30 = .ok (.iconst 2, 1) ∧ decode cX12_hears 31 = .ok (.if_icmp .ne 7, 3) ∧ decode cX12_hears 34 = .ok (.iconst 1, 1) ∧ decode cX12_hears 35 = .ok (.goto 4, 3) ∧ decode cX12_hears 38 = .ok (.iconst 0, 1) ∧ decode cX12_hears 39 = .ok (.istore_n 2, 1) ∧ decode cX12_hears 40 = .ok (.aload_n 0, 1) ∧ decode cX12_hears 41 = .ok (.getfield 7, 3) ∧ decode cX12_hears 44 = .ok (.bipush 29, 2) ∧ decode cX12_hears 46 = .ok (.dup2, 1) ∧ decode cX12_hears 47 = .ok (.iaload, 1) ∧ decode cX12_hears 48 = .ok (.iconst 1, 1) ∧ decode cX12_hears 49 = .ok (.iadd, 1) ∧ decode cX12_hears 50 = .ok (.iastore, 1) ∧ decode cX12_hears 51 = .ok (.aload_n 0, 1) := by decide +kernel
theorem dX12_hears_29 : decode cX12_hears 29 = .ok (.iaload, 1) := dX12_hears_29_k.1
theorem dX12_hears_30 : decode cX12_hears 30 = .ok (.iconst 2, 1) := dX12_hears_29_k.2.1
theorem dX12_hears_31 : decode cX12_hears 31 = .ok (.if_icmp .ne 7, 3) := dX12_hears_29_k.2.2.1
theorem dX12_hears_34 : decode cX12_hears 34 = .ok (.iconst 1, 1) := dX12_hears_29_k.2.2.2.1
theorem dX12_hears_35 : decode cX12_hears 35 = .ok (.goto 4, 3) := dX12_hears_29_k.2.2.2.2.1
theorem dX12_hears_38 : decode cX12_hears 38 = .ok (.iconst 0, 1) := dX12_hears_29_k.2.2.2.2.2.1
theorem dX12_hears_39 : decode cX12_hears 39 = .ok (.istore_n 2, 1) := dX12_hears_29_k.2.2.2.2.2.2.1
theorem dX12_hears_40 : decode cX12_hears 40 = .ok (.aload_n 0, 1) := dX12_hears_29_k.2.2.2.2.2.2.2.1
theorem dX12_hears_41 : decode cX12_hears 41 = .ok (.getfield 7, 3) := dX12_hears_29_k.2.2.2.2.2.2.2.2.1
theorem dX12_hears_44 : decode cX12_hears 44 = .ok (.bipush 29, 2) := dX12_hears_29_k.2.2.2.2.2.2.2.2.2.1
theorem dX12_hears_46 : decode cX12_hears 46 = .ok (.dup2, 1) := dX12_hears_29_k.2.2.2.2.2.2.2.2.2.2.1
theorem dX12_hears_47 : decode cX12_hears 47 = .ok (.iaload, 1) := dX12_hears_29_k.2.2.2.2.2.2.2.2.2.2.2.1
theorem dX12_hears_48 : decode cX12_hears 48 = .ok (.iconst 1, 1) := dX12_hears_29_k.2.2.2.2.2.2.2.2.2.2.2.2.1
theorem dX12_hears_49 : decode cX12_hears 49 = .ok (.iadd, 1) := dX12_hears_29_k.2.2.2.2.2.2.2.2.2.2.2.2.2.1
theorem dX12_hears_50 : decode cX12_hears 50 = .ok (.iastore, 1) := dX12_hears_29_k.2.2.2.2.2.2.2.2.2.2.2.2.2.2.1
theorem dX12_hears_51 : decode cX12_hears 51 = .ok (.aload_n 0, 1) := dX12_hears_29_k.2.2.2.2.2.2.2.2.2.2.2.2.2.2.2
theorem dX12_hears_52_k : decode cX12_hears 52 = .ok (.iload_n 1, 1) ∧ decode cX12_hears 53 = .ok (.invokevirtual 201, 3) ∧ decode cX12_hears 56 = .ok (.aload_n 0, 1) ∧ decode cX12_hears 57 = .ok (.iload_n 1, 1) ∧ decode cX12_hears 58 = .ok (.invokevirtual 205, 3) ∧ decode cX12_hears 61 = .ok (.aload_n 0, 1) ∧ decode cX12_hears 62 = .ok (.iload_n 1, 1) ∧ decode cX12_hears 63 = .ok (.invokevirtual 208, 3) ∧ decode cX12_hears 66 = .ok (.istore_n 3, 1) ∧ decode cX12_hears 67 = .ok (.iload_n 3, 1) ∧ decode cX12_hears 68 = .ok (.ifCond .le 36, 3) ∧ decode cX12_hears 71 = .ok (.aload_n 0, 1) ∧ decode cX12_hears 72 = .ok (.getfield 7, 3) ∧ decode cX12_hears 75 = .ok (.bipush 26, 2) ∧ decode cX12_hears 77 = .ok (.iload_n 3, 1) ∧ decode cX12_hears 78 = .ok (.iastore, 1) := by decide +kernel
theorem dX12_hears_52 : decode cX12_hears 52 = .ok (.iload_n 1, 1) := dX12_hears_52_k.1
theorem dX12_hears_53 : decode cX12_hears 53 = .ok (.invokevirtual 201, 3) := dX12_hears_52_k.2.1
theorem dX12_hears_56 : decode cX12_hears 56 = .ok (.aload_n 0, 1) := dX12_hears_52_k.2.2.1
theorem dX12_hears_57 : decode cX12_hears 57 = .ok (.iload_n 1, 1) := dX12_hears_52_k.2.2.2.1
theorem dX12_hears_58 : decode cX12_hears 58 = .ok (.invokevirtual 205, 3) := dX12_hears_52_k.2.2.2.2.1
theorem dX12_hears_61 : decode cX12_hears 61 = .ok (.aload_n 0, 1) := dX12_hears_52_k.2.2.2.2.2.1
theorem dX12_hears_62 : decode cX12_hears 62 = .ok (.iload_n 1, 1) := dX12_hears_52_k.2.2.2.2.2.2.1
theorem dX12_hears_63 : decode cX12_hears 63 = .ok (.invokevirtual 208, 3) := dX12_hears_52_k.2.2.2.2.2.2.2.1
theorem dX12_hears_66 : decode cX12_hears 66 = .ok (.istore_n 3, 1) := dX12_hears_52_k.2.2.2.2.2.2.2.2.1
theorem dX12_hears_67 : decode cX12_hears 67 = .ok (.iload_n 3, 1) := dX12_hears_52_k.2.2.2.2.2.2.2.2.2.1
theorem dX12_hears_68 : decode cX12_hears 68 = .ok (.ifCond .le 36, 3) := dX12_hears_52_k.2.2.2.2.2.2.2.2.2.2.1
theorem dX12_hears_71 : decode cX12_hears 71 = .ok (.aload_n 0, 1) := dX12_hears_52_k.2.2.2.2.2.2.2.2.2.2.2.1
theorem dX12_hears_72 : decode cX12_hears 72 = .ok (.getfield 7, 3) := dX12_hears_52_k.2.2.2.2.2.2.2.2.2.2.2.2.1
theorem dX12_hears_75 : decode cX12_hears 75 = .ok (.bipush 26, 2) := dX12_hears_52_k.2.2.2.2.2.2.2.2.2.2.2.2.2.1
theorem dX12_hears_77 : decode cX12_hears 77 = .ok (.iload_n 3, 1) := dX12_hears_52_k.2.2.2.2.2.2.2.2.2.2.2.2.2.2.1
theorem dX12_hears_78 : decode cX12_hears 78 = .ok (.iastore, 1) := dX12_hears_52_k.2.2.2.2.2.2.2.2.2.2.2.2.2.2.2
theorem dX12_hears_79_k : decode cX12_hears 79 = .ok (.aload_n 0, 1) ∧ decode cX12_hears 80 = .ok (.getfield 7, 3) ∧ decode cX12_hears 83 = .ok (.bipush 27, 2) ∧ decode cX12_hears 85 = .ok (.dup2, 1) ∧ decode cX12_hears 86 = .ok (.iaload, 1) ∧ decode cX12_hears 87 = .ok (.iconst 1, 1) ∧ decode cX12_hears 88 = .ok (.iadd, 1) ∧ decode cX12_hears 89 = .ok (.iastore, 1) ∧ decode cX12_hears 90 = .ok (.aload_n 0, 1) ∧ decode cX12_hears 91 = .ok (.getfield 7, 3) ∧ decode cX12_hears 94 = .ok (.bipush 25, 2) ∧ decode cX12_hears 96 = .ok (.iconst 3, 1) ∧ decode cX12_hears 97 = .ok (.iastore, 1) ∧ decode cX12_hears 98 = .ok (.aload_n 0, 1) ∧ decode cX12_hears 99 = .ok (.invokevirtual 191, 3) ∧ decode cX12_hears 102 = .ok (.iconst 1, 1) := by decide +kernel
theorem dX12_hears_79 : decode cX12_hears 79 = .ok (.aload_n 0, 1) := dX12_hears_79_k.1
theorem dX12_hears_80 : decode cX12_hears 80 = .ok (.getfield 7, 3) := dX12_hears_79_k.2.1
theorem dX12_hears_83 : decode cX12_hears 83 = .ok (.bipush 27, 2) := dX12_hears_79_k.2.2.1
theorem dX12_hears_85 : decode cX12_hears 85 = .ok (.dup2, 1) := dX12_hears_79_k.2.2.2.1
theorem dX12_hears_86 : decode cX12_hears 86 = .ok (.iaload, 1) := dX12_hears_79_k.2.2.2.2.1
theorem dX12_hears_87 : decode cX12_hears 87 = .ok (.iconst 1, 1) := dX12_hears_79_k.2.2.2.2.2.1
theorem dX12_hears_88 : decode cX12_hears 88 = .ok (.iadd, 1) := dX12_hears_79_k.2.2.2.2.2.2.1
theorem dX12_hears_89 : decode cX12_hears 89 = .ok (.iastore, 1) := dX12_hears_79_k.2.2.2.2.2.2.2.1
theorem dX12_hears_90 : decode cX12_hears 90 = .ok (.aload_n 0, 1) := dX12_hears_79_k.2.2.2.2.2.2.2.2.1
theorem dX12_hears_91 : decode cX12_hears 91 = .ok (.getfield 7, 3) := dX12_hears_79_k.2.2.2.2.2.2.2.2.2.1
theorem dX12_hears_94 : decode cX12_hears 94 = .ok (.bipush 25, 2) := dX12_hears_79_k.2.2.2.2.2.2.2.2.2.2.1
theorem dX12_hears_96 : decode cX12_hears 96 = .ok (.iconst 3, 1) := dX12_hears_79_k.2.2.2.2.2.2.2.2.2.2.2.1
theorem dX12_hears_97 : decode cX12_hears 97 = .ok (.iastore, 1) := dX12_hears_79_k.2.2.2.2.2.2.2.2.2.2.2.2.1
theorem dX12_hears_98 : decode cX12_hears 98 = .ok (.aload_n 0, 1) := dX12_hears_79_k.2.2.2.2.2.2.2.2.2.2.2.2.2.1
theorem dX12_hears_99 : decode cX12_hears 99 = .ok (.invokevirtual 191, 3) := dX12_hears_79_k.2.2.2.2.2.2.2.2.2.2.2.2.2.2.1
theorem dX12_hears_102 : decode cX12_hears 102 = .ok (.iconst 1, 1) := dX12_hears_79_k.2.2.2.2.2.2.2.2.2.2.2.2.2.2.2
theorem dX12_hears_103_k : decode cX12_hears 103 = .ok (.ireturn, 1) ∧ decode cX12_hears 104 = .ok (.iload_n 2, 1) ∧ decode cX12_hears 105 = .ok (.ifCond .eq 11, 3) ∧ decode cX12_hears 108 = .ok (.aload_n 0, 1) ∧ decode cX12_hears 109 = .ok (.iload_n 1, 1) ∧ decode cX12_hears 110 = .ok (.invokevirtual 211, 3) ∧ decode cX12_hears 113 = .ok (.goto 27, 3) ∧ decode cX12_hears 116 = .ok (.aload_n 0, 1) ∧ decode cX12_hears 117 = .ok (.getfield 7, 3) ∧ decode cX12_hears 120 = .ok (.bipush 30, 2) ∧ decode cX12_hears 122 = .ok (.iaload, 1) ∧ decode cX12_hears 123 = .ok (.aload_n 0, 1) ∧ decode cX12_hears 124 = .ok (.getfield 7, 3) ∧ decode cX12_hears 127 = .ok (.iconst 3, 1) ∧ decode cX12_hears 128 = .ok (.iaload, 1) ∧ decode cX12_hears 129 = .ok (.if_icmp .lt 11, 3) := by decide +kernel
theorem dX12_hears_103 : decode cX12_hears 103 = .ok (.ireturn, 1) := dX12_hears_103_k.1
theorem dX12_hears_104 : decode cX12_hears 104 = .ok (.iload_n 2, 1) := dX12_hears_103_k.2.1
theorem dX12_hears_105 : decode cX12_hears 105 = .ok (.ifCond .eq 11, 3) := dX12_hears_103_k.2.2.1
theorem dX12_hears_108 : decode cX12_hears 108 = .ok (.aload_n 0, 1) := dX12_hears_103_k.2.2.2.1
theorem dX12_hears_109 : decode cX12_hears 109 = .ok (.iload_n 1, 1) := dX12_hears_103_k.2.2.2.2.1
theorem dX12_hears_110 : decode cX12_hears 110 = .ok (.invokevirtual 211, 3) := dX12_hears_103_k.2.2.2.2.2.1
theorem dX12_hears_113 : decode cX12_hears 113 = .ok (.goto 27, 3) := dX12_hears_103_k.2.2.2.2.2.2.1
theorem dX12_hears_116 : decode cX12_hears 116 = .ok (.aload_n 0, 1) := dX12_hears_103_k.2.2.2.2.2.2.2.1
theorem dX12_hears_117 : decode cX12_hears 117 = .ok (.getfield 7, 3) := dX12_hears_103_k.2.2.2.2.2.2.2.2.1
theorem dX12_hears_120 : decode cX12_hears 120 = .ok (.bipush 30, 2) := dX12_hears_103_k.2.2.2.2.2.2.2.2.2.1
theorem dX12_hears_122 : decode cX12_hears 122 = .ok (.iaload, 1) := dX12_hears_103_k.2.2.2.2.2.2.2.2.2.2.1
theorem dX12_hears_123 : decode cX12_hears 123 = .ok (.aload_n 0, 1) := dX12_hears_103_k.2.2.2.2.2.2.2.2.2.2.2.1
theorem dX12_hears_124 : decode cX12_hears 124 = .ok (.getfield 7, 3) := dX12_hears_103_k.2.2.2.2.2.2.2.2.2.2.2.2.1
theorem dX12_hears_127 : decode cX12_hears 127 = .ok (.iconst 3, 1) := dX12_hears_103_k.2.2.2.2.2.2.2.2.2.2.2.2.2.1
theorem dX12_hears_128 : decode cX12_hears 128 = .ok (.iaload, 1) := dX12_hears_103_k.2.2.2.2.2.2.2.2.2.2.2.2.2.2.1
theorem dX12_hears_129 : decode cX12_hears 129 = .ok (.if_icmp .lt 11, 3) := dX12_hears_103_k.2.2.2.2.2.2.2.2.2.2.2.2.2.2.2
theorem dX12_hears_132_k : decode cX12_hears 132 = .ok (.aload_n 0, 1) ∧ decode cX12_hears 133 = .ok (.getfield 7, 3) ∧ decode cX12_hears 136 = .ok (.bipush 25, 2) ∧ decode cX12_hears 138 = .ok (.iconst 2, 1) ∧ decode cX12_hears 139 = .ok (.iastore, 1) ∧ decode cX12_hears 140 = .ok (.iconst 1, 1) ∧ decode cX12_hears 141 = .ok (.ireturn, 1) := by decide +kernel
theorem dX12_hears_132 : decode cX12_hears 132 = .ok (.aload_n 0, 1) := dX12_hears_132_k.1
theorem dX12_hears_133 : decode cX12_hears 133 = .ok (.getfield 7, 3) := dX12_hears_132_k.2.1
theorem dX12_hears_136 : decode cX12_hears 136 = .ok (.bipush 25, 2) := dX12_hears_132_k.2.2.1
theorem dX12_hears_138 : decode cX12_hears 138 = .ok (.iconst 2, 1) := dX12_hears_132_k.2.2.2.1
theorem dX12_hears_139 : decode cX12_hears 139 = .ok (.iastore, 1) := dX12_hears_132_k.2.2.2.2.1
theorem dX12_hears_140 : decode cX12_hears 140 = .ok (.iconst 1, 1) := dX12_hears_132_k.2.2.2.2.2.1
theorem dX12_hears_141 : decode cX12_hears 141 = .ok (.ireturn, 1) := dX12_hears_132_k.2.2.2.2.2.2
theorem dX12_start_0_k : decode cX12_start 0 = .ok (.aload_n 0, 1) ∧ decode cX12_start 1 = .ok (.iconst 0, 1) ∧ decode cX12_start 2 = .ok (.putfield 33, 3) ∧ decode cX12_start 5 = .ok (.aload_n 0, 1) ∧ decode cX12_start 6 = .ok (.invokevirtual 214, 3) ∧ decode cX12_start 9 = .ok (.aload_n 0, 1) ∧ decode cX12_start 10 = .ok (.getfield 7, 3) ∧ decode cX12_start 13 = .ok (.bipush 28, 2) ∧ decode cX12_start 15 = .ok (.iaload, 1) ∧ decode cX12_start 16 = .ok (.ireturn, 1) := by decide +kernel
theorem dX12_start_0 : decode cX12_start 0 = .ok (.aload_n 0, 1) := dX12_start_0_k.1
theorem dX12_start_1 : decode cX12_start 1 = .ok (.iconst 0, 1) := dX12_start_0_k.2.1
theorem dX12_start_2 : decode cX12_start 2 = .ok (.putfield 33, 3) := dX12_start_0_k.2.2.1
theorem dX12_start_5 : decode cX12_start 5 = .ok (.aload_n 0, 1) := dX12_start_0_k.2.2.2.1
theorem dX12_start_6 : decode cX12_start 6 = .ok (.invokevirtual 214, 3) := dX12_start_0_k.2.2.2.2.1
theorem dX12_start_9 : decode cX12_start 9 = .ok (.aload_n 0, 1) := dX12_start_0_k.2.2.2.2.2.1
theorem dX12_start_10 : decode cX12_start 10 = .ok (.getfield 7, 3) := dX12_start_0_k.2.2.2.2.2.2.1
theorem dX12_start_13 : decode cX12_start 13 = .ok (.bipush 28, 2) := dX12_start_0_k.2.2.2.2.2.2.2.1
theorem dX12_start_15 : decode cX12_start 15 = .ok (.iaload, 1) := dX12_start_0_k.2.2.2.2.2.2.2.2.1
theorem dX12_start_16 : decode cX12_start 16 = .ok (.ireturn, 1) := dX12_start_0_k.2.2.2.2.2.2.2.2.2
theorem dX12_stop_0_k : decode cX12_stop 0 = .ok (.aload_n 0, 1) ∧ decode cX12_stop 1 = .ok (.iconst 0, 1) ∧ decode cX12_stop 2 = .ok (.putfield 33, 3) ∧ decode cX12_stop 5 = .ok (.aload_n 0, 1) ∧ decode cX12_stop 6 = .ok (.getfield 7, 3) ∧ decode cX12_stop 9 = .ok (.bipush 25, 2) ∧ decode cX12_stop 11 = .ok (.iaload, 1) ∧ decode cX12_stop 12 = .ok (.ifCond .ne 5, 3) ∧ decode cX12_stop 15 = .ok (.iconst 0, 1) ∧ decode cX12_stop 16 = .ok (.ireturn, 1) ∧ decode cX12_stop 17 = .ok (.aload_n 0, 1) ∧ decode cX12_stop 18 = .ok (.invokevirtual 191, 3) ∧ decode cX12_stop 21 = .ok (.aload_n 0, 1) ∧ decode cX12_stop 22 = .ok (.invokevirtual 194, 3) ∧ decode cX12_stop 25 = .ok (.aload_n 0, 1) ∧ decode cX12_stop 26 = .ok (.getfield 7, 3) := by decide +kernel
theorem dX12_stop_0 : decode cX12_stop 0 = .ok (.aload_n 0, 1) := dX12_stop_0_k.1
theorem dX12_stop_1 : decode cX12_stop 1 = .ok (.iconst 0, 1) := dX12_stop_0_k.2.1
theorem dX12_stop_2 : decode cX12_stop 2 = .ok (.putfield 33, 3) := dX12_stop_0_k.2.2.1
theorem dX12_stop_5 : decode cX12_stop 5 = .ok (.aload_n 0, 1) := dX12_stop_0_k.2.2.2.1
theorem dX12_stop_6 : decode cX12_stop 6 = .ok (.getfield 7, 3) := dX12_stop_0_k.2.2.2.2.1
theorem dX12_stop_9 : decode cX12_stop 9 = .ok (.bipush 25, 2) := dX12_stop_0_k.2.2.2.2.2.1
theorem dX12_stop_11 : decode cX12_stop 11 = .ok (.iaload, 1) := dX12_stop_0_k.2.2.2.2.2.2.1
theorem dX12_stop_12 : decode cX12_stop 12 = .ok (.ifCond .ne 5, 3) := dX12_stop_0_k.2.2.2.2.2.2.2.1
theorem dX12_stop_15 : decode cX12_stop 15 = .ok (.iconst 0, 1) := dX12_stop_0_k.2.2.2.2.2.2.2.2.1
theorem dX12_stop_16 : decode cX12_stop 16 = .ok (.ireturn, 1) := dX12_stop_0_k.2.2.2.2.2.2.2.2.2.1
theorem dX12_stop_17 : decode cX12_stop 17 = .ok (.aload_n 0, 1) := dX12_stop_0_k.2.2.2.2.2.2.2.2.2.2.1
theorem dX12_stop_18 : decode cX12_stop 18 = .ok (.invokevirtual 191, 3) := dX12_stop_0_k.2.2.2.2.2.2.2.2.2.2.2.1
theorem dX12_stop_21 : decode cX12_stop 21 = .ok (.aload_n 0, 1) := dX12_stop_0_k.2.2.2.2.2.2.2.2.2.2.2.2.1
theorem dX12_stop_22 : decode cX12_stop 22 = .ok (.invokevirtual 194, 3) := dX12_stop_0_k.2.2.2.2.2.2.2.2.2.2.2.2.2.1
theorem dX12_stop_25 : decode cX12_stop 25 = .ok (.aload_n 0, 1) := dX12_stop_0_k.2.2.2.2.2.2.2.2.2.2.2.2.2.2.1
theorem dX12_stop_26 : decode cX12_stop 26 = .ok (.getfield 7, 3) := dX12_stop_0_k.2.2.2.2.2.2.2.2.2.2.2.2.2.2.2
theorem dX12_stop_29_k : decode cX12_stop 29 = .ok (.bipush 25, 2) ∧ decode cX12_stop 31 = .ok (.iconst 0, 1) ∧ decode cX12_stop 32 = .ok (.iastore, 1) ∧ decode cX12_stop 33 = .ok (.iconst 1, 1) ∧ decode cX12_stop 34 = .ok (.ireturn, 1) := by decide +kernel
theorem dX12_stop_29 : decode cX12_stop 29 = .ok (.bipush 25, 2) := dX12_stop_29_k.1
theorem dX12_stop_31 : decode cX12_stop 31 = .ok (.iconst 0, 1) := dX12_stop_29_k.2.1
theorem dX12_stop_32 : decode cX12_stop 32 = .ok (.iastore, 1) := dX12_stop_29_k.2.2.1
theorem dX12_stop_33 : decode cX12_stop 33 = .ok (.iconst 1, 1) := dX12_stop_29_k.2.2.2.1
theorem dX12_stop_34 : decode cX12_stop 34 = .ok (.ireturn, 1) := dX12_stop_29_k.2.2.2.2
theorem dX12_draws_0_k : decode cX12_draws 0 = .ok (.aload_n 0, 1) ∧ decode cX12_draws 1 = .ok (.invokevirtual 217, 3) ∧ decode cX12_draws 4 = .ok (.iconst 0, 1) ∧ decode cX12_draws 5 = .ok (.istore_n 2, 1) ∧ decode cX12_draws 6 = .ok (.iconst 0, 1) ∧ decode cX12_draws 7 = .ok (.istore_n 3, 1) ∧ decode cX12_draws 8 = .ok (.iload_n 3, 1) ∧ decode cX12_draws 9 = .ok (.iload_n 1, 1) ∧ decode cX12_draws 10 = .ok (.if_icmp .ge 28, 3) ∧ decode cX12_draws 13 = .ok (.iload_n 2, 1) ∧ decode cX12_draws 14 = .ok (.aload_n 0, 1) ∧ decode cX12_draws 15 = .ok (.aload_n 0, 1) ∧ decode cX12_draws 16 = .ok (.invokevirtual 220, 3) ∧ decode cX12_draws 19 = .ok (.invokevirtual 223, 3) ∧ decode cX12_draws 22 = .ok (.ifCond .eq 7, 3) ∧ decode cX12_draws 25 = .ok (.iconst 1, 1) := by decide +kernel
theorem dX12_draws_0 : decode cX12_draws 0 = .ok (.aload_n 0, 1) := dX12_draws_0_k.1
theorem dX12_draws_1 : decode cX12_draws 1 = .ok (.invokevirtual 217, 3) := dX12_draws_0_k.2.1
theorem dX12_draws_4 : decode cX12_draws 4 = .ok (.iconst 0, 1) := dX12_draws_0_k.2.2.1
theorem dX12_draws_5 : decode cX12_draws 5 = .ok (.istore_n 2, 1) := dX12_draws_0_k.2.2.2.1
theorem dX12_draws_6 : decode cX12_draws 6 = .ok (.iconst 0, 1) := dX12_draws_0_k.2.2.2.2.1
theorem dX12_draws_7 : decode cX12_draws 7 = .ok (.istore_n 3, 1) := dX12_draws_0_k.2.2.2.2.2.1
theorem dX12_draws_8 : decode cX12_draws 8 = .ok (.iload_n 3, 1) := dX12_draws_0_k.2.2.2.2.2.2.1
theorem dX12_draws_9 : decode cX12_draws 9 = .ok (.iload_n 1, 1) := dX12_draws_0_k.2.2.2.2.2.2.2.1
theorem dX12_draws_10 : decode cX12_draws 10 = .ok (.if_icmp .ge 28, 3) := dX12_draws_0_k.2.2.2.2.2.2.2.2.1
theorem dX12_draws_13 : decode cX12_draws 13 = .ok (.iload_n 2, 1) := dX12_draws_0_k.2.2.2.2.2.2.2.2.2.1
theorem dX12_draws_14 : decode cX12_draws 14 = .ok (.aload_n 0, 1) := dX12_draws_0_k.2.2.2.2.2.2.2.2.2.2.1
theorem dX12_draws_15 : decode cX12_draws 15 = .ok (.aload_n 0, 1) := dX12_draws_0_k.2.2.2.2.2.2.2.2.2.2.2.1
theorem dX12_draws_16 : decode cX12_draws 16 = .ok (.invokevirtual 220, 3) := dX12_draws_0_k.2.2.2.2.2.2.2.2.2.2.2.2.1
theorem dX12_draws_19 : decode cX12_draws 19 = .ok (.invokevirtual 223, 3) := dX12_draws_0_k.2.2.2.2.2.2.2.2.2.2.2.2.2.1
theorem dX12_draws_22 : decode cX12_draws 22 = .ok (.ifCond .eq 7, 3) := dX12_draws_0_k.2.2.2.2.2.2.2.2.2.2.2.2.2.2.1
theorem dX12_draws_25 : decode cX12_draws 25 = .ok (.iconst 1, 1) := dX12_draws_0_k.2.2.2.2.2.2.2.2.2.2.2.2.2.2.2
theorem dX12_draws_26_k : decode cX12_draws 26 = .ok (.goto 4, 3) ∧ decode cX12_draws 29 = .ok (.iconst 0, 1) ∧ decode cX12_draws 30 = .ok (.iadd, 1) ∧ decode cX12_draws 31 = .ok (.istore_n 2, 1) ∧ decode cX12_draws 32 = .ok (.iinc 3 1, 3) ∧ decode cX12_draws 35 = .ok (.goto (-27), 3) ∧ decode cX12_draws 38 = .ok (.iload_n 2, 1) ∧ decode cX12_draws 39 = .ok (.ireturn, 1) := by decide +kernel
theorem dX12_draws_26 : decode cX12_draws 26 = .ok (.goto 4, 3) := dX12_draws_26_k.1
theorem dX12_draws_29 : decode cX12_draws 29 = .ok (.iconst 0, 1) := dX12_draws_26_k.2.1
theorem dX12_draws_30 : decode cX12_draws 30 = .ok (.iadd, 1) := dX12_draws_26_k.2.2.1
theorem dX12_draws_31 : decode cX12_draws 31 = .ok (.istore_n 2, 1) := dX12_draws_26_k.2.2.2.1
theorem dX12_draws_32 : decode cX12_draws 32 = .ok (.iinc 3 1, 3) := dX12_draws_26_k.2.2.2.2.1
theorem dX12_draws_35 : decode cX12_draws 35 = .ok (.goto (-27), 3) := dX12_draws_26_k.2.2.2.2.2.1
theorem dX12_draws_38 : decode cX12_draws 38 = .ok (.iload_n 2, 1) := dX12_draws_26_k.2.2.2.2.2.2.1
theorem dX12_draws_39 : decode cX12_draws 39 = .ok (.ireturn, 1) := dX12_draws_26_k.2.2.2.2.2.2.2
theorem dX12_draw_0_k : decode cX12_draw 0 = .ok (.aload_n 0, 1) ∧ decode cX12_draw 1 = .ok (.iconst 0, 1) ∧ decode cX12_draw 2 = .ok (.putfield 33, 3) ∧ decode cX12_draw 5 = .ok (.iload_n 1, 1) ∧ decode cX12_draw 6 = .ok (.iconst 1, 1) ∧ decode cX12_draw 7 = .ok (.sipush 400, 3) ∧ decode cX12_draw 10 = .ok (.invokestatic 59, 3) ∧ decode cX12_draw 13 = .ok (.ifCond .eq 11, 3) ∧ decode cX12_draw 16 = .ok (.aload_n 0, 1) ∧ decode cX12_draw 17 = .ok (.iload_n 1, 1) ∧ decode cX12_draw 18 = .ok (.invokevirtual 227, 3) ∧ decode cX12_draw 21 = .ok (.goto 4, 3) ∧ decode cX12_draw 24 = .ok (.iconst (-1), 1) ∧ decode cX12_draw 25 = .ok (.ireturn, 1) := by decide +kernel
theorem dX12_draw_0 : decode cX12_draw 0 = .ok (.aload_n 0, 1) := dX12_draw_0_k.1
theorem dX12_draw_1 : decode cX12_draw 1 = .ok (.iconst 0, 1) := dX12_draw_0_k.2.1
theorem dX12_draw_2 : decode cX12_draw 2 = .ok (.putfield 33, 3) := dX12_draw_0_k.2.2.1
theorem dX12_draw_5 : decode cX12_draw 5 = .ok (.iload_n 1, 1) := dX12_draw_0_k.2.2.2.1
theorem dX12_draw_6 : decode cX12_draw 6 = .ok (.iconst 1, 1) := dX12_draw_0_k.2.2.2.2.1
theorem dX12_draw_7 : decode cX12_draw 7 = .ok (.sipush 400, 3) := dX12_draw_0_k.2.2.2.2.2.1
theorem dX12_draw_10 : decode cX12_draw 10 = .ok (.invokestatic 59, 3) := dX12_draw_0_k.2.2.2.2.2.2.1
theorem dX12_draw_13 : decode cX12_draw 13 = .ok (.ifCond .eq 11, 3) := dX12_draw_0_k.2.2.2.2.2.2.2.1
theorem dX12_draw_16 : decode cX12_draw 16 = .ok (.aload_n 0, 1) := dX12_draw_0_k.2.2.2.2.2.2.2.2.1
theorem dX12_draw_17 : decode cX12_draw 17 = .ok (.iload_n 1, 1) := dX12_draw_0_k.2.2.2.2.2.2.2.2.2.1
theorem dX12_draw_18 : decode cX12_draw 18 = .ok (.invokevirtual 227, 3) := dX12_draw_0_k.2.2.2.2.2.2.2.2.2.2.1
theorem dX12_draw_21 : decode cX12_draw 21 = .ok (.goto 4, 3) := dX12_draw_0_k.2.2.2.2.2.2.2.2.2.2.2.1
theorem dX12_draw_24 : decode cX12_draw 24 = .ok (.iconst (-1), 1) := dX12_draw_0_k.2.2.2.2.2.2.2.2.2.2.2.2.1
theorem dX12_draw_25 : decode cX12_draw 25 = .ok (.ireturn, 1) := dX12_draw_0_k.2.2.2.2.2.2.2.2.2.2.2.2.2
theorem dX12_hand_0_k : decode cX12_hand 0 = .ok (.aload_n 0, 1) ∧ decode cX12_hand 1 = .ok (.iconst 0, 1) ∧ decode cX12_hand 2 = .ok (.putfield 33, 3) ∧ decode cX12_hand 5 = .ok (.iload_n 2, 1) ∧ decode cX12_hand 6 = .ok (.iconst 1, 1) ∧ decode cX12_hand 7 = .ok (.bipush 32, 2) ∧ decode cX12_hand 9 = .ok (.invokestatic 59, 3) ∧ decode cX12_hand 12 = .ok (.ifCond .ne 5, 3) ∧ decode cX12_hand 15 = .ok (.iconst (-1), 1) ∧ decode cX12_hand 16 = .ok (.ireturn, 1) ∧ decode cX12_hand 17 = .ok (.aload_n 0, 1) ∧ decode cX12_hand 18 = .ok (.invokevirtual 217, 3) ∧ decode cX12_hand 21 = .ok (.iconst 0, 1) ∧ decode cX12_hand 22 = .ok (.istore_n 3, 1) ∧ decode cX12_hand 23 = .ok (.iload_n 2, 1) ∧ decode cX12_hand 24 = .ok (.iconst 1, 1) := by decide +kernel
theorem dX12_hand_0 : decode cX12_hand 0 = .ok (.aload_n 0, 1) := dX12_hand_0_k.1
theorem dX12_hand_1 : decode cX12_hand 1 = .ok (.iconst 0, 1) := dX12_hand_0_k.2.1
theorem dX12_hand_2 : decode cX12_hand 2 = .ok (.putfield 33, 3) := dX12_hand_0_k.2.2.1
theorem dX12_hand_5 : decode cX12_hand 5 = .ok (.iload_n 2, 1) := dX12_hand_0_k.2.2.2.1
theorem dX12_hand_6 : decode cX12_hand 6 = .ok (.iconst 1, 1) := dX12_hand_0_k.2.2.2.2.1
theorem dX12_hand_7 : decode cX12_hand 7 = .ok (.bipush 32, 2) := dX12_hand_0_k.2.2.2.2.2.1
theorem dX12_hand_9 : decode cX12_hand 9 = .ok (.invokestatic 59, 3) := dX12_hand_0_k.2.2.2.2.2.2.1
theorem dX12_hand_12 : decode cX12_hand 12 = .ok (.ifCond .ne 5, 3) := dX12_hand_0_k.2.2.2.2.2.2.2.1
theorem dX12_hand_15 : decode cX12_hand 15 = .ok (.iconst (-1), 1) := dX12_hand_0_k.2.2.2.2.2.2.2.2.1
theorem dX12_hand_16 : decode cX12_hand 16 = .ok (.ireturn, 1) := dX12_hand_0_k.2.2.2.2.2.2.2.2.2.1
theorem dX12_hand_17 : decode cX12_hand 17 = .ok (.aload_n 0, 1) := dX12_hand_0_k.2.2.2.2.2.2.2.2.2.2.1
theorem dX12_hand_18 : decode cX12_hand 18 = .ok (.invokevirtual 217, 3) := dX12_hand_0_k.2.2.2.2.2.2.2.2.2.2.2.1
theorem dX12_hand_21 : decode cX12_hand 21 = .ok (.iconst 0, 1) := dX12_hand_0_k.2.2.2.2.2.2.2.2.2.2.2.2.1
theorem dX12_hand_22 : decode cX12_hand 22 = .ok (.istore_n 3, 1) := dX12_hand_0_k.2.2.2.2.2.2.2.2.2.2.2.2.2.1
theorem dX12_hand_23 : decode cX12_hand 23 = .ok (.iload_n 2, 1) := dX12_hand_0_k.2.2.2.2.2.2.2.2.2.2.2.2.2.2.1
theorem dX12_hand_24 : decode cX12_hand 24 = .ok (.iconst 1, 1) := dX12_hand_0_k.2.2.2.2.2.2.2.2.2.2.2.2.2.2.2
theorem dX12_hand_25_k : decode cX12_hand 25 = .ok (.isub, 1) ∧ decode cX12_hand 26 = .ok (.istore 4, 2) ∧ decode cX12_hand 28 = .ok (.iload 4, 2) ∧ decode cX12_hand 30 = .ok (.ifCond .lt 30, 3) ∧ decode cX12_hand 33 = .ok (.iload_n 3, 1) ∧ decode cX12_hand 34 = .ok (.aload_n 0, 1) ∧ decode cX12_hand 35 = .ok (.iload_n 1, 1) ∧ decode cX12_hand 36 = .ok (.iload 4, 2) ∧ decode cX12_hand 38 = .ok (.ishr, 1) ∧ decode cX12_hand 39 = .ok (.iconst 1, 1) ∧ decode cX12_hand 40 = .ok (.iand, 1) ∧ decode cX12_hand 41 = .ok (.invokevirtual 223, 3) ∧ decode cX12_hand 44 = .ok (.ifCond .eq 7, 3) ∧ decode cX12_hand 47 = .ok (.iconst 1, 1) ∧ decode cX12_hand 48 = .ok (.goto 4, 3) ∧ decode cX12_hand 51 = .ok (.iconst 0, 1) := by decide +kernel
theorem dX12_hand_25 : decode cX12_hand 25 = .ok (.isub, 1) := dX12_hand_25_k.1
theorem dX12_hand_26 : decode cX12_hand 26 = .ok (.istore 4, 2) := dX12_hand_25_k.2.1
theorem dX12_hand_28 : decode cX12_hand 28 = .ok (.iload 4, 2) := dX12_hand_25_k.2.2.1
theorem dX12_hand_30 : decode cX12_hand 30 = .ok (.ifCond .lt 30, 3) := dX12_hand_25_k.2.2.2.1
theorem dX12_hand_33 : decode cX12_hand 33 = .ok (.iload_n 3, 1) := dX12_hand_25_k.2.2.2.2.1
theorem dX12_hand_34 : decode cX12_hand 34 = .ok (.aload_n 0, 1) := dX12_hand_25_k.2.2.2.2.2.1
theorem dX12_hand_35 : decode cX12_hand 35 = .ok (.iload_n 1, 1) := dX12_hand_25_k.2.2.2.2.2.2.1
theorem dX12_hand_36 : decode cX12_hand 36 = .ok (.iload 4, 2) := dX12_hand_25_k.2.2.2.2.2.2.2.1
theorem dX12_hand_38 : decode cX12_hand 38 = .ok (.ishr, 1) := dX12_hand_25_k.2.2.2.2.2.2.2.2.1
theorem dX12_hand_39 : decode cX12_hand 39 = .ok (.iconst 1, 1) := dX12_hand_25_k.2.2.2.2.2.2.2.2.2.1
theorem dX12_hand_40 : decode cX12_hand 40 = .ok (.iand, 1) := dX12_hand_25_k.2.2.2.2.2.2.2.2.2.2.1
theorem dX12_hand_41 : decode cX12_hand 41 = .ok (.invokevirtual 223, 3) := dX12_hand_25_k.2.2.2.2.2.2.2.2.2.2.2.1
theorem dX12_hand_44 : decode cX12_hand 44 = .ok (.ifCond .eq 7, 3) := dX12_hand_25_k.2.2.2.2.2.2.2.2.2.2.2.2.1
theorem dX12_hand_47 : decode cX12_hand 47 = .ok (.iconst 1, 1) := dX12_hand_25_k.2.2.2.2.2.2.2.2.2.2.2.2.2.1
theorem dX12_hand_48 : decode cX12_hand 48 = .ok (.goto 4, 3) := dX12_hand_25_k.2.2.2.2.2.2.2.2.2.2.2.2.2.2.1
theorem dX12_hand_51 : decode cX12_hand 51 = .ok (.iconst 0, 1) := dX12_hand_25_k.2.2.2.2.2.2.2.2.2.2.2.2.2.2.2
theorem dX12_hand_52_k : decode cX12_hand 52 = .ok (.iadd, 1) ∧ decode cX12_hand 53 = .ok (.istore_n 3, 1) ∧ decode cX12_hand 54 = .ok (.iinc 4 (-1), 3) ∧ decode cX12_hand 57 = .ok (.goto (-29), 3) ∧ decode cX12_hand 60 = .ok (.iload_n 3, 1) ∧ decode cX12_hand 61 = .ok (.ireturn, 1) := by decide +kernel
theorem dX12_hand_52 : decode cX12_hand 52 = .ok (.iadd, 1) := dX12_hand_52_k.1
theorem dX12_hand_53 : decode cX12_hand 53 = .ok (.istore_n 3, 1) := dX12_hand_52_k.2.1
theorem dX12_hand_54 : decode cX12_hand 54 = .ok (.iinc 4 (-1), 3) := dX12_hand_52_k.2.2.1
theorem dX12_hand_57 : decode cX12_hand 57 = .ok (.goto (-29), 3) := dX12_hand_52_k.2.2.2.1
theorem dX12_hand_60 : decode cX12_hand 60 = .ok (.iload_n 3, 1) := dX12_hand_52_k.2.2.2.2.1
theorem dX12_hand_61 : decode cX12_hand 61 = .ok (.ireturn, 1) := dX12_hand_52_k.2.2.2.2.2
theorem dX12_take_0_k : decode cX12_take 0 = .ok (.aload_n 0, 1) ∧ decode cX12_take 1 = .ok (.iconst 0, 1) ∧ decode cX12_take 2 = .ok (.putfield 33, 3) ∧ decode cX12_take 5 = .ok (.iload_n 1, 1) ∧ decode cX12_take 6 = .ok (.iconst 1, 1) ∧ decode cX12_take 7 = .ok (.bipush 30, 2) ∧ decode cX12_take 9 = .ok (.invokestatic 59, 3) ∧ decode cX12_take 12 = .ok (.ifCond .eq 14, 3) ∧ decode cX12_take 15 = .ok (.aload_n 0, 1) ∧ decode cX12_take 16 = .ok (.getfield 7, 3) ∧ decode cX12_take 19 = .ok (.bipush 43, 2) ∧ decode cX12_take 21 = .ok (.iaload, 1) ∧ decode cX12_take 22 = .ok (.iload_n 1, 1) ∧ decode cX12_take 23 = .ok (.if_icmp .ge 5, 3) ∧ decode cX12_take 26 = .ok (.iconst (-1), 1) ∧ decode cX12_take 27 = .ok (.ireturn, 1) := by decide +kernel
theorem dX12_take_0 : decode cX12_take 0 = .ok (.aload_n 0, 1) := dX12_take_0_k.1
theorem dX12_take_1 : decode cX12_take 1 = .ok (.iconst 0, 1) := dX12_take_0_k.2.1
theorem dX12_take_2 : decode cX12_take 2 = .ok (.putfield 33, 3) := dX12_take_0_k.2.2.1
theorem dX12_take_5 : decode cX12_take 5 = .ok (.iload_n 1, 1) := dX12_take_0_k.2.2.2.1
theorem dX12_take_6 : decode cX12_take 6 = .ok (.iconst 1, 1) := dX12_take_0_k.2.2.2.2.1
theorem dX12_take_7 : decode cX12_take 7 = .ok (.bipush 30, 2) := dX12_take_0_k.2.2.2.2.2.1
theorem dX12_take_9 : decode cX12_take 9 = .ok (.invokestatic 59, 3) := dX12_take_0_k.2.2.2.2.2.2.1
theorem dX12_take_12 : decode cX12_take 12 = .ok (.ifCond .eq 14, 3) := dX12_take_0_k.2.2.2.2.2.2.2.1
theorem dX12_take_15 : decode cX12_take 15 = .ok (.aload_n 0, 1) := dX12_take_0_k.2.2.2.2.2.2.2.2.1
theorem dX12_take_16 : decode cX12_take 16 = .ok (.getfield 7, 3) := dX12_take_0_k.2.2.2.2.2.2.2.2.2.1
theorem dX12_take_19 : decode cX12_take 19 = .ok (.bipush 43, 2) := dX12_take_0_k.2.2.2.2.2.2.2.2.2.2.1
theorem dX12_take_21 : decode cX12_take 21 = .ok (.iaload, 1) := dX12_take_0_k.2.2.2.2.2.2.2.2.2.2.2.1
theorem dX12_take_22 : decode cX12_take 22 = .ok (.iload_n 1, 1) := dX12_take_0_k.2.2.2.2.2.2.2.2.2.2.2.2.1
theorem dX12_take_23 : decode cX12_take 23 = .ok (.if_icmp .ge 5, 3) := dX12_take_0_k.2.2.2.2.2.2.2.2.2.2.2.2.2.1
theorem dX12_take_26 : decode cX12_take 26 = .ok (.iconst (-1), 1) := dX12_take_0_k.2.2.2.2.2.2.2.2.2.2.2.2.2.2.1
theorem dX12_take_27 : decode cX12_take 27 = .ok (.ireturn, 1) := dX12_take_0_k.2.2.2.2.2.2.2.2.2.2.2.2.2.2.2
theorem dX12_take_28_k : decode cX12_take 28 = .ok (.iconst 0, 1) ∧ decode cX12_take 29 = .ok (.istore_n 2, 1) ∧ decode cX12_take 30 = .ok (.iconst 0, 1) ∧ decode cX12_take 31 = .ok (.istore_n 3, 1) ∧ decode cX12_take 32 = .ok (.iload_n 3, 1) ∧ decode cX12_take 33 = .ok (.iload_n 1, 1) ∧ decode cX12_take 34 = .ok (.if_icmp .ge 23, 3) ∧ decode cX12_take 37 = .ok (.iload_n 2, 1) ∧ decode cX12_take 38 = .ok (.iconst 1, 1) ∧ decode cX12_take 39 = .ok (.ishl, 1) ∧ decode cX12_take 40 = .ok (.aload_n 0, 1) ∧ decode cX12_take 41 = .ok (.getfield 7, 3) ∧ decode cX12_take 44 = .ok (.bipush 44, 2) ∧ decode cX12_take 46 = .ok (.iload_n 3, 1) ∧ decode cX12_take 47 = .ok (.iadd, 1) ∧ decode cX12_take 48 = .ok (.iaload, 1) := by decide +kernel
theorem dX12_take_28 : decode cX12_take 28 = .ok (.iconst 0, 1) := dX12_take_28_k.1
theorem dX12_take_29 : decode cX12_take 29 = .ok (.istore_n 2, 1) := dX12_take_28_k.2.1
theorem dX12_take_30 : decode cX12_take 30 = .ok (.iconst 0, 1) := dX12_take_28_k.2.2.1
theorem dX12_take_31 : decode cX12_take 31 = .ok (.istore_n 3, 1) := dX12_take_28_k.2.2.2.1
theorem dX12_take_32 : decode cX12_take 32 = .ok (.iload_n 3, 1) := dX12_take_28_k.2.2.2.2.1
theorem dX12_take_33 : decode cX12_take 33 = .ok (.iload_n 1, 1) := dX12_take_28_k.2.2.2.2.2.1
theorem dX12_take_34 : decode cX12_take 34 = .ok (.if_icmp .ge 23, 3) := dX12_take_28_k.2.2.2.2.2.2.1
theorem dX12_take_37 : decode cX12_take 37 = .ok (.iload_n 2, 1) := dX12_take_28_k.2.2.2.2.2.2.2.1
theorem dX12_take_38 : decode cX12_take 38 = .ok (.iconst 1, 1) := dX12_take_28_k.2.2.2.2.2.2.2.2.1
theorem dX12_take_39 : decode cX12_take 39 = .ok (.ishl, 1) := dX12_take_28_k.2.2.2.2.2.2.2.2.2.1
theorem dX12_take_40 : decode cX12_take 40 = .ok (.aload_n 0, 1) := dX12_take_28_k.2.2.2.2.2.2.2.2.2.2.1
theorem dX12_take_41 : decode cX12_take 41 = .ok (.getfield 7, 3) := dX12_take_28_k.2.2.2.2.2.2.2.2.2.2.2.1
theorem dX12_take_44 : decode cX12_take 44 = .ok (.bipush 44, 2) := dX12_take_28_k.2.2.2.2.2.2.2.2.2.2.2.2.1
theorem dX12_take_46 : decode cX12_take 46 = .ok (.iload_n 3, 1) := dX12_take_28_k.2.2.2.2.2.2.2.2.2.2.2.2.2.1
theorem dX12_take_47 : decode cX12_take 47 = .ok (.iadd, 1) := dX12_take_28_k.2.2.2.2.2.2.2.2.2.2.2.2.2.2.1
theorem dX12_take_48 : decode cX12_take 48 = .ok (.iaload, 1) := dX12_take_28_k.2.2.2.2.2.2.2.2.2.2.2.2.2.2.2
theorem dX12_take_49_k : decode cX12_take 49 = .ok (.ior, 1) ∧ decode cX12_take 50 = .ok (.istore_n 2, 1) ∧ decode cX12_take 51 = .ok (.iinc 3 1, 3) ∧ decode cX12_take 54 = .ok (.goto (-22), 3) ∧ decode cX12_take 57 = .ok (.iload_n 1, 1) ∧ decode cX12_take 58 = .ok (.istore_n 3, 1) ∧ decode cX12_take 59 = .ok (.iload_n 3, 1) ∧ decode cX12_take 60 = .ok (.aload_n 0, 1) ∧ decode cX12_take 61 = .ok (.getfield 7, 3) ∧ decode cX12_take 64 = .ok (.bipush 43, 2) ∧ decode cX12_take 66 = .ok (.iaload, 1) ∧ decode cX12_take 67 = .ok (.if_icmp .ge 29, 3) ∧ decode cX12_take 70 = .ok (.aload_n 0, 1) ∧ decode cX12_take 71 = .ok (.getfield 7, 3) ∧ decode cX12_take 74 = .ok (.bipush 44, 2) ∧ decode cX12_take 76 = .ok (.iload_n 3, 1) := by decide +kernel
theorem dX12_take_49 : decode cX12_take 49 = .ok (.ior, 1) := dX12_take_49_k.1
theorem dX12_take_50 : decode cX12_take 50 = .ok (.istore_n 2, 1) := dX12_take_49_k.2.1
theorem dX12_take_51 : decode cX12_take 51 = .ok (.iinc 3 1, 3) := dX12_take_49_k.2.2.1
theorem dX12_take_54 : decode cX12_take 54 = .ok (.goto (-22), 3) := dX12_take_49_k.2.2.2.1
theorem dX12_take_57 : decode cX12_take 57 = .ok (.iload_n 1, 1) := dX12_take_49_k.2.2.2.2.1
theorem dX12_take_58 : decode cX12_take 58 = .ok (.istore_n 3, 1) := dX12_take_49_k.2.2.2.2.2.1
theorem dX12_take_59 : decode cX12_take 59 = .ok (.iload_n 3, 1) := dX12_take_49_k.2.2.2.2.2.2.1
theorem dX12_take_60 : decode cX12_take 60 = .ok (.aload_n 0, 1) := dX12_take_49_k.2.2.2.2.2.2.2.1
theorem dX12_take_61 : decode cX12_take 61 = .ok (.getfield 7, 3) := dX12_take_49_k.2.2.2.2.2.2.2.2.1
theorem dX12_take_64 : decode cX12_take 64 = .ok (.bipush 43, 2) := dX12_take_49_k.2.2.2.2.2.2.2.2.2.1
theorem dX12_take_66 : decode cX12_take 66 = .ok (.iaload, 1) := dX12_take_49_k.2.2.2.2.2.2.2.2.2.2.1
theorem dX12_take_67 : decode cX12_take 67 = .ok (.if_icmp .ge 29, 3) := dX12_take_49_k.2.2.2.2.2.2.2.2.2.2.2.1
theorem dX12_take_70 : decode cX12_take 70 = .ok (.aload_n 0, 1) := dX12_take_49_k.2.2.2.2.2.2.2.2.2.2.2.2.1
theorem dX12_take_71 : decode cX12_take 71 = .ok (.getfield 7, 3) := dX12_take_49_k.2.2.2.2.2.2.2.2.2.2.2.2.2.1
theorem dX12_take_74 : decode cX12_take 74 = .ok (.bipush 44, 2) := dX12_take_49_k.2.2.2.2.2.2.2.2.2.2.2.2.2.2.1
theorem dX12_take_76 : decode cX12_take 76 = .ok (.iload_n 3, 1) := dX12_take_49_k.2.2.2.2.2.2.2.2.2.2.2.2.2.2.2
theorem dX12_take_77_k : decode cX12_take 77 = .ok (.iadd, 1) ∧ decode cX12_take 78 = .ok (.iload_n 1, 1) ∧ decode cX12_take 79 = .ok (.isub, 1) ∧ decode cX12_take 80 = .ok (.aload_n 0, 1) ∧ decode cX12_take 81 = .ok (.getfield 7, 3) ∧ decode cX12_take 84 = .ok (.bipush 44, 2) ∧ decode cX12_take 86 = .ok (.iload_n 3, 1) ∧ decode cX12_take 87 = .ok (.iadd, 1) ∧ decode cX12_take 88 = .ok (.iaload, 1) ∧ decode cX12_take 89 = .ok (.iastore, 1) ∧ decode cX12_take 90 = .ok (.iinc 3 1, 3) ∧ decode cX12_take 93 = .ok (.goto (-34), 3) ∧ decode cX12_take 96 = .ok (.aload_n 0, 1) ∧ decode cX12_take 97 = .ok (.getfield 7, 3) ∧ decode cX12_take 100 = .ok (.bipush 43, 2) ∧ decode cX12_take 102 = .ok (.dup2, 1) := by decide +kernel
theorem dX12_take_77 : decode cX12_take 77 = .ok (.iadd, 1) := dX12_take_77_k.1
theorem dX12_take_78 : decode cX12_take 78 = .ok (.iload_n 1, 1) := dX12_take_77_k.2.1
theorem dX12_take_79 : decode cX12_take 79 = .ok (.isub, 1) := dX12_take_77_k.2.2.1
theorem dX12_take_80 : decode cX12_take 80 = .ok (.aload_n 0, 1) := dX12_take_77_k.2.2.2.1
theorem dX12_take_81 : decode cX12_take 81 = .ok (.getfield 7, 3) := dX12_take_77_k.2.2.2.2.1
theorem dX12_take_84 : decode cX12_take 84 = .ok (.bipush 44, 2) := dX12_take_77_k.2.2.2.2.2.1
theorem dX12_take_86 : decode cX12_take 86 = .ok (.iload_n 3, 1) := dX12_take_77_k.2.2.2.2.2.2.1
theorem dX12_take_87 : decode cX12_take 87 = .ok (.iadd, 1) := dX12_take_77_k.2.2.2.2.2.2.2.1
theorem dX12_take_88 : decode cX12_take 88 = .ok (.iaload, 1) := dX12_take_77_k.2.2.2.2.2.2.2.2.1
theorem dX12_take_89 : decode cX12_take 89 = .ok (.iastore, 1) := dX12_take_77_k.2.2.2.2.2.2.2.2.2.1
theorem dX12_take_90 : decode cX12_take 90 = .ok (.iinc 3 1, 3) := dX12_take_77_k.2.2.2.2.2.2.2.2.2.2.1
theorem dX12_take_93 : decode cX12_take 93 = .ok (.goto (-34), 3) := dX12_take_77_k.2.2.2.2.2.2.2.2.2.2.2.1
theorem dX12_take_96 : decode cX12_take 96 = .ok (.aload_n 0, 1) := dX12_take_77_k.2.2.2.2.2.2.2.2.2.2.2.2.1
theorem dX12_take_97 : decode cX12_take 97 = .ok (.getfield 7, 3) := dX12_take_77_k.2.2.2.2.2.2.2.2.2.2.2.2.2.1
theorem dX12_take_100 : decode cX12_take 100 = .ok (.bipush 43, 2) := dX12_take_77_k.2.2.2.2.2.2.2.2.2.2.2.2.2.2.1
theorem dX12_take_102 : decode cX12_take 102 = .ok (.dup2, 1) := dX12_take_77_k.2.2.2.2.2.2.2.2.2.2.2.2.2.2.2
theorem dX12_take_103_k : decode cX12_take 103 = .ok (.iaload, 1) ∧ decode cX12_take 104 = .ok (.iload_n 1, 1) ∧ decode cX12_take 105 = .ok (.isub, 1) ∧ decode cX12_take 106 = .ok (.iastore, 1) ∧ decode cX12_take 107 = .ok (.aload_n 0, 1) ∧ decode cX12_take 108 = .ok (.getfield 7, 3) ∧ decode cX12_take 111 = .ok (.bipush 41, 2) ∧ decode cX12_take 113 = .ok (.dup2, 1) ∧ decode cX12_take 114 = .ok (.iaload, 1) ∧ decode cX12_take 115 = .ok (.iload_n 1, 1) ∧ decode cX12_take 116 = .ok (.iadd, 1) ∧ decode cX12_take 117 = .ok (.iastore, 1) ∧ decode cX12_take 118 = .ok (.iload_n 2, 1) ∧ decode cX12_take 119 = .ok (.ireturn, 1) := by decide +kernel
theorem dX12_take_103 : decode cX12_take 103 = .ok (.iaload, 1) := dX12_take_103_k.1
theorem dX12_take_104 : decode cX12_take 104 = .ok (.iload_n 1, 1) := dX12_take_103_k.2.1
theorem dX12_take_105 : decode cX12_take 105 = .ok (.isub, 1) := dX12_take_103_k.2.2.1
theorem dX12_take_106 : decode cX12_take 106 = .ok (.iastore, 1) := dX12_take_103_k.2.2.2.1
theorem dX12_take_107 : decode cX12_take 107 = .ok (.aload_n 0, 1) := dX12_take_103_k.2.2.2.2.1
theorem dX12_take_108 : decode cX12_take 108 = .ok (.getfield 7, 3) := dX12_take_103_k.2.2.2.2.2.1
theorem dX12_take_111 : decode cX12_take 111 = .ok (.bipush 41, 2) := dX12_take_103_k.2.2.2.2.2.2.1
theorem dX12_take_113 : decode cX12_take 113 = .ok (.dup2, 1) := dX12_take_103_k.2.2.2.2.2.2.2.1
theorem dX12_take_114 : decode cX12_take 114 = .ok (.iaload, 1) := dX12_take_103_k.2.2.2.2.2.2.2.2.1
theorem dX12_take_115 : decode cX12_take 115 = .ok (.iload_n 1, 1) := dX12_take_103_k.2.2.2.2.2.2.2.2.2.1
theorem dX12_take_116 : decode cX12_take 116 = .ok (.iadd, 1) := dX12_take_103_k.2.2.2.2.2.2.2.2.2.2.1
theorem dX12_take_117 : decode cX12_take 117 = .ok (.iastore, 1) := dX12_take_103_k.2.2.2.2.2.2.2.2.2.2.2.1
theorem dX12_take_118 : decode cX12_take 118 = .ok (.iload_n 2, 1) := dX12_take_103_k.2.2.2.2.2.2.2.2.2.2.2.2.1
theorem dX12_take_119 : decode cX12_take 119 = .ok (.ireturn, 1) := dX12_take_103_k.2.2.2.2.2.2.2.2.2.2.2.2.2
theorem dX12_count_0_k : decode cX12_count 0 = .ok (.aload_n 0, 1) ∧ decode cX12_count 1 = .ok (.iconst 0, 1) ∧ decode cX12_count 2 = .ok (.putfield 33, 3) ∧ decode cX12_count 5 = .ok (.iload_n 1, 1) ∧ decode cX12_count 6 = .ok (.iconst 0, 1) ∧ decode cX12_count 7 = .ok (.bipush 28, 2) ∧ decode cX12_count 9 = .ok (.invokestatic 59, 3) ∧ decode cX12_count 12 = .ok (.ifCond .eq 11, 3) ∧ decode cX12_count 15 = .ok (.aload_n 0, 1) ∧ decode cX12_count 16 = .ok (.iload_n 1, 1) ∧ decode cX12_count 17 = .ok (.invokevirtual 230, 3) ∧ decode cX12_count 20 = .ok (.goto 4, 3) ∧ decode cX12_count 23 = .ok (.iconst (-1), 1) ∧ decode cX12_count 24 = .ok (.ireturn, 1) := by decide +kernel
theorem dX12_count_0 : decode cX12_count 0 = .ok (.aload_n 0, 1) := dX12_count_0_k.1
theorem dX12_count_1 : decode cX12_count 1 = .ok (.iconst 0, 1) := dX12_count_0_k.2.1
theorem dX12_count_2 : decode cX12_count 2 = .ok (.putfield 33, 3) := dX12_count_0_k.2.2.1
theorem dX12_count_5 : decode cX12_count 5 = .ok (.iload_n 1, 1) := dX12_count_0_k.2.2.2.1
theorem dX12_count_6 : decode cX12_count 6 = .ok (.iconst 0, 1) := dX12_count_0_k.2.2.2.2.1
theorem dX12_count_7 : decode cX12_count 7 = .ok (.bipush 28, 2) := dX12_count_0_k.2.2.2.2.2.1
theorem dX12_count_9 : decode cX12_count 9 = .ok (.invokestatic 59, 3) := dX12_count_0_k.2.2.2.2.2.2.1
theorem dX12_count_12 : decode cX12_count 12 = .ok (.ifCond .eq 11, 3) := dX12_count_0_k.2.2.2.2.2.2.2.1
theorem dX12_count_15 : decode cX12_count 15 = .ok (.aload_n 0, 1) := dX12_count_0_k.2.2.2.2.2.2.2.2.1
theorem dX12_count_16 : decode cX12_count 16 = .ok (.iload_n 1, 1) := dX12_count_0_k.2.2.2.2.2.2.2.2.2.1
theorem dX12_count_17 : decode cX12_count 17 = .ok (.invokevirtual 230, 3) := dX12_count_0_k.2.2.2.2.2.2.2.2.2.2.1
theorem dX12_count_20 : decode cX12_count 20 = .ok (.goto 4, 3) := dX12_count_0_k.2.2.2.2.2.2.2.2.2.2.2.1
theorem dX12_count_23 : decode cX12_count 23 = .ok (.iconst (-1), 1) := dX12_count_0_k.2.2.2.2.2.2.2.2.2.2.2.2.1
theorem dX12_count_24 : decode cX12_count 24 = .ok (.ireturn, 1) := dX12_count_0_k.2.2.2.2.2.2.2.2.2.2.2.2.2
theorem dX12_counted_0_k : decode cX12_counted 0 = .ok (.iload_n 1, 1) ∧ decode cX12_counted 1 = .ok (.tableswitch 229 8 28 #[99, 107, 115, 123, 131, 139, 147, 147, 147, 160, 160, 160, 173, 181, 189, 189, 189, 189, 202, 211, 220], 99) ∧ decode cX12_counted 100 = .ok (.aload_n 0, 1) ∧ decode cX12_counted 101 = .ok (.getfield 7, 3) ∧ decode cX12_counted 104 = .ok (.bipush 9, 2) ∧ decode cX12_counted 106 = .ok (.iaload, 1) ∧ decode cX12_counted 107 = .ok (.ireturn, 1) ∧ decode cX12_counted 108 = .ok (.aload_n 0, 1) ∧ decode cX12_counted 109 = .ok (.getfield 7, 3) ∧ decode cX12_counted 112 = .ok (.bipush 25, 2) ∧ decode cX12_counted 114 = .ok (.iaload, 1) ∧ decode cX12_counted 115 = .ok (.ireturn, 1) ∧ decode cX12_counted 116 = .ok (.aload_n 0, 1) ∧ decode cX12_counted 117 = .ok (.getfield 7, 3) ∧ decode cX12_counted 120 = .ok (.bipush 26, 2) ∧ decode cX12_counted 122 = .ok (.iaload, 1) := by decide +kernel
theorem dX12_counted_0 : decode cX12_counted 0 = .ok (.iload_n 1, 1) := dX12_counted_0_k.1
theorem dX12_counted_1 : decode cX12_counted 1 = .ok (.tableswitch 229 8 28 #[99, 107, 115, 123, 131, 139, 147, 147, 147, 160, 160, 160, 173, 181, 189, 189, 189, 189, 202, 211, 220], 99) := dX12_counted_0_k.2.1
theorem dX12_counted_100 : decode cX12_counted 100 = .ok (.aload_n 0, 1) := dX12_counted_0_k.2.2.1
theorem dX12_counted_101 : decode cX12_counted 101 = .ok (.getfield 7, 3) := dX12_counted_0_k.2.2.2.1
theorem dX12_counted_104 : decode cX12_counted 104 = .ok (.bipush 9, 2) := dX12_counted_0_k.2.2.2.2.1
theorem dX12_counted_106 : decode cX12_counted 106 = .ok (.iaload, 1) := dX12_counted_0_k.2.2.2.2.2.1
theorem dX12_counted_107 : decode cX12_counted 107 = .ok (.ireturn, 1) := dX12_counted_0_k.2.2.2.2.2.2.1
theorem dX12_counted_108 : decode cX12_counted 108 = .ok (.aload_n 0, 1) := dX12_counted_0_k.2.2.2.2.2.2.2.1
theorem dX12_counted_109 : decode cX12_counted 109 = .ok (.getfield 7, 3) := dX12_counted_0_k.2.2.2.2.2.2.2.2.1
theorem dX12_counted_112 : decode cX12_counted 112 = .ok (.bipush 25, 2) := dX12_counted_0_k.2.2.2.2.2.2.2.2.2.1
theorem dX12_counted_114 : decode cX12_counted 114 = .ok (.iaload, 1) := dX12_counted_0_k.2.2.2.2.2.2.2.2.2.2.1
theorem dX12_counted_115 : decode cX12_counted 115 = .ok (.ireturn, 1) := dX12_counted_0_k.2.2.2.2.2.2.2.2.2.2.2.1
theorem dX12_counted_116 : decode cX12_counted 116 = .ok (.aload_n 0, 1) := dX12_counted_0_k.2.2.2.2.2.2.2.2.2.2.2.2.1
theorem dX12_counted_117 : decode cX12_counted 117 = .ok (.getfield 7, 3) := dX12_counted_0_k.2.2.2.2.2.2.2.2.2.2.2.2.2.1
theorem dX12_counted_120 : decode cX12_counted 120 = .ok (.bipush 26, 2) := dX12_counted_0_k.2.2.2.2.2.2.2.2.2.2.2.2.2.2.1
theorem dX12_counted_122 : decode cX12_counted 122 = .ok (.iaload, 1) := dX12_counted_0_k.2.2.2.2.2.2.2.2.2.2.2.2.2.2.2
theorem dX12_counted_123_k : decode cX12_counted 123 = .ok (.ireturn, 1) ∧ decode cX12_counted 124 = .ok (.aload_n 0, 1) ∧ decode cX12_counted 125 = .ok (.getfield 7, 3) ∧ decode cX12_counted 128 = .ok (.bipush 27, 2) ∧ decode cX12_counted 130 = .ok (.iaload, 1) ∧ decode cX12_counted 131 = .ok (.ireturn, 1) ∧ decode cX12_counted 132 = .ok (.aload_n 0, 1) ∧ decode cX12_counted 133 = .ok (.getfield 7, 3) ∧ decode cX12_counted 136 = .ok (.bipush 28, 2) ∧ decode cX12_counted 138 = .ok (.iaload, 1) ∧ decode cX12_counted 139 = .ok (.ireturn, 1) ∧ decode cX12_counted 140 = .ok (.aload_n 0, 1) ∧ decode cX12_counted 141 = .ok (.getfield 7, 3) ∧ decode cX12_counted 144 = .ok (.bipush 23, 2) ∧ decode cX12_counted 146 = .ok (.iaload, 1) ∧ decode cX12_counted 147 = .ok (.ireturn, 1) := by decide +kernel
theorem dX12_counted_123 : decode cX12_counted 123 = .ok (.ireturn, 1) := dX12_counted_123_k.1
theorem dX12_counted_124 : decode cX12_counted 124 = .ok (.aload_n 0, 1) := dX12_counted_123_k.2.1
theorem dX12_counted_125 : decode cX12_counted 125 = .ok (.getfield 7, 3) := dX12_counted_123_k.2.2.1
theorem dX12_counted_128 : decode cX12_counted 128 = .ok (.bipush 27, 2) := dX12_counted_123_k.2.2.2.1
theorem dX12_counted_130 : decode cX12_counted 130 = .ok (.iaload, 1) := dX12_counted_123_k.2.2.2.2.1
theorem dX12_counted_131 : decode cX12_counted 131 = .ok (.ireturn, 1) := dX12_counted_123_k.2.2.2.2.2.1
theorem dX12_counted_132 : decode cX12_counted 132 = .ok (.aload_n 0, 1) := dX12_counted_123_k.2.2.2.2.2.2.1
theorem dX12_counted_133 : decode cX12_counted 133 = .ok (.getfield 7, 3) := dX12_counted_123_k.2.2.2.2.2.2.2.1
theorem dX12_counted_136 : decode cX12_counted 136 = .ok (.bipush 28, 2) := dX12_counted_123_k.2.2.2.2.2.2.2.2.1
theorem dX12_counted_138 : decode cX12_counted 138 = .ok (.iaload, 1) := dX12_counted_123_k.2.2.2.2.2.2.2.2.2.1
theorem dX12_counted_139 : decode cX12_counted 139 = .ok (.ireturn, 1) := dX12_counted_123_k.2.2.2.2.2.2.2.2.2.2.1
theorem dX12_counted_140 : decode cX12_counted 140 = .ok (.aload_n 0, 1) := dX12_counted_123_k.2.2.2.2.2.2.2.2.2.2.2.1
theorem dX12_counted_141 : decode cX12_counted 141 = .ok (.getfield 7, 3) := dX12_counted_123_k.2.2.2.2.2.2.2.2.2.2.2.2.1
theorem dX12_counted_144 : decode cX12_counted 144 = .ok (.bipush 23, 2) := dX12_counted_123_k.2.2.2.2.2.2.2.2.2.2.2.2.2.1
theorem dX12_counted_146 : decode cX12_counted 146 = .ok (.iaload, 1) := dX12_counted_123_k.2.2.2.2.2.2.2.2.2.2.2.2.2.2.1
theorem dX12_counted_147 : decode cX12_counted 147 = .ok (.ireturn, 1) := dX12_counted_123_k.2.2.2.2.2.2.2.2.2.2.2.2.2.2.2
theorem dX12_counted_148_k : decode cX12_counted 148 = .ok (.aload_n 0, 1) ∧ decode cX12_counted 149 = .ok (.getfield 7, 3) ∧ decode cX12_counted 152 = .ok (.bipush 29, 2) ∧ decode cX12_counted 154 = .ok (.iload_n 1, 1) ∧ decode cX12_counted 155 = .ok (.iadd, 1) ∧ decode cX12_counted 156 = .ok (.bipush 14, 2) ∧ decode cX12_counted 158 = .ok (.isub, 1) ∧ decode cX12_counted 159 = .ok (.iaload, 1) ∧ decode cX12_counted 160 = .ok (.ireturn, 1) ∧ decode cX12_counted 161 = .ok (.aload_n 0, 1) ∧ decode cX12_counted 162 = .ok (.getfield 7, 3) ∧ decode cX12_counted 165 = .ok (.bipush 33, 2) ∧ decode cX12_counted 167 = .ok (.iload_n 1, 1) ∧ decode cX12_counted 168 = .ok (.iadd, 1) ∧ decode cX12_counted 169 = .ok (.bipush 17, 2) ∧ decode cX12_counted 171 = .ok (.isub, 1) := by decide +kernel
theorem dX12_counted_148 : decode cX12_counted 148 = .ok (.aload_n 0, 1) := dX12_counted_148_k.1
theorem dX12_counted_149 : decode cX12_counted 149 = .ok (.getfield 7, 3) := dX12_counted_148_k.2.1
theorem dX12_counted_152 : decode cX12_counted 152 = .ok (.bipush 29, 2) := dX12_counted_148_k.2.2.1
theorem dX12_counted_154 : decode cX12_counted 154 = .ok (.iload_n 1, 1) := dX12_counted_148_k.2.2.2.1
theorem dX12_counted_155 : decode cX12_counted 155 = .ok (.iadd, 1) := dX12_counted_148_k.2.2.2.2.1
theorem dX12_counted_156 : decode cX12_counted 156 = .ok (.bipush 14, 2) := dX12_counted_148_k.2.2.2.2.2.1
theorem dX12_counted_158 : decode cX12_counted 158 = .ok (.isub, 1) := dX12_counted_148_k.2.2.2.2.2.2.1
theorem dX12_counted_159 : decode cX12_counted 159 = .ok (.iaload, 1) := dX12_counted_148_k.2.2.2.2.2.2.2.1
theorem dX12_counted_160 : decode cX12_counted 160 = .ok (.ireturn, 1) := dX12_counted_148_k.2.2.2.2.2.2.2.2.1
theorem dX12_counted_161 : decode cX12_counted 161 = .ok (.aload_n 0, 1) := dX12_counted_148_k.2.2.2.2.2.2.2.2.2.1
theorem dX12_counted_162 : decode cX12_counted 162 = .ok (.getfield 7, 3) := dX12_counted_148_k.2.2.2.2.2.2.2.2.2.2.1
theorem dX12_counted_165 : decode cX12_counted 165 = .ok (.bipush 33, 2) := dX12_counted_148_k.2.2.2.2.2.2.2.2.2.2.2.1
theorem dX12_counted_167 : decode cX12_counted 167 = .ok (.iload_n 1, 1) := dX12_counted_148_k.2.2.2.2.2.2.2.2.2.2.2.2.1
theorem dX12_counted_168 : decode cX12_counted 168 = .ok (.iadd, 1) := dX12_counted_148_k.2.2.2.2.2.2.2.2.2.2.2.2.2.1
theorem dX12_counted_169 : decode cX12_counted 169 = .ok (.bipush 17, 2) := dX12_counted_148_k.2.2.2.2.2.2.2.2.2.2.2.2.2.2.1
theorem dX12_counted_171 : decode cX12_counted 171 = .ok (.isub, 1) := dX12_counted_148_k.2.2.2.2.2.2.2.2.2.2.2.2.2.2.2
theorem dX12_counted_172_k : decode cX12_counted 172 = .ok (.iaload, 1) ∧ decode cX12_counted 173 = .ok (.ireturn, 1) ∧ decode cX12_counted 174 = .ok (.aload_n 0, 1) ∧ decode cX12_counted 175 = .ok (.getfield 7, 3) ∧ decode cX12_counted 178 = .ok (.bipush 37, 2) ∧ decode cX12_counted 180 = .ok (.iaload, 1) ∧ decode cX12_counted 181 = .ok (.ireturn, 1) ∧ decode cX12_counted 182 = .ok (.aload_n 0, 1) ∧ decode cX12_counted 183 = .ok (.getfield 7, 3) ∧ decode cX12_counted 186 = .ok (.bipush 43, 2) ∧ decode cX12_counted 188 = .ok (.iaload, 1) ∧ decode cX12_counted 189 = .ok (.ireturn, 1) ∧ decode cX12_counted 190 = .ok (.aload_n 0, 1) ∧ decode cX12_counted 191 = .ok (.getfield 7, 3) ∧ decode cX12_counted 194 = .ok (.bipush 39, 2) ∧ decode cX12_counted 196 = .ok (.iload_n 1, 1) := by decide +kernel
theorem dX12_counted_172 : decode cX12_counted 172 = .ok (.iaload, 1) := dX12_counted_172_k.1
theorem dX12_counted_173 : decode cX12_counted 173 = .ok (.ireturn, 1) := dX12_counted_172_k.2.1
theorem dX12_counted_174 : decode cX12_counted 174 = .ok (.aload_n 0, 1) := dX12_counted_172_k.2.2.1
theorem dX12_counted_175 : decode cX12_counted 175 = .ok (.getfield 7, 3) := dX12_counted_172_k.2.2.2.1
theorem dX12_counted_178 : decode cX12_counted 178 = .ok (.bipush 37, 2) := dX12_counted_172_k.2.2.2.2.1
theorem dX12_counted_180 : decode cX12_counted 180 = .ok (.iaload, 1) := dX12_counted_172_k.2.2.2.2.2.1
theorem dX12_counted_181 : decode cX12_counted 181 = .ok (.ireturn, 1) := dX12_counted_172_k.2.2.2.2.2.2.1
theorem dX12_counted_182 : decode cX12_counted 182 = .ok (.aload_n 0, 1) := dX12_counted_172_k.2.2.2.2.2.2.2.1
theorem dX12_counted_183 : decode cX12_counted 183 = .ok (.getfield 7, 3) := dX12_counted_172_k.2.2.2.2.2.2.2.2.1
theorem dX12_counted_186 : decode cX12_counted 186 = .ok (.bipush 43, 2) := dX12_counted_172_k.2.2.2.2.2.2.2.2.2.1
theorem dX12_counted_188 : decode cX12_counted 188 = .ok (.iaload, 1) := dX12_counted_172_k.2.2.2.2.2.2.2.2.2.2.1
theorem dX12_counted_189 : decode cX12_counted 189 = .ok (.ireturn, 1) := dX12_counted_172_k.2.2.2.2.2.2.2.2.2.2.2.1
theorem dX12_counted_190 : decode cX12_counted 190 = .ok (.aload_n 0, 1) := dX12_counted_172_k.2.2.2.2.2.2.2.2.2.2.2.2.1
theorem dX12_counted_191 : decode cX12_counted 191 = .ok (.getfield 7, 3) := dX12_counted_172_k.2.2.2.2.2.2.2.2.2.2.2.2.2.1
theorem dX12_counted_194 : decode cX12_counted 194 = .ok (.bipush 39, 2) := dX12_counted_172_k.2.2.2.2.2.2.2.2.2.2.2.2.2.2.1
theorem dX12_counted_196 : decode cX12_counted 196 = .ok (.iload_n 1, 1) := dX12_counted_172_k.2.2.2.2.2.2.2.2.2.2.2.2.2.2.2
theorem dX12_counted_197_k : decode cX12_counted 197 = .ok (.iadd, 1) ∧ decode cX12_counted 198 = .ok (.bipush 22, 2) ∧ decode cX12_counted 200 = .ok (.isub, 1) ∧ decode cX12_counted 201 = .ok (.iaload, 1) ∧ decode cX12_counted 202 = .ok (.ireturn, 1) ∧ decode cX12_counted 203 = .ok (.aload_n 0, 1) ∧ decode cX12_counted 204 = .ok (.getfield 7, 3) ∧ decode cX12_counted 207 = .ok (.sipush 300, 3) ∧ decode cX12_counted 210 = .ok (.iaload, 1) ∧ decode cX12_counted 211 = .ok (.ireturn, 1) ∧ decode cX12_counted 212 = .ok (.aload_n 0, 1) ∧ decode cX12_counted 213 = .ok (.getfield 7, 3) ∧ decode cX12_counted 216 = .ok (.sipush 701, 3) ∧ decode cX12_counted 219 = .ok (.iaload, 1) ∧ decode cX12_counted 220 = .ok (.ireturn, 1) ∧ decode cX12_counted 221 = .ok (.aload_n 0, 1) := by decide +kernel
theorem dX12_counted_197 : decode cX12_counted 197 = .ok (.iadd, 1) := dX12_counted_197_k.1
theorem dX12_counted_198 : decode cX12_counted 198 = .ok (.bipush 22, 2) := dX12_counted_197_k.2.1
theorem dX12_counted_200 : decode cX12_counted 200 = .ok (.isub, 1) := dX12_counted_197_k.2.2.1
theorem dX12_counted_201 : decode cX12_counted 201 = .ok (.iaload, 1) := dX12_counted_197_k.2.2.2.1
theorem dX12_counted_202 : decode cX12_counted 202 = .ok (.ireturn, 1) := dX12_counted_197_k.2.2.2.2.1
theorem dX12_counted_203 : decode cX12_counted 203 = .ok (.aload_n 0, 1) := dX12_counted_197_k.2.2.2.2.2.1
theorem dX12_counted_204 : decode cX12_counted 204 = .ok (.getfield 7, 3) := dX12_counted_197_k.2.2.2.2.2.2.1
theorem dX12_counted_207 : decode cX12_counted 207 = .ok (.sipush 300, 3) := dX12_counted_197_k.2.2.2.2.2.2.2.1
theorem dX12_counted_210 : decode cX12_counted 210 = .ok (.iaload, 1) := dX12_counted_197_k.2.2.2.2.2.2.2.2.1
theorem dX12_counted_211 : decode cX12_counted 211 = .ok (.ireturn, 1) := dX12_counted_197_k.2.2.2.2.2.2.2.2.2.1
theorem dX12_counted_212 : decode cX12_counted 212 = .ok (.aload_n 0, 1) := dX12_counted_197_k.2.2.2.2.2.2.2.2.2.2.1
theorem dX12_counted_213 : decode cX12_counted 213 = .ok (.getfield 7, 3) := dX12_counted_197_k.2.2.2.2.2.2.2.2.2.2.2.1
theorem dX12_counted_216 : decode cX12_counted 216 = .ok (.sipush 701, 3) := dX12_counted_197_k.2.2.2.2.2.2.2.2.2.2.2.2.1
theorem dX12_counted_219 : decode cX12_counted 219 = .ok (.iaload, 1) := dX12_counted_197_k.2.2.2.2.2.2.2.2.2.2.2.2.2.1
theorem dX12_counted_220 : decode cX12_counted 220 = .ok (.ireturn, 1) := dX12_counted_197_k.2.2.2.2.2.2.2.2.2.2.2.2.2.2.1
theorem dX12_counted_221 : decode cX12_counted 221 = .ok (.aload_n 0, 1) := dX12_counted_197_k.2.2.2.2.2.2.2.2.2.2.2.2.2.2.2
theorem dX12_counted_222_k : decode cX12_counted 222 = .ok (.getfield 7, 3) ∧ decode cX12_counted 225 = .ok (.sipush 942, 3) ∧ decode cX12_counted 228 = .ok (.iaload, 1) ∧ decode cX12_counted 229 = .ok (.ireturn, 1) ∧ decode cX12_counted 230 = .ok (.aload_n 0, 1) ∧ decode cX12_counted 231 = .ok (.getfield 7, 3) ∧ decode cX12_counted 234 = .ok (.iload_n 1, 1) ∧ decode cX12_counted 235 = .ok (.iaload, 1) ∧ decode cX12_counted 236 = .ok (.ireturn, 1) := by decide +kernel
theorem dX12_counted_222 : decode cX12_counted 222 = .ok (.getfield 7, 3) := dX12_counted_222_k.1
theorem dX12_counted_225 : decode cX12_counted 225 = .ok (.sipush 942, 3) := dX12_counted_222_k.2.1
theorem dX12_counted_228 : decode cX12_counted 228 = .ok (.iaload, 1) := dX12_counted_222_k.2.2.1
theorem dX12_counted_229 : decode cX12_counted 229 = .ok (.ireturn, 1) := dX12_counted_222_k.2.2.2.1
theorem dX12_counted_230 : decode cX12_counted 230 = .ok (.aload_n 0, 1) := dX12_counted_222_k.2.2.2.2.1
theorem dX12_counted_231 : decode cX12_counted 231 = .ok (.getfield 7, 3) := dX12_counted_222_k.2.2.2.2.2.1
theorem dX12_counted_234 : decode cX12_counted 234 = .ok (.iload_n 1, 1) := dX12_counted_222_k.2.2.2.2.2.2.1
theorem dX12_counted_235 : decode cX12_counted 235 = .ok (.iaload, 1) := dX12_counted_222_k.2.2.2.2.2.2.2.1
theorem dX12_counted_236 : decode cX12_counted 236 = .ok (.ireturn, 1) := dX12_counted_222_k.2.2.2.2.2.2.2.2
theorem dX12_history_0_k : decode cX12_history 0 = .ok (.aload_n 0, 1) ∧ decode cX12_history 1 = .ok (.iconst 0, 1) ∧ decode cX12_history 2 = .ok (.putfield 33, 3) ∧ decode cX12_history 5 = .ok (.iload_n 1, 1) ∧ decode cX12_history 6 = .ok (.iconst 0, 1) ∧ decode cX12_history 7 = .ok (.aload_n 0, 1) ∧ decode cX12_history 8 = .ok (.getfield 7, 3) ∧ decode cX12_history 11 = .ok (.sipush 300, 3) ∧ decode cX12_history 14 = .ok (.iaload, 1) ∧ decode cX12_history 15 = .ok (.iconst 1, 1) ∧ decode cX12_history 16 = .ok (.isub, 1) ∧ decode cX12_history 17 = .ok (.invokestatic 59, 3) ∧ decode cX12_history 20 = .ok (.ifCond .eq 16, 3) ∧ decode cX12_history 23 = .ok (.aload_n 0, 1) ∧ decode cX12_history 24 = .ok (.getfield 7, 3) ∧ decode cX12_history 27 = .ok (.sipush 301, 3) := by decide +kernel
theorem dX12_history_0 : decode cX12_history 0 = .ok (.aload_n 0, 1) := dX12_history_0_k.1
theorem dX12_history_1 : decode cX12_history 1 = .ok (.iconst 0, 1) := dX12_history_0_k.2.1
theorem dX12_history_2 : decode cX12_history 2 = .ok (.putfield 33, 3) := dX12_history_0_k.2.2.1
theorem dX12_history_5 : decode cX12_history 5 = .ok (.iload_n 1, 1) := dX12_history_0_k.2.2.2.1
theorem dX12_history_6 : decode cX12_history 6 = .ok (.iconst 0, 1) := dX12_history_0_k.2.2.2.2.1
theorem dX12_history_7 : decode cX12_history 7 = .ok (.aload_n 0, 1) := dX12_history_0_k.2.2.2.2.2.1
theorem dX12_history_8 : decode cX12_history 8 = .ok (.getfield 7, 3) := dX12_history_0_k.2.2.2.2.2.2.1
theorem dX12_history_11 : decode cX12_history 11 = .ok (.sipush 300, 3) := dX12_history_0_k.2.2.2.2.2.2.2.1
theorem dX12_history_14 : decode cX12_history 14 = .ok (.iaload, 1) := dX12_history_0_k.2.2.2.2.2.2.2.2.1
theorem dX12_history_15 : decode cX12_history 15 = .ok (.iconst 1, 1) := dX12_history_0_k.2.2.2.2.2.2.2.2.2.1
theorem dX12_history_16 : decode cX12_history 16 = .ok (.isub, 1) := dX12_history_0_k.2.2.2.2.2.2.2.2.2.2.1
theorem dX12_history_17 : decode cX12_history 17 = .ok (.invokestatic 59, 3) := dX12_history_0_k.2.2.2.2.2.2.2.2.2.2.2.1
theorem dX12_history_20 : decode cX12_history 20 = .ok (.ifCond .eq 16, 3) := dX12_history_0_k.2.2.2.2.2.2.2.2.2.2.2.2.1
theorem dX12_history_23 : decode cX12_history 23 = .ok (.aload_n 0, 1) := dX12_history_0_k.2.2.2.2.2.2.2.2.2.2.2.2.2.1
theorem dX12_history_24 : decode cX12_history 24 = .ok (.getfield 7, 3) := dX12_history_0_k.2.2.2.2.2.2.2.2.2.2.2.2.2.2.1
theorem dX12_history_27 : decode cX12_history 27 = .ok (.sipush 301, 3) := dX12_history_0_k.2.2.2.2.2.2.2.2.2.2.2.2.2.2.2
theorem dX12_history_30_k : decode cX12_history 30 = .ok (.iload_n 1, 1) ∧ decode cX12_history 31 = .ok (.iadd, 1) ∧ decode cX12_history 32 = .ok (.iaload, 1) ∧ decode cX12_history 33 = .ok (.goto 4, 3) ∧ decode cX12_history 36 = .ok (.iconst (-1), 1) ∧ decode cX12_history 37 = .ok (.ireturn, 1) := by decide +kernel
theorem dX12_history_30 : decode cX12_history 30 = .ok (.iload_n 1, 1) := dX12_history_30_k.1
theorem dX12_history_31 : decode cX12_history 31 = .ok (.iadd, 1) := dX12_history_30_k.2.1
theorem dX12_history_32 : decode cX12_history 32 = .ok (.iaload, 1) := dX12_history_30_k.2.2.1
theorem dX12_history_33 : decode cX12_history 33 = .ok (.goto 4, 3) := dX12_history_30_k.2.2.2.1
theorem dX12_history_36 : decode cX12_history 36 = .ok (.iconst (-1), 1) := dX12_history_30_k.2.2.2.2.1
theorem dX12_history_37 : decode cX12_history 37 = .ok (.ireturn, 1) := dX12_history_30_k.2.2.2.2.2
theorem dX12_pool_0_k : decode cX12_pool 0 = .ok (.aload_n 0, 1) ∧ decode cX12_pool 1 = .ok (.iconst 0, 1) ∧ decode cX12_pool 2 = .ok (.putfield 33, 3) ∧ decode cX12_pool 5 = .ok (.iload_n 1, 1) ∧ decode cX12_pool 6 = .ok (.iconst 0, 1) ∧ decode cX12_pool 7 = .ok (.aload_n 0, 1) ∧ decode cX12_pool 8 = .ok (.getfield 7, 3) ∧ decode cX12_pool 11 = .ok (.bipush 43, 2) ∧ decode cX12_pool 13 = .ok (.iaload, 1) ∧ decode cX12_pool 14 = .ok (.iconst 1, 1) ∧ decode cX12_pool 15 = .ok (.isub, 1) ∧ decode cX12_pool 16 = .ok (.invokestatic 59, 3) ∧ decode cX12_pool 19 = .ok (.ifCond .eq 15, 3) ∧ decode cX12_pool 22 = .ok (.aload_n 0, 1) ∧ decode cX12_pool 23 = .ok (.getfield 7, 3) ∧ decode cX12_pool 26 = .ok (.bipush 44, 2) := by decide +kernel
theorem dX12_pool_0 : decode cX12_pool 0 = .ok (.aload_n 0, 1) := dX12_pool_0_k.1
theorem dX12_pool_1 : decode cX12_pool 1 = .ok (.iconst 0, 1) := dX12_pool_0_k.2.1
theorem dX12_pool_2 : decode cX12_pool 2 = .ok (.putfield 33, 3) := dX12_pool_0_k.2.2.1
theorem dX12_pool_5 : decode cX12_pool 5 = .ok (.iload_n 1, 1) := dX12_pool_0_k.2.2.2.1
theorem dX12_pool_6 : decode cX12_pool 6 = .ok (.iconst 0, 1) := dX12_pool_0_k.2.2.2.2.1
theorem dX12_pool_7 : decode cX12_pool 7 = .ok (.aload_n 0, 1) := dX12_pool_0_k.2.2.2.2.2.1
theorem dX12_pool_8 : decode cX12_pool 8 = .ok (.getfield 7, 3) := dX12_pool_0_k.2.2.2.2.2.2.1
theorem dX12_pool_11 : decode cX12_pool 11 = .ok (.bipush 43, 2) := dX12_pool_0_k.2.2.2.2.2.2.2.1
theorem dX12_pool_13 : decode cX12_pool 13 = .ok (.iaload, 1) := dX12_pool_0_k.2.2.2.2.2.2.2.2.1
theorem dX12_pool_14 : decode cX12_pool 14 = .ok (.iconst 1, 1) := dX12_pool_0_k.2.2.2.2.2.2.2.2.2.1
theorem dX12_pool_15 : decode cX12_pool 15 = .ok (.isub, 1) := dX12_pool_0_k.2.2.2.2.2.2.2.2.2.2.1
theorem dX12_pool_16 : decode cX12_pool 16 = .ok (.invokestatic 59, 3) := dX12_pool_0_k.2.2.2.2.2.2.2.2.2.2.2.1
theorem dX12_pool_19 : decode cX12_pool 19 = .ok (.ifCond .eq 15, 3) := dX12_pool_0_k.2.2.2.2.2.2.2.2.2.2.2.2.1
theorem dX12_pool_22 : decode cX12_pool 22 = .ok (.aload_n 0, 1) := dX12_pool_0_k.2.2.2.2.2.2.2.2.2.2.2.2.2.1
theorem dX12_pool_23 : decode cX12_pool 23 = .ok (.getfield 7, 3) := dX12_pool_0_k.2.2.2.2.2.2.2.2.2.2.2.2.2.2.1
theorem dX12_pool_26 : decode cX12_pool 26 = .ok (.bipush 44, 2) := dX12_pool_0_k.2.2.2.2.2.2.2.2.2.2.2.2.2.2.2
theorem dX12_pool_28_k : decode cX12_pool 28 = .ok (.iload_n 1, 1) ∧ decode cX12_pool 29 = .ok (.iadd, 1) ∧ decode cX12_pool 30 = .ok (.iaload, 1) ∧ decode cX12_pool 31 = .ok (.goto 4, 3) ∧ decode cX12_pool 34 = .ok (.iconst (-1), 1) ∧ decode cX12_pool 35 = .ok (.ireturn, 1) := by decide +kernel
theorem dX12_pool_28 : decode cX12_pool 28 = .ok (.iload_n 1, 1) := dX12_pool_28_k.1
theorem dX12_pool_29 : decode cX12_pool 29 = .ok (.iadd, 1) := dX12_pool_28_k.2.1
theorem dX12_pool_30 : decode cX12_pool 30 = .ok (.iaload, 1) := dX12_pool_28_k.2.2.1
theorem dX12_pool_31 : decode cX12_pool 31 = .ok (.goto 4, 3) := dX12_pool_28_k.2.2.2.1
theorem dX12_pool_34 : decode cX12_pool 34 = .ok (.iconst (-1), 1) := dX12_pool_28_k.2.2.2.2.1
theorem dX12_pool_35 : decode cX12_pool 35 = .ok (.ireturn, 1) := dX12_pool_28_k.2.2.2.2.2
theorem dX12_rowAt_0_k : decode cX12_rowAt 0 = .ok (.aload_n 0, 1) ∧ decode cX12_rowAt 1 = .ok (.getfield 7, 3) ∧ decode cX12_rowAt 4 = .ok (.sipush 702, 3) ∧ decode cX12_rowAt 7 = .ok (.bipush 16, 2) ∧ decode cX12_rowAt 9 = .ok (.iload_n 1, 1) ∧ decode cX12_rowAt 10 = .ok (.imul, 1) ∧ decode cX12_rowAt 11 = .ok (.iadd, 1) ∧ decode cX12_rowAt 12 = .ok (.iload_n 2, 1) ∧ decode cX12_rowAt 13 = .ok (.iadd, 1) ∧ decode cX12_rowAt 14 = .ok (.iaload, 1) ∧ decode cX12_rowAt 15 = .ok (.ireturn, 1) := by decide +kernel
theorem dX12_rowAt_0 : decode cX12_rowAt 0 = .ok (.aload_n 0, 1) := dX12_rowAt_0_k.1
theorem dX12_rowAt_1 : decode cX12_rowAt 1 = .ok (.getfield 7, 3) := dX12_rowAt_0_k.2.1
theorem dX12_rowAt_4 : decode cX12_rowAt 4 = .ok (.sipush 702, 3) := dX12_rowAt_0_k.2.2.1
theorem dX12_rowAt_7 : decode cX12_rowAt 7 = .ok (.bipush 16, 2) := dX12_rowAt_0_k.2.2.2.1
theorem dX12_rowAt_9 : decode cX12_rowAt 9 = .ok (.iload_n 1, 1) := dX12_rowAt_0_k.2.2.2.2.1
theorem dX12_rowAt_10 : decode cX12_rowAt 10 = .ok (.imul, 1) := dX12_rowAt_0_k.2.2.2.2.2.1
theorem dX12_rowAt_11 : decode cX12_rowAt 11 = .ok (.iadd, 1) := dX12_rowAt_0_k.2.2.2.2.2.2.1
theorem dX12_rowAt_12 : decode cX12_rowAt 12 = .ok (.iload_n 2, 1) := dX12_rowAt_0_k.2.2.2.2.2.2.2.1
theorem dX12_rowAt_13 : decode cX12_rowAt 13 = .ok (.iadd, 1) := dX12_rowAt_0_k.2.2.2.2.2.2.2.2.1
theorem dX12_rowAt_14 : decode cX12_rowAt 14 = .ok (.iaload, 1) := dX12_rowAt_0_k.2.2.2.2.2.2.2.2.2.1
theorem dX12_rowAt_15 : decode cX12_rowAt 15 = .ok (.ireturn, 1) := dX12_rowAt_0_k.2.2.2.2.2.2.2.2.2.2
theorem dX12_row_0_k : decode cX12_row 0 = .ok (.aload_n 0, 1) ∧ decode cX12_row 1 = .ok (.iconst 0, 1) ∧ decode cX12_row 2 = .ok (.putfield 33, 3) ∧ decode cX12_row 5 = .ok (.iload_n 1, 1) ∧ decode cX12_row 6 = .ok (.iconst 0, 1) ∧ decode cX12_row 7 = .ok (.aload_n 0, 1) ∧ decode cX12_row 8 = .ok (.getfield 7, 3) ∧ decode cX12_row 11 = .ok (.sipush 701, 3) ∧ decode cX12_row 14 = .ok (.iaload, 1) ∧ decode cX12_row 15 = .ok (.iconst 1, 1) ∧ decode cX12_row 16 = .ok (.isub, 1) ∧ decode cX12_row 17 = .ok (.invokestatic 59, 3) ∧ decode cX12_row 20 = .ok (.ifCond .ne 5, 3) ∧ decode cX12_row 23 = .ok (.iconst (-1), 1) ∧ decode cX12_row 24 = .ok (.ireturn, 1) ∧ decode cX12_row 25 = .ok (.iload_n 3, 1) := by decide +kernel
theorem dX12_row_0 : decode cX12_row 0 = .ok (.aload_n 0, 1) := dX12_row_0_k.1
theorem dX12_row_1 : decode cX12_row 1 = .ok (.iconst 0, 1) := dX12_row_0_k.2.1
theorem dX12_row_2 : decode cX12_row 2 = .ok (.putfield 33, 3) := dX12_row_0_k.2.2.1
theorem dX12_row_5 : decode cX12_row 5 = .ok (.iload_n 1, 1) := dX12_row_0_k.2.2.2.1
theorem dX12_row_6 : decode cX12_row 6 = .ok (.iconst 0, 1) := dX12_row_0_k.2.2.2.2.1
theorem dX12_row_7 : decode cX12_row 7 = .ok (.aload_n 0, 1) := dX12_row_0_k.2.2.2.2.2.1
theorem dX12_row_8 : decode cX12_row 8 = .ok (.getfield 7, 3) := dX12_row_0_k.2.2.2.2.2.2.1
theorem dX12_row_11 : decode cX12_row 11 = .ok (.sipush 701, 3) := dX12_row_0_k.2.2.2.2.2.2.2.1
theorem dX12_row_14 : decode cX12_row 14 = .ok (.iaload, 1) := dX12_row_0_k.2.2.2.2.2.2.2.2.1
theorem dX12_row_15 : decode cX12_row 15 = .ok (.iconst 1, 1) := dX12_row_0_k.2.2.2.2.2.2.2.2.2.1
theorem dX12_row_16 : decode cX12_row 16 = .ok (.isub, 1) := dX12_row_0_k.2.2.2.2.2.2.2.2.2.2.1
theorem dX12_row_17 : decode cX12_row 17 = .ok (.invokestatic 59, 3) := dX12_row_0_k.2.2.2.2.2.2.2.2.2.2.2.1
theorem dX12_row_20 : decode cX12_row 20 = .ok (.ifCond .ne 5, 3) := dX12_row_0_k.2.2.2.2.2.2.2.2.2.2.2.2.1
theorem dX12_row_23 : decode cX12_row 23 = .ok (.iconst (-1), 1) := dX12_row_0_k.2.2.2.2.2.2.2.2.2.2.2.2.2.1
theorem dX12_row_24 : decode cX12_row 24 = .ok (.ireturn, 1) := dX12_row_0_k.2.2.2.2.2.2.2.2.2.2.2.2.2.2.1
theorem dX12_row_25 : decode cX12_row 25 = .ok (.iload_n 3, 1) := dX12_row_0_k.2.2.2.2.2.2.2.2.2.2.2.2.2.2.2
theorem dX12_row_26_k : decode cX12_row 26 = .ok (.ifCond .eq 12, 3) ∧ decode cX12_row 29 = .ok (.aload_n 0, 1) ∧ decode cX12_row 30 = .ok (.iload_n 1, 1) ∧ decode cX12_row 31 = .ok (.iconst 0, 1) ∧ decode cX12_row 32 = .ok (.invokevirtual 233, 3) ∧ decode cX12_row 35 = .ok (.goto 31, 3) ∧ decode cX12_row 38 = .ok (.iload_n 2, 1) ∧ decode cX12_row 39 = .ok (.iconst 0, 1) ∧ decode cX12_row 40 = .ok (.aload_n 0, 1) ∧ decode cX12_row 41 = .ok (.iload_n 1, 1) ∧ decode cX12_row 42 = .ok (.iconst 0, 1) ∧ decode cX12_row 43 = .ok (.invokevirtual 233, 3) ∧ decode cX12_row 46 = .ok (.iconst 1, 1) ∧ decode cX12_row 47 = .ok (.isub, 1) ∧ decode cX12_row 48 = .ok (.invokestatic 59, 3) ∧ decode cX12_row 51 = .ok (.ifCond .eq 14, 3) := by decide +kernel
theorem dX12_row_26 : decode cX12_row 26 = .ok (.ifCond .eq 12, 3) := dX12_row_26_k.1
theorem dX12_row_29 : decode cX12_row 29 = .ok (.aload_n 0, 1) := dX12_row_26_k.2.1
theorem dX12_row_30 : decode cX12_row 30 = .ok (.iload_n 1, 1) := dX12_row_26_k.2.2.1
theorem dX12_row_31 : decode cX12_row 31 = .ok (.iconst 0, 1) := dX12_row_26_k.2.2.2.1
theorem dX12_row_32 : decode cX12_row 32 = .ok (.invokevirtual 233, 3) := dX12_row_26_k.2.2.2.2.1
theorem dX12_row_35 : decode cX12_row 35 = .ok (.goto 31, 3) := dX12_row_26_k.2.2.2.2.2.1
theorem dX12_row_38 : decode cX12_row 38 = .ok (.iload_n 2, 1) := dX12_row_26_k.2.2.2.2.2.2.1
theorem dX12_row_39 : decode cX12_row 39 = .ok (.iconst 0, 1) := dX12_row_26_k.2.2.2.2.2.2.2.1
theorem dX12_row_40 : decode cX12_row 40 = .ok (.aload_n 0, 1) := dX12_row_26_k.2.2.2.2.2.2.2.2.1
theorem dX12_row_41 : decode cX12_row 41 = .ok (.iload_n 1, 1) := dX12_row_26_k.2.2.2.2.2.2.2.2.2.1
theorem dX12_row_42 : decode cX12_row 42 = .ok (.iconst 0, 1) := dX12_row_26_k.2.2.2.2.2.2.2.2.2.2.1
theorem dX12_row_43 : decode cX12_row 43 = .ok (.invokevirtual 233, 3) := dX12_row_26_k.2.2.2.2.2.2.2.2.2.2.2.1
theorem dX12_row_46 : decode cX12_row 46 = .ok (.iconst 1, 1) := dX12_row_26_k.2.2.2.2.2.2.2.2.2.2.2.2.1
theorem dX12_row_47 : decode cX12_row 47 = .ok (.isub, 1) := dX12_row_26_k.2.2.2.2.2.2.2.2.2.2.2.2.2.1
theorem dX12_row_48 : decode cX12_row 48 = .ok (.invokestatic 59, 3) := dX12_row_26_k.2.2.2.2.2.2.2.2.2.2.2.2.2.2.1
theorem dX12_row_51 : decode cX12_row 51 = .ok (.ifCond .eq 14, 3) := dX12_row_26_k.2.2.2.2.2.2.2.2.2.2.2.2.2.2.2
theorem dX12_row_54_k : decode cX12_row 54 = .ok (.aload_n 0, 1) ∧ decode cX12_row 55 = .ok (.iload_n 1, 1) ∧ decode cX12_row 56 = .ok (.iconst 1, 1) ∧ decode cX12_row 57 = .ok (.iload_n 2, 1) ∧ decode cX12_row 58 = .ok (.iadd, 1) ∧ decode cX12_row 59 = .ok (.invokevirtual 233, 3) ∧ decode cX12_row 62 = .ok (.goto 4, 3) ∧ decode cX12_row 65 = .ok (.iconst (-1), 1) ∧ decode cX12_row 66 = .ok (.ireturn, 1) := by decide +kernel
theorem dX12_row_54 : decode cX12_row 54 = .ok (.aload_n 0, 1) := dX12_row_54_k.1
theorem dX12_row_55 : decode cX12_row 55 = .ok (.iload_n 1, 1) := dX12_row_54_k.2.1
theorem dX12_row_56 : decode cX12_row 56 = .ok (.iconst 1, 1) := dX12_row_54_k.2.2.1
theorem dX12_row_57 : decode cX12_row 57 = .ok (.iload_n 2, 1) := dX12_row_54_k.2.2.2.1
theorem dX12_row_58 : decode cX12_row 58 = .ok (.iadd, 1) := dX12_row_54_k.2.2.2.2.1
theorem dX12_row_59 : decode cX12_row 59 = .ok (.invokevirtual 233, 3) := dX12_row_54_k.2.2.2.2.2.1
theorem dX12_row_62 : decode cX12_row 62 = .ok (.goto 4, 3) := dX12_row_54_k.2.2.2.2.2.2.1
theorem dX12_row_65 : decode cX12_row 65 = .ok (.iconst (-1), 1) := dX12_row_54_k.2.2.2.2.2.2.2.1
theorem dX12_row_66 : decode cX12_row 66 = .ok (.ireturn, 1) := dX12_row_54_k.2.2.2.2.2.2.2.2
theorem dX12_late_0_k : decode cX12_late 0 = .ok (.aload_n 0, 1) ∧ decode cX12_late 1 = .ok (.getfield 7, 3) ∧ decode cX12_late 4 = .ok (.sipush 301, 3) ∧ decode cX12_late 7 = .ok (.aload_n 0, 1) ∧ decode cX12_late 8 = .ok (.getfield 7, 3) ∧ decode cX12_late 11 = .ok (.sipush 300, 3) ∧ decode cX12_late 14 = .ok (.iaload, 1) ∧ decode cX12_late 15 = .ok (.iadd, 1) ∧ decode cX12_late 16 = .ok (.iload_n 1, 1) ∧ decode cX12_late 17 = .ok (.isub, 1) ∧ decode cX12_late 18 = .ok (.iload_n 2, 1) ∧ decode cX12_late 19 = .ok (.iadd, 1) ∧ decode cX12_late 20 = .ok (.iaload, 1) ∧ decode cX12_late 21 = .ok (.ireturn, 1) := by decide +kernel
theorem dX12_late_0 : decode cX12_late 0 = .ok (.aload_n 0, 1) := dX12_late_0_k.1
theorem dX12_late_1 : decode cX12_late 1 = .ok (.getfield 7, 3) := dX12_late_0_k.2.1
theorem dX12_late_4 : decode cX12_late 4 = .ok (.sipush 301, 3) := dX12_late_0_k.2.2.1
theorem dX12_late_7 : decode cX12_late 7 = .ok (.aload_n 0, 1) := dX12_late_0_k.2.2.2.1
theorem dX12_late_8 : decode cX12_late 8 = .ok (.getfield 7, 3) := dX12_late_0_k.2.2.2.2.1
theorem dX12_late_11 : decode cX12_late 11 = .ok (.sipush 300, 3) := dX12_late_0_k.2.2.2.2.2.1
theorem dX12_late_14 : decode cX12_late 14 = .ok (.iaload, 1) := dX12_late_0_k.2.2.2.2.2.2.1
theorem dX12_late_15 : decode cX12_late 15 = .ok (.iadd, 1) := dX12_late_0_k.2.2.2.2.2.2.2.1
theorem dX12_late_16 : decode cX12_late 16 = .ok (.iload_n 1, 1) := dX12_late_0_k.2.2.2.2.2.2.2.2.1
theorem dX12_late_17 : decode cX12_late 17 = .ok (.isub, 1) := dX12_late_0_k.2.2.2.2.2.2.2.2.2.1
theorem dX12_late_18 : decode cX12_late 18 = .ok (.iload_n 2, 1) := dX12_late_0_k.2.2.2.2.2.2.2.2.2.2.1
theorem dX12_late_19 : decode cX12_late 19 = .ok (.iadd, 1) := dX12_late_0_k.2.2.2.2.2.2.2.2.2.2.2.1
theorem dX12_late_20 : decode cX12_late 20 = .ok (.iaload, 1) := dX12_late_0_k.2.2.2.2.2.2.2.2.2.2.2.2.1
theorem dX12_late_21 : decode cX12_late 21 = .ok (.ireturn, 1) := dX12_late_0_k.2.2.2.2.2.2.2.2.2.2.2.2.2
theorem dX12_isThere_0_k : decode cX12_isThere 0 = .ok (.iload_n 1, 1) ∧ decode cX12_isThere 1 = .ok (.iload_n 2, 1) ∧ decode cX12_isThere 2 = .ok (.aload_n 0, 1) ∧ decode cX12_isThere 3 = .ok (.getfield 7, 3) ∧ decode cX12_isThere 6 = .ok (.sipush 300, 3) ∧ decode cX12_isThere 9 = .ok (.iaload, 1) ∧ decode cX12_isThere 10 = .ok (.invokestatic 59, 3) ∧ decode cX12_isThere 13 = .ok (.ireturn, 1) := by decide +kernel
theorem dX12_isThere_0 : decode cX12_isThere 0 = .ok (.iload_n 1, 1) := dX12_isThere_0_k.1
theorem dX12_isThere_1 : decode cX12_isThere 1 = .ok (.iload_n 2, 1) := dX12_isThere_0_k.2.1
theorem dX12_isThere_2 : decode cX12_isThere 2 = .ok (.aload_n 0, 1) := dX12_isThere_0_k.2.2.1
theorem dX12_isThere_3 : decode cX12_isThere 3 = .ok (.getfield 7, 3) := dX12_isThere_0_k.2.2.2.1
theorem dX12_isThere_6 : decode cX12_isThere 6 = .ok (.sipush 300, 3) := dX12_isThere_0_k.2.2.2.2.1
theorem dX12_isThere_9 : decode cX12_isThere 9 = .ok (.iaload, 1) := dX12_isThere_0_k.2.2.2.2.2.1
theorem dX12_isThere_10 : decode cX12_isThere 10 = .ok (.invokestatic 59, 3) := dX12_isThere_0_k.2.2.2.2.2.2.1
theorem dX12_isThere_13 : decode cX12_isThere 13 = .ok (.ireturn, 1) := dX12_isThere_0_k.2.2.2.2.2.2.2
theorem dX12_common_0_k : decode cX12_common 0 = .ok (.iconst 0, 1) ∧ decode cX12_common 1 = .ok (.istore_n 2, 1) ∧ decode cX12_common 2 = .ok (.iconst 0, 1) ∧ decode cX12_common 3 = .ok (.istore_n 3, 1) ∧ decode cX12_common 4 = .ok (.iload_n 3, 1) ∧ decode cX12_common 5 = .ok (.iload_n 1, 1) ∧ decode cX12_common 6 = .ok (.if_icmp .ge 18, 3) ∧ decode cX12_common 9 = .ok (.iload_n 2, 1) ∧ decode cX12_common 10 = .ok (.aload_n 0, 1) ∧ decode cX12_common 11 = .ok (.iload_n 1, 1) ∧ decode cX12_common 12 = .ok (.iload_n 3, 1) ∧ decode cX12_common 13 = .ok (.invokevirtual 236, 3) ∧ decode cX12_common 16 = .ok (.iadd, 1) ∧ decode cX12_common 17 = .ok (.istore_n 2, 1) ∧ decode cX12_common 18 = .ok (.iinc 3 1, 3) ∧ decode cX12_common 21 = .ok (.goto (-17), 3) := by decide +kernel
theorem dX12_common_0 : decode cX12_common 0 = .ok (.iconst 0, 1) := dX12_common_0_k.1
theorem dX12_common_1 : decode cX12_common 1 = .ok (.istore_n 2, 1) := dX12_common_0_k.2.1
theorem dX12_common_2 : decode cX12_common 2 = .ok (.iconst 0, 1) := dX12_common_0_k.2.2.1
theorem dX12_common_3 : decode cX12_common 3 = .ok (.istore_n 3, 1) := dX12_common_0_k.2.2.2.1
theorem dX12_common_4 : decode cX12_common 4 = .ok (.iload_n 3, 1) := dX12_common_0_k.2.2.2.2.1
theorem dX12_common_5 : decode cX12_common 5 = .ok (.iload_n 1, 1) := dX12_common_0_k.2.2.2.2.2.1
theorem dX12_common_6 : decode cX12_common 6 = .ok (.if_icmp .ge 18, 3) := dX12_common_0_k.2.2.2.2.2.2.1
theorem dX12_common_9 : decode cX12_common 9 = .ok (.iload_n 2, 1) := dX12_common_0_k.2.2.2.2.2.2.2.1
theorem dX12_common_10 : decode cX12_common 10 = .ok (.aload_n 0, 1) := dX12_common_0_k.2.2.2.2.2.2.2.2.1
theorem dX12_common_11 : decode cX12_common 11 = .ok (.iload_n 1, 1) := dX12_common_0_k.2.2.2.2.2.2.2.2.2.1
theorem dX12_common_12 : decode cX12_common 12 = .ok (.iload_n 3, 1) := dX12_common_0_k.2.2.2.2.2.2.2.2.2.2.1
theorem dX12_common_13 : decode cX12_common 13 = .ok (.invokevirtual 236, 3) := dX12_common_0_k.2.2.2.2.2.2.2.2.2.2.2.1
theorem dX12_common_16 : decode cX12_common 16 = .ok (.iadd, 1) := dX12_common_0_k.2.2.2.2.2.2.2.2.2.2.2.2.1
theorem dX12_common_17 : decode cX12_common 17 = .ok (.istore_n 2, 1) := dX12_common_0_k.2.2.2.2.2.2.2.2.2.2.2.2.2.1
theorem dX12_common_18 : decode cX12_common 18 = .ok (.iinc 3 1, 3) := dX12_common_0_k.2.2.2.2.2.2.2.2.2.2.2.2.2.2.1
theorem dX12_common_21 : decode cX12_common 21 = .ok (.goto (-17), 3) := dX12_common_0_k.2.2.2.2.2.2.2.2.2.2.2.2.2.2.2
theorem dX12_common_24_k : decode cX12_common 24 = .ok (.iload_n 2, 1) ∧ decode cX12_common 25 = .ok (.iload_n 1, 1) ∧ decode cX12_common 26 = .ok (.iload_n 2, 1) ∧ decode cX12_common 27 = .ok (.isub, 1) ∧ decode cX12_common 28 = .ok (.invokestatic 239, 3) ∧ decode cX12_common 31 = .ok (.ireturn, 1) := by decide +kernel
theorem dX12_common_24 : decode cX12_common 24 = .ok (.iload_n 2, 1) := dX12_common_24_k.1
theorem dX12_common_25 : decode cX12_common 25 = .ok (.iload_n 1, 1) := dX12_common_24_k.2.1
theorem dX12_common_26 : decode cX12_common 26 = .ok (.iload_n 2, 1) := dX12_common_24_k.2.2.1
theorem dX12_common_27 : decode cX12_common 27 = .ok (.isub, 1) := dX12_common_24_k.2.2.2.1
theorem dX12_common_28 : decode cX12_common 28 = .ok (.invokestatic 239, 3) := dX12_common_24_k.2.2.2.2.1
theorem dX12_common_31 : decode cX12_common 31 = .ok (.ireturn, 1) := dX12_common_24_k.2.2.2.2.2
theorem dX12_laysCollision_0_k : decode cX12_laysCollision 0 = .ok (.aload_n 0, 1) ∧ decode cX12_laysCollision 1 = .ok (.lconst 0, 1) ∧ decode cX12_laysCollision 2 = .ok (.putfield 242, 3) ∧ decode cX12_laysCollision 5 = .ok (.aload_n 0, 1) ∧ decode cX12_laysCollision 6 = .ok (.lconst 0, 1) ∧ decode cX12_laysCollision 7 = .ok (.putfield 245, 3) ∧ decode cX12_laysCollision 10 = .ok (.iconst 0, 1) ∧ decode cX12_laysCollision 11 = .ok (.istore_n 2, 1) ∧ decode cX12_laysCollision 12 = .ok (.iload_n 2, 1) ∧ decode cX12_laysCollision 13 = .ok (.iconst 1, 1) ∧ decode cX12_laysCollision 14 = .ok (.iadd, 1) ∧ decode cX12_laysCollision 15 = .ok (.iload_n 1, 1) ∧ decode cX12_laysCollision 16 = .ok (.if_icmp .ge 62, 3) ∧ decode cX12_laysCollision 19 = .ok (.aload_n 0, 1) ∧ decode cX12_laysCollision 20 = .ok (.iload_n 1, 1) ∧ decode cX12_laysCollision 21 = .ok (.iload_n 2, 1) := by decide +kernel
theorem dX12_laysCollision_0 : decode cX12_laysCollision 0 = .ok (.aload_n 0, 1) := dX12_laysCollision_0_k.1
theorem dX12_laysCollision_1 : decode cX12_laysCollision 1 = .ok (.lconst 0, 1) := dX12_laysCollision_0_k.2.1
theorem dX12_laysCollision_2 : decode cX12_laysCollision 2 = .ok (.putfield 242, 3) := dX12_laysCollision_0_k.2.2.1
theorem dX12_laysCollision_5 : decode cX12_laysCollision 5 = .ok (.aload_n 0, 1) := dX12_laysCollision_0_k.2.2.2.1
theorem dX12_laysCollision_6 : decode cX12_laysCollision 6 = .ok (.lconst 0, 1) := dX12_laysCollision_0_k.2.2.2.2.1
theorem dX12_laysCollision_7 : decode cX12_laysCollision 7 = .ok (.putfield 245, 3) := dX12_laysCollision_0_k.2.2.2.2.2.1
theorem dX12_laysCollision_10 : decode cX12_laysCollision 10 = .ok (.iconst 0, 1) := dX12_laysCollision_0_k.2.2.2.2.2.2.1
theorem dX12_laysCollision_11 : decode cX12_laysCollision 11 = .ok (.istore_n 2, 1) := dX12_laysCollision_0_k.2.2.2.2.2.2.2.1
theorem dX12_laysCollision_12 : decode cX12_laysCollision 12 = .ok (.iload_n 2, 1) := dX12_laysCollision_0_k.2.2.2.2.2.2.2.2.1
theorem dX12_laysCollision_13 : decode cX12_laysCollision 13 = .ok (.iconst 1, 1) := dX12_laysCollision_0_k.2.2.2.2.2.2.2.2.2.1
theorem dX12_laysCollision_14 : decode cX12_laysCollision 14 = .ok (.iadd, 1) := dX12_laysCollision_0_k.2.2.2.2.2.2.2.2.2.2.1
theorem dX12_laysCollision_15 : decode cX12_laysCollision 15 = .ok (.iload_n 1, 1) := dX12_laysCollision_0_k.2.2.2.2.2.2.2.2.2.2.2.1
theorem dX12_laysCollision_16 : decode cX12_laysCollision 16 = .ok (.if_icmp .ge 62, 3) := dX12_laysCollision_0_k.2.2.2.2.2.2.2.2.2.2.2.2.1
theorem dX12_laysCollision_19 : decode cX12_laysCollision 19 = .ok (.aload_n 0, 1) := dX12_laysCollision_0_k.2.2.2.2.2.2.2.2.2.2.2.2.2.1
theorem dX12_laysCollision_20 : decode cX12_laysCollision 20 = .ok (.iload_n 1, 1) := dX12_laysCollision_0_k.2.2.2.2.2.2.2.2.2.2.2.2.2.2.1
theorem dX12_laysCollision_21 : decode cX12_laysCollision 21 = .ok (.iload_n 2, 1) := dX12_laysCollision_0_k.2.2.2.2.2.2.2.2.2.2.2.2.2.2.2
theorem dX12_laysCollision_22_k : decode cX12_laysCollision 22 = .ok (.invokevirtual 236, 3) ∧ decode cX12_laysCollision 25 = .ok (.aload_n 0, 1) ∧ decode cX12_laysCollision 26 = .ok (.iload_n 1, 1) ∧ decode cX12_laysCollision 27 = .ok (.iload_n 2, 1) ∧ decode cX12_laysCollision 28 = .ok (.iconst 1, 1) ∧ decode cX12_laysCollision 29 = .ok (.iadd, 1) ∧ decode cX12_laysCollision 30 = .ok (.invokevirtual 236, 3) ∧ decode cX12_laysCollision 33 = .ok (.if_icmp .ne 7, 3) ∧ decode cX12_laysCollision 36 = .ok (.iconst 2, 1) ∧ decode cX12_laysCollision 37 = .ok (.goto 4, 3) ∧ decode cX12_laysCollision 40 = .ok (.iconst 3, 1) ∧ decode cX12_laysCollision 41 = .ok (.istore_n 3, 1) ∧ decode cX12_laysCollision 42 = .ok (.iload_n 2, 1) ∧ decode cX12_laysCollision 43 = .ok (.iload_n 3, 1) ∧ decode cX12_laysCollision 44 = .ok (.iadd, 1) ∧ decode cX12_laysCollision 45 = .ok (.iload_n 1, 1) := by decide +kernel
theorem dX12_laysCollision_22 : decode cX12_laysCollision 22 = .ok (.invokevirtual 236, 3) := dX12_laysCollision_22_k.1
theorem dX12_laysCollision_25 : decode cX12_laysCollision 25 = .ok (.aload_n 0, 1) := dX12_laysCollision_22_k.2.1
theorem dX12_laysCollision_26 : decode cX12_laysCollision 26 = .ok (.iload_n 1, 1) := dX12_laysCollision_22_k.2.2.1
theorem dX12_laysCollision_27 : decode cX12_laysCollision 27 = .ok (.iload_n 2, 1) := dX12_laysCollision_22_k.2.2.2.1
theorem dX12_laysCollision_28 : decode cX12_laysCollision 28 = .ok (.iconst 1, 1) := dX12_laysCollision_22_k.2.2.2.2.1
theorem dX12_laysCollision_29 : decode cX12_laysCollision 29 = .ok (.iadd, 1) := dX12_laysCollision_22_k.2.2.2.2.2.1
theorem dX12_laysCollision_30 : decode cX12_laysCollision 30 = .ok (.invokevirtual 236, 3) := dX12_laysCollision_22_k.2.2.2.2.2.2.1
theorem dX12_laysCollision_33 : decode cX12_laysCollision 33 = .ok (.if_icmp .ne 7, 3) := dX12_laysCollision_22_k.2.2.2.2.2.2.2.1
theorem dX12_laysCollision_36 : decode cX12_laysCollision 36 = .ok (.iconst 2, 1) := dX12_laysCollision_22_k.2.2.2.2.2.2.2.2.1
theorem dX12_laysCollision_37 : decode cX12_laysCollision 37 = .ok (.goto 4, 3) := dX12_laysCollision_22_k.2.2.2.2.2.2.2.2.2.1
theorem dX12_laysCollision_40 : decode cX12_laysCollision 40 = .ok (.iconst 3, 1) := dX12_laysCollision_22_k.2.2.2.2.2.2.2.2.2.2.1
theorem dX12_laysCollision_41 : decode cX12_laysCollision 41 = .ok (.istore_n 3, 1) := dX12_laysCollision_22_k.2.2.2.2.2.2.2.2.2.2.2.1
theorem dX12_laysCollision_42 : decode cX12_laysCollision 42 = .ok (.iload_n 2, 1) := dX12_laysCollision_22_k.2.2.2.2.2.2.2.2.2.2.2.2.1
theorem dX12_laysCollision_43 : decode cX12_laysCollision 43 = .ok (.iload_n 3, 1) := dX12_laysCollision_22_k.2.2.2.2.2.2.2.2.2.2.2.2.2.1
theorem dX12_laysCollision_44 : decode cX12_laysCollision 44 = .ok (.iadd, 1) := dX12_laysCollision_22_k.2.2.2.2.2.2.2.2.2.2.2.2.2.2.1
theorem dX12_laysCollision_45 : decode cX12_laysCollision 45 = .ok (.iload_n 1, 1) := dX12_laysCollision_22_k.2.2.2.2.2.2.2.2.2.2.2.2.2.2.2
theorem dX12_laysCollision_46_k : decode cX12_laysCollision 46 = .ok (.if_icmp .le 4, 3) ∧ decode cX12_laysCollision 49 = .ok (.return_, 1) ∧ decode cX12_laysCollision 50 = .ok (.aload_n 0, 1) ∧ decode cX12_laysCollision 51 = .ok (.dup, 1) ∧ decode cX12_laysCollision 52 = .ok (.getfield 242, 3) ∧ decode cX12_laysCollision 55 = .ok (.iload_n 3, 1) ∧ decode cX12_laysCollision 56 = .ok (.i2l, 1) ∧ decode cX12_laysCollision 57 = .ok (.ladd, 1) ∧ decode cX12_laysCollision 58 = .ok (.putfield 242, 3) ∧ decode cX12_laysCollision 61 = .ok (.aload_n 0, 1) ∧ decode cX12_laysCollision 62 = .ok (.dup, 1) ∧ decode cX12_laysCollision 63 = .ok (.getfield 245, 3) ∧ decode cX12_laysCollision 66 = .ok (.lconst 1, 1) ∧ decode cX12_laysCollision 67 = .ok (.ladd, 1) ∧ decode cX12_laysCollision 68 = .ok (.putfield 245, 3) ∧ decode cX12_laysCollision 71 = .ok (.iload_n 2, 1) := by decide +kernel
theorem dX12_laysCollision_46 : decode cX12_laysCollision 46 = .ok (.if_icmp .le 4, 3) := dX12_laysCollision_46_k.1
theorem dX12_laysCollision_49 : decode cX12_laysCollision 49 = .ok (.return_, 1) := dX12_laysCollision_46_k.2.1
theorem dX12_laysCollision_50 : decode cX12_laysCollision 50 = .ok (.aload_n 0, 1) := dX12_laysCollision_46_k.2.2.1
theorem dX12_laysCollision_51 : decode cX12_laysCollision 51 = .ok (.dup, 1) := dX12_laysCollision_46_k.2.2.2.1
theorem dX12_laysCollision_52 : decode cX12_laysCollision 52 = .ok (.getfield 242, 3) := dX12_laysCollision_46_k.2.2.2.2.1
theorem dX12_laysCollision_55 : decode cX12_laysCollision 55 = .ok (.iload_n 3, 1) := dX12_laysCollision_46_k.2.2.2.2.2.1
theorem dX12_laysCollision_56 : decode cX12_laysCollision 56 = .ok (.i2l, 1) := dX12_laysCollision_46_k.2.2.2.2.2.2.1
theorem dX12_laysCollision_57 : decode cX12_laysCollision 57 = .ok (.ladd, 1) := dX12_laysCollision_46_k.2.2.2.2.2.2.2.1
theorem dX12_laysCollision_58 : decode cX12_laysCollision 58 = .ok (.putfield 242, 3) := dX12_laysCollision_46_k.2.2.2.2.2.2.2.2.1
theorem dX12_laysCollision_61 : decode cX12_laysCollision 61 = .ok (.aload_n 0, 1) := dX12_laysCollision_46_k.2.2.2.2.2.2.2.2.2.1
theorem dX12_laysCollision_62 : decode cX12_laysCollision 62 = .ok (.dup, 1) := dX12_laysCollision_46_k.2.2.2.2.2.2.2.2.2.2.1
theorem dX12_laysCollision_63 : decode cX12_laysCollision 63 = .ok (.getfield 245, 3) := dX12_laysCollision_46_k.2.2.2.2.2.2.2.2.2.2.2.1
theorem dX12_laysCollision_66 : decode cX12_laysCollision 66 = .ok (.lconst 1, 1) := dX12_laysCollision_46_k.2.2.2.2.2.2.2.2.2.2.2.2.1
theorem dX12_laysCollision_67 : decode cX12_laysCollision 67 = .ok (.ladd, 1) := dX12_laysCollision_46_k.2.2.2.2.2.2.2.2.2.2.2.2.2.1
theorem dX12_laysCollision_68 : decode cX12_laysCollision 68 = .ok (.putfield 245, 3) := dX12_laysCollision_46_k.2.2.2.2.2.2.2.2.2.2.2.2.2.2.1
theorem dX12_laysCollision_71 : decode cX12_laysCollision 71 = .ok (.iload_n 2, 1) := dX12_laysCollision_46_k.2.2.2.2.2.2.2.2.2.2.2.2.2.2.2
theorem dX12_laysCollision_72_k : decode cX12_laysCollision 72 = .ok (.iload_n 3, 1) ∧ decode cX12_laysCollision 73 = .ok (.iadd, 1) ∧ decode cX12_laysCollision 74 = .ok (.istore_n 2, 1) ∧ decode cX12_laysCollision 75 = .ok (.goto (-63), 3) ∧ decode cX12_laysCollision 78 = .ok (.return_, 1) := by decide +kernel
theorem dX12_laysCollision_72 : decode cX12_laysCollision 72 = .ok (.iload_n 3, 1) := dX12_laysCollision_72_k.1
theorem dX12_laysCollision_73 : decode cX12_laysCollision 73 = .ok (.iadd, 1) := dX12_laysCollision_72_k.2.1
theorem dX12_laysCollision_74 : decode cX12_laysCollision 74 = .ok (.istore_n 2, 1) := dX12_laysCollision_72_k.2.2.1
theorem dX12_laysCollision_75 : decode cX12_laysCollision 75 = .ok (.goto (-63), 3) := dX12_laysCollision_72_k.2.2.2.1
theorem dX12_laysCollision_78 : decode cX12_laysCollision 78 = .ok (.return_, 1) := dX12_laysCollision_72_k.2.2.2.2
theorem dX12_laysAfter_0_k : decode cX12_laysAfter 0 = .ok (.iconst 0, 1) ∧ decode cX12_laysAfter 1 = .ok (.istore_n 3, 1) ∧ decode cX12_laysAfter 2 = .ok (.iconst 0, 1) ∧ decode cX12_laysAfter 3 = .ok (.istore 4, 2) ∧ decode cX12_laysAfter 5 = .ok (.iconst 0, 1) ∧ decode cX12_laysAfter 6 = .ok (.istore 5, 2) ∧ decode cX12_laysAfter 8 = .ok (.iload 5, 2) ∧ decode cX12_laysAfter 10 = .ok (.iconst 1, 1) ∧ decode cX12_laysAfter 11 = .ok (.iadd, 1) ∧ decode cX12_laysAfter 12 = .ok (.iload_n 1, 1) ∧ decode cX12_laysAfter 13 = .ok (.if_icmp .ge 35, 3) ∧ decode cX12_laysAfter 16 = .ok (.aload_n 0, 1) ∧ decode cX12_laysAfter 17 = .ok (.iload_n 1, 1) ∧ decode cX12_laysAfter 18 = .ok (.iload 5, 2) ∧ decode cX12_laysAfter 20 = .ok (.invokevirtual 236, 3) ∧ decode cX12_laysAfter 23 = .ok (.iload_n 2, 1) := by decide +kernel
theorem dX12_laysAfter_0 : decode cX12_laysAfter 0 = .ok (.iconst 0, 1) := dX12_laysAfter_0_k.1
theorem dX12_laysAfter_1 : decode cX12_laysAfter 1 = .ok (.istore_n 3, 1) := dX12_laysAfter_0_k.2.1
theorem dX12_laysAfter_2 : decode cX12_laysAfter 2 = .ok (.iconst 0, 1) := dX12_laysAfter_0_k.2.2.1
theorem dX12_laysAfter_3 : decode cX12_laysAfter 3 = .ok (.istore 4, 2) := dX12_laysAfter_0_k.2.2.2.1
theorem dX12_laysAfter_5 : decode cX12_laysAfter 5 = .ok (.iconst 0, 1) := dX12_laysAfter_0_k.2.2.2.2.1
theorem dX12_laysAfter_6 : decode cX12_laysAfter 6 = .ok (.istore 5, 2) := dX12_laysAfter_0_k.2.2.2.2.2.1
theorem dX12_laysAfter_8 : decode cX12_laysAfter 8 = .ok (.iload 5, 2) := dX12_laysAfter_0_k.2.2.2.2.2.2.1
theorem dX12_laysAfter_10 : decode cX12_laysAfter 10 = .ok (.iconst 1, 1) := dX12_laysAfter_0_k.2.2.2.2.2.2.2.1
theorem dX12_laysAfter_11 : decode cX12_laysAfter 11 = .ok (.iadd, 1) := dX12_laysAfter_0_k.2.2.2.2.2.2.2.2.1
theorem dX12_laysAfter_12 : decode cX12_laysAfter 12 = .ok (.iload_n 1, 1) := dX12_laysAfter_0_k.2.2.2.2.2.2.2.2.2.1
theorem dX12_laysAfter_13 : decode cX12_laysAfter 13 = .ok (.if_icmp .ge 35, 3) := dX12_laysAfter_0_k.2.2.2.2.2.2.2.2.2.2.1
theorem dX12_laysAfter_16 : decode cX12_laysAfter 16 = .ok (.aload_n 0, 1) := dX12_laysAfter_0_k.2.2.2.2.2.2.2.2.2.2.2.1
theorem dX12_laysAfter_17 : decode cX12_laysAfter 17 = .ok (.iload_n 1, 1) := dX12_laysAfter_0_k.2.2.2.2.2.2.2.2.2.2.2.2.1
theorem dX12_laysAfter_18 : decode cX12_laysAfter 18 = .ok (.iload 5, 2) := dX12_laysAfter_0_k.2.2.2.2.2.2.2.2.2.2.2.2.2.1
theorem dX12_laysAfter_20 : decode cX12_laysAfter 20 = .ok (.invokevirtual 236, 3) := dX12_laysAfter_0_k.2.2.2.2.2.2.2.2.2.2.2.2.2.2.1
theorem dX12_laysAfter_23 : decode cX12_laysAfter 23 = .ok (.iload_n 2, 1) := dX12_laysAfter_0_k.2.2.2.2.2.2.2.2.2.2.2.2.2.2.2
theorem dX12_laysAfter_24_k : decode cX12_laysAfter 24 = .ok (.if_icmp .ne 18, 3) ∧ decode cX12_laysAfter 27 = .ok (.iinc 4 1, 3) ∧ decode cX12_laysAfter 30 = .ok (.iload_n 3, 1) ∧ decode cX12_laysAfter 31 = .ok (.aload_n 0, 1) ∧ decode cX12_laysAfter 32 = .ok (.iload_n 1, 1) ∧ decode cX12_laysAfter 33 = .ok (.iload 5, 2) ∧ decode cX12_laysAfter 35 = .ok (.iconst 1, 1) ∧ decode cX12_laysAfter 36 = .ok (.iadd, 1) ∧ decode cX12_laysAfter 37 = .ok (.invokevirtual 236, 3) ∧ decode cX12_laysAfter 40 = .ok (.iadd, 1) ∧ decode cX12_laysAfter 41 = .ok (.istore_n 3, 1) ∧ decode cX12_laysAfter 42 = .ok (.iinc 5 1, 3) ∧ decode cX12_laysAfter 45 = .ok (.goto (-37), 3) ∧ decode cX12_laysAfter 48 = .ok (.aload_n 0, 1) ∧ decode cX12_laysAfter 49 = .ok (.iload_n 3, 1) ∧ decode cX12_laysAfter 50 = .ok (.iload 4, 2) := by decide +kernel
theorem dX12_laysAfter_24 : decode cX12_laysAfter 24 = .ok (.if_icmp .ne 18, 3) := dX12_laysAfter_24_k.1
theorem dX12_laysAfter_27 : decode cX12_laysAfter 27 = .ok (.iinc 4 1, 3) := dX12_laysAfter_24_k.2.1
theorem dX12_laysAfter_30 : decode cX12_laysAfter 30 = .ok (.iload_n 3, 1) := dX12_laysAfter_24_k.2.2.1
theorem dX12_laysAfter_31 : decode cX12_laysAfter 31 = .ok (.aload_n 0, 1) := dX12_laysAfter_24_k.2.2.2.1
theorem dX12_laysAfter_32 : decode cX12_laysAfter 32 = .ok (.iload_n 1, 1) := dX12_laysAfter_24_k.2.2.2.2.1
theorem dX12_laysAfter_33 : decode cX12_laysAfter 33 = .ok (.iload 5, 2) := dX12_laysAfter_24_k.2.2.2.2.2.1
theorem dX12_laysAfter_35 : decode cX12_laysAfter 35 = .ok (.iconst 1, 1) := dX12_laysAfter_24_k.2.2.2.2.2.2.1
theorem dX12_laysAfter_36 : decode cX12_laysAfter 36 = .ok (.iadd, 1) := dX12_laysAfter_24_k.2.2.2.2.2.2.2.1
theorem dX12_laysAfter_37 : decode cX12_laysAfter 37 = .ok (.invokevirtual 236, 3) := dX12_laysAfter_24_k.2.2.2.2.2.2.2.2.1
theorem dX12_laysAfter_40 : decode cX12_laysAfter 40 = .ok (.iadd, 1) := dX12_laysAfter_24_k.2.2.2.2.2.2.2.2.2.1
theorem dX12_laysAfter_41 : decode cX12_laysAfter 41 = .ok (.istore_n 3, 1) := dX12_laysAfter_24_k.2.2.2.2.2.2.2.2.2.2.1
theorem dX12_laysAfter_42 : decode cX12_laysAfter 42 = .ok (.iinc 5 1, 3) := dX12_laysAfter_24_k.2.2.2.2.2.2.2.2.2.2.2.1
theorem dX12_laysAfter_45 : decode cX12_laysAfter 45 = .ok (.goto (-37), 3) := dX12_laysAfter_24_k.2.2.2.2.2.2.2.2.2.2.2.2.1
theorem dX12_laysAfter_48 : decode cX12_laysAfter 48 = .ok (.aload_n 0, 1) := dX12_laysAfter_24_k.2.2.2.2.2.2.2.2.2.2.2.2.2.1
theorem dX12_laysAfter_49 : decode cX12_laysAfter 49 = .ok (.iload_n 3, 1) := dX12_laysAfter_24_k.2.2.2.2.2.2.2.2.2.2.2.2.2.2.1
theorem dX12_laysAfter_50 : decode cX12_laysAfter 50 = .ok (.iload 4, 2) := dX12_laysAfter_24_k.2.2.2.2.2.2.2.2.2.2.2.2.2.2.2
theorem dX12_laysAfter_52_k : decode cX12_laysAfter 52 = .ok (.iload_n 3, 1) ∧ decode cX12_laysAfter 53 = .ok (.isub, 1) ∧ decode cX12_laysAfter 54 = .ok (.invokestatic 239, 3) ∧ decode cX12_laysAfter 57 = .ok (.i2l, 1) ∧ decode cX12_laysAfter 58 = .ok (.putfield 242, 3) ∧ decode cX12_laysAfter 61 = .ok (.aload_n 0, 1) ∧ decode cX12_laysAfter 62 = .ok (.iload 4, 2) ∧ decode cX12_laysAfter 64 = .ok (.i2l, 1) ∧ decode cX12_laysAfter 65 = .ok (.putfield 245, 3) ∧ decode cX12_laysAfter 68 = .ok (.return_, 1) := by decide +kernel
theorem dX12_laysAfter_52 : decode cX12_laysAfter 52 = .ok (.iload_n 3, 1) := dX12_laysAfter_52_k.1
theorem dX12_laysAfter_53 : decode cX12_laysAfter 53 = .ok (.isub, 1) := dX12_laysAfter_52_k.2.1
theorem dX12_laysAfter_54 : decode cX12_laysAfter 54 = .ok (.invokestatic 239, 3) := dX12_laysAfter_52_k.2.2.1
theorem dX12_laysAfter_57 : decode cX12_laysAfter 57 = .ok (.i2l, 1) := dX12_laysAfter_52_k.2.2.2.1
theorem dX12_laysAfter_58 : decode cX12_laysAfter 58 = .ok (.putfield 242, 3) := dX12_laysAfter_52_k.2.2.2.2.1
theorem dX12_laysAfter_61 : decode cX12_laysAfter 61 = .ok (.aload_n 0, 1) := dX12_laysAfter_52_k.2.2.2.2.2.1
theorem dX12_laysAfter_62 : decode cX12_laysAfter 62 = .ok (.iload 4, 2) := dX12_laysAfter_52_k.2.2.2.2.2.2.1
theorem dX12_laysAfter_64 : decode cX12_laysAfter 64 = .ok (.i2l, 1) := dX12_laysAfter_52_k.2.2.2.2.2.2.2.1
theorem dX12_laysAfter_65 : decode cX12_laysAfter 65 = .ok (.putfield 245, 3) := dX12_laysAfter_52_k.2.2.2.2.2.2.2.2.1
theorem dX12_laysAfter_68 : decode cX12_laysAfter 68 = .ok (.return_, 1) := dX12_laysAfter_52_k.2.2.2.2.2.2.2.2.2
theorem dX12_laysFollow_0_k : decode cX12_laysFollow 0 = .ok (.aload_n 0, 1) ∧ decode cX12_laysFollow 1 = .ok (.iload_n 1, 1) ∧ decode cX12_laysFollow 2 = .ok (.iconst 0, 1) ∧ decode cX12_laysFollow 3 = .ok (.invokevirtual 248, 3) ∧ decode cX12_laysFollow 6 = .ok (.aload_n 0, 1) ∧ decode cX12_laysFollow 7 = .ok (.getfield 242, 3) ∧ decode cX12_laysFollow 10 = .ok (.lstore_n 2, 1) ∧ decode cX12_laysFollow 11 = .ok (.aload_n 0, 1) ∧ decode cX12_laysFollow 12 = .ok (.getfield 245, 3) ∧ decode cX12_laysFollow 15 = .ok (.lstore 4, 2) ∧ decode cX12_laysFollow 17 = .ok (.aload_n 0, 1) ∧ decode cX12_laysFollow 18 = .ok (.iload_n 1, 1) ∧ decode cX12_laysFollow 19 = .ok (.iconst 1, 1) ∧ decode cX12_laysFollow 20 = .ok (.invokevirtual 248, 3) ∧ decode cX12_laysFollow 23 = .ok (.aload_n 0, 1) ∧ decode cX12_laysFollow 24 = .ok (.getfield 245, 3) := by decide +kernel
theorem dX12_laysFollow_0 : decode cX12_laysFollow 0 = .ok (.aload_n 0, 1) := dX12_laysFollow_0_k.1
theorem dX12_laysFollow_1 : decode cX12_laysFollow 1 = .ok (.iload_n 1, 1) := dX12_laysFollow_0_k.2.1
theorem dX12_laysFollow_2 : decode cX12_laysFollow 2 = .ok (.iconst 0, 1) := dX12_laysFollow_0_k.2.2.1
theorem dX12_laysFollow_3 : decode cX12_laysFollow 3 = .ok (.invokevirtual 248, 3) := dX12_laysFollow_0_k.2.2.2.1
theorem dX12_laysFollow_6 : decode cX12_laysFollow 6 = .ok (.aload_n 0, 1) := dX12_laysFollow_0_k.2.2.2.2.1
theorem dX12_laysFollow_7 : decode cX12_laysFollow 7 = .ok (.getfield 242, 3) := dX12_laysFollow_0_k.2.2.2.2.2.1
theorem dX12_laysFollow_10 : decode cX12_laysFollow 10 = .ok (.lstore_n 2, 1) := dX12_laysFollow_0_k.2.2.2.2.2.2.1
theorem dX12_laysFollow_11 : decode cX12_laysFollow 11 = .ok (.aload_n 0, 1) := dX12_laysFollow_0_k.2.2.2.2.2.2.2.1
theorem dX12_laysFollow_12 : decode cX12_laysFollow 12 = .ok (.getfield 245, 3) := dX12_laysFollow_0_k.2.2.2.2.2.2.2.2.1
theorem dX12_laysFollow_15 : decode cX12_laysFollow 15 = .ok (.lstore 4, 2) := dX12_laysFollow_0_k.2.2.2.2.2.2.2.2.2.1
theorem dX12_laysFollow_17 : decode cX12_laysFollow 17 = .ok (.aload_n 0, 1) := dX12_laysFollow_0_k.2.2.2.2.2.2.2.2.2.2.1
theorem dX12_laysFollow_18 : decode cX12_laysFollow 18 = .ok (.iload_n 1, 1) := dX12_laysFollow_0_k.2.2.2.2.2.2.2.2.2.2.2.1
theorem dX12_laysFollow_19 : decode cX12_laysFollow 19 = .ok (.iconst 1, 1) := dX12_laysFollow_0_k.2.2.2.2.2.2.2.2.2.2.2.2.1
theorem dX12_laysFollow_20 : decode cX12_laysFollow 20 = .ok (.invokevirtual 248, 3) := dX12_laysFollow_0_k.2.2.2.2.2.2.2.2.2.2.2.2.2.1
theorem dX12_laysFollow_23 : decode cX12_laysFollow 23 = .ok (.aload_n 0, 1) := dX12_laysFollow_0_k.2.2.2.2.2.2.2.2.2.2.2.2.2.2.1
theorem dX12_laysFollow_24 : decode cX12_laysFollow 24 = .ok (.getfield 245, 3) := dX12_laysFollow_0_k.2.2.2.2.2.2.2.2.2.2.2.2.2.2.2
theorem dX12_laysFollow_27_k : decode cX12_laysFollow 27 = .ok (.lconst 0, 1) ∧ decode cX12_laysFollow 28 = .ok (.lcmp, 1) ∧ decode cX12_laysFollow 29 = .ok (.ifCond .le 31, 3) ∧ decode cX12_laysFollow 32 = .ok (.lload 4, 2) ∧ decode cX12_laysFollow 34 = .ok (.lconst 0, 1) ∧ decode cX12_laysFollow 35 = .ok (.lcmp, 1) ∧ decode cX12_laysFollow 36 = .ok (.ifCond .eq 20, 3) ∧ decode cX12_laysFollow 39 = .ok (.aload_n 0, 1) ∧ decode cX12_laysFollow 40 = .ok (.getfield 242, 3) ∧ decode cX12_laysFollow 43 = .ok (.lload 4, 2) ∧ decode cX12_laysFollow 45 = .ok (.lmul, 1) ∧ decode cX12_laysFollow 46 = .ok (.lload_n 2, 1) ∧ decode cX12_laysFollow 47 = .ok (.aload_n 0, 1) ∧ decode cX12_laysFollow 48 = .ok (.getfield 245, 3) ∧ decode cX12_laysFollow 51 = .ok (.lmul, 1) ∧ decode cX12_laysFollow 52 = .ok (.lcmp, 1) := by decide +kernel
theorem dX12_laysFollow_27 : decode cX12_laysFollow 27 = .ok (.lconst 0, 1) := dX12_laysFollow_27_k.1
theorem dX12_laysFollow_28 : decode cX12_laysFollow 28 = .ok (.lcmp, 1) := dX12_laysFollow_27_k.2.1
theorem dX12_laysFollow_29 : decode cX12_laysFollow 29 = .ok (.ifCond .le 31, 3) := dX12_laysFollow_27_k.2.2.1
theorem dX12_laysFollow_32 : decode cX12_laysFollow 32 = .ok (.lload 4, 2) := dX12_laysFollow_27_k.2.2.2.1
theorem dX12_laysFollow_34 : decode cX12_laysFollow 34 = .ok (.lconst 0, 1) := dX12_laysFollow_27_k.2.2.2.2.1
theorem dX12_laysFollow_35 : decode cX12_laysFollow 35 = .ok (.lcmp, 1) := dX12_laysFollow_27_k.2.2.2.2.2.1
theorem dX12_laysFollow_36 : decode cX12_laysFollow 36 = .ok (.ifCond .eq 20, 3) := dX12_laysFollow_27_k.2.2.2.2.2.2.1
theorem dX12_laysFollow_39 : decode cX12_laysFollow 39 = .ok (.aload_n 0, 1) := dX12_laysFollow_27_k.2.2.2.2.2.2.2.1
theorem dX12_laysFollow_40 : decode cX12_laysFollow 40 = .ok (.getfield 242, 3) := dX12_laysFollow_27_k.2.2.2.2.2.2.2.2.1
theorem dX12_laysFollow_43 : decode cX12_laysFollow 43 = .ok (.lload 4, 2) := dX12_laysFollow_27_k.2.2.2.2.2.2.2.2.2.1
theorem dX12_laysFollow_45 : decode cX12_laysFollow 45 = .ok (.lmul, 1) := dX12_laysFollow_27_k.2.2.2.2.2.2.2.2.2.2.1
theorem dX12_laysFollow_46 : decode cX12_laysFollow 46 = .ok (.lload_n 2, 1) := dX12_laysFollow_27_k.2.2.2.2.2.2.2.2.2.2.2.1
theorem dX12_laysFollow_47 : decode cX12_laysFollow 47 = .ok (.aload_n 0, 1) := dX12_laysFollow_27_k.2.2.2.2.2.2.2.2.2.2.2.2.1
theorem dX12_laysFollow_48 : decode cX12_laysFollow 48 = .ok (.getfield 245, 3) := dX12_laysFollow_27_k.2.2.2.2.2.2.2.2.2.2.2.2.2.1
theorem dX12_laysFollow_51 : decode cX12_laysFollow 51 = .ok (.lmul, 1) := dX12_laysFollow_27_k.2.2.2.2.2.2.2.2.2.2.2.2.2.2.1
theorem dX12_laysFollow_52 : decode cX12_laysFollow 52 = .ok (.lcmp, 1) := dX12_laysFollow_27_k.2.2.2.2.2.2.2.2.2.2.2.2.2.2.2
theorem dX12_laysFollow_53_k : decode cX12_laysFollow 53 = .ok (.ifCond .le 7, 3) ∧ decode cX12_laysFollow 56 = .ok (.iconst 1, 1) ∧ decode cX12_laysFollow 57 = .ok (.goto 4, 3) ∧ decode cX12_laysFollow 60 = .ok (.iconst 0, 1) ∧ decode cX12_laysFollow 61 = .ok (.istore 6, 2) ∧ decode cX12_laysFollow 63 = .ok (.aload_n 0, 1) ∧ decode cX12_laysFollow 64 = .ok (.iload 6, 2) ∧ decode cX12_laysFollow 66 = .ok (.ifCond .eq 10, 3) ∧ decode cX12_laysFollow 69 = .ok (.aload_n 0, 1) ∧ decode cX12_laysFollow 70 = .ok (.getfield 242, 3) ∧ decode cX12_laysFollow 73 = .ok (.goto 4, 3) ∧ decode cX12_laysFollow 76 = .ok (.lload_n 2, 1) ∧ decode cX12_laysFollow 77 = .ok (.putfield 242, 3) ∧ decode cX12_laysFollow 80 = .ok (.aload_n 0, 1) ∧ decode cX12_laysFollow 81 = .ok (.iload 6, 2) ∧ decode cX12_laysFollow 83 = .ok (.ifCond .eq 10, 3) := by decide +kernel
theorem dX12_laysFollow_53 : decode cX12_laysFollow 53 = .ok (.ifCond .le 7, 3) := dX12_laysFollow_53_k.1
theorem dX12_laysFollow_56 : decode cX12_laysFollow 56 = .ok (.iconst 1, 1) := dX12_laysFollow_53_k.2.1
theorem dX12_laysFollow_57 : decode cX12_laysFollow 57 = .ok (.goto 4, 3) := dX12_laysFollow_53_k.2.2.1
theorem dX12_laysFollow_60 : decode cX12_laysFollow 60 = .ok (.iconst 0, 1) := dX12_laysFollow_53_k.2.2.2.1
theorem dX12_laysFollow_61 : decode cX12_laysFollow 61 = .ok (.istore 6, 2) := dX12_laysFollow_53_k.2.2.2.2.1
theorem dX12_laysFollow_63 : decode cX12_laysFollow 63 = .ok (.aload_n 0, 1) := dX12_laysFollow_53_k.2.2.2.2.2.1
theorem dX12_laysFollow_64 : decode cX12_laysFollow 64 = .ok (.iload 6, 2) := dX12_laysFollow_53_k.2.2.2.2.2.2.1
theorem dX12_laysFollow_66 : decode cX12_laysFollow 66 = .ok (.ifCond .eq 10, 3) := dX12_laysFollow_53_k.2.2.2.2.2.2.2.1
theorem dX12_laysFollow_69 : decode cX12_laysFollow 69 = .ok (.aload_n 0, 1) := dX12_laysFollow_53_k.2.2.2.2.2.2.2.2.1
theorem dX12_laysFollow_70 : decode cX12_laysFollow 70 = .ok (.getfield 242, 3) := dX12_laysFollow_53_k.2.2.2.2.2.2.2.2.2.1
theorem dX12_laysFollow_73 : decode cX12_laysFollow 73 = .ok (.goto 4, 3) := dX12_laysFollow_53_k.2.2.2.2.2.2.2.2.2.2.1
theorem dX12_laysFollow_76 : decode cX12_laysFollow 76 = .ok (.lload_n 2, 1) := dX12_laysFollow_53_k.2.2.2.2.2.2.2.2.2.2.2.1
theorem dX12_laysFollow_77 : decode cX12_laysFollow 77 = .ok (.putfield 242, 3) := dX12_laysFollow_53_k.2.2.2.2.2.2.2.2.2.2.2.2.1
theorem dX12_laysFollow_80 : decode cX12_laysFollow 80 = .ok (.aload_n 0, 1) := dX12_laysFollow_53_k.2.2.2.2.2.2.2.2.2.2.2.2.2.1
theorem dX12_laysFollow_81 : decode cX12_laysFollow 81 = .ok (.iload 6, 2) := dX12_laysFollow_53_k.2.2.2.2.2.2.2.2.2.2.2.2.2.2.1
theorem dX12_laysFollow_83 : decode cX12_laysFollow 83 = .ok (.ifCond .eq 10, 3) := dX12_laysFollow_53_k.2.2.2.2.2.2.2.2.2.2.2.2.2.2.2
theorem dX12_laysFollow_86_k : decode cX12_laysFollow 86 = .ok (.aload_n 0, 1) ∧ decode cX12_laysFollow 87 = .ok (.getfield 245, 3) ∧ decode cX12_laysFollow 90 = .ok (.goto 5, 3) ∧ decode cX12_laysFollow 93 = .ok (.lload 4, 2) ∧ decode cX12_laysFollow 95 = .ok (.putfield 245, 3) ∧ decode cX12_laysFollow 98 = .ok (.return_, 1) := by decide +kernel
theorem dX12_laysFollow_86 : decode cX12_laysFollow 86 = .ok (.aload_n 0, 1) := dX12_laysFollow_86_k.1
theorem dX12_laysFollow_87 : decode cX12_laysFollow 87 = .ok (.getfield 245, 3) := dX12_laysFollow_86_k.2.1
theorem dX12_laysFollow_90 : decode cX12_laysFollow 90 = .ok (.goto 5, 3) := dX12_laysFollow_86_k.2.2.1
theorem dX12_laysFollow_93 : decode cX12_laysFollow 93 = .ok (.lload 4, 2) := dX12_laysFollow_86_k.2.2.2.1
theorem dX12_laysFollow_95 : decode cX12_laysFollow 95 = .ok (.putfield 245, 3) := dX12_laysFollow_86_k.2.2.2.2.1
theorem dX12_laysFollow_98 : decode cX12_laysFollow 98 = .ok (.return_, 1) := dX12_laysFollow_86_k.2.2.2.2.2
theorem dX12_laysBound_0_k : decode cX12_laysBound 0 = .ok (.iload_n 1, 1) ∧ decode cX12_laysBound 1 = .ok (.ifCond .ne 22, 3) ∧ decode cX12_laysBound 4 = .ok (.aload_n 0, 1) ∧ decode cX12_laysBound 5 = .ok (.aload_n 0, 1) ∧ decode cX12_laysBound 6 = .ok (.iload_n 2, 1) ∧ decode cX12_laysBound 7 = .ok (.invokevirtual 251, 3) ∧ decode cX12_laysBound 10 = .ok (.i2l, 1) ∧ decode cX12_laysBound 11 = .ok (.putfield 242, 3) ∧ decode cX12_laysBound 14 = .ok (.aload_n 0, 1) ∧ decode cX12_laysBound 15 = .ok (.iload_n 2, 1) ∧ decode cX12_laysBound 16 = .ok (.i2l, 1) ∧ decode cX12_laysBound 17 = .ok (.putfield 245, 3) ∧ decode cX12_laysBound 20 = .ok (.goto 21, 3) ∧ decode cX12_laysBound 23 = .ok (.iload_n 1, 1) ∧ decode cX12_laysBound 24 = .ok (.iconst 1, 1) ∧ decode cX12_laysBound 25 = .ok (.if_icmp .ne 11, 3) := by decide +kernel
theorem dX12_laysBound_0 : decode cX12_laysBound 0 = .ok (.iload_n 1, 1) := dX12_laysBound_0_k.1
theorem dX12_laysBound_1 : decode cX12_laysBound 1 = .ok (.ifCond .ne 22, 3) := dX12_laysBound_0_k.2.1
theorem dX12_laysBound_4 : decode cX12_laysBound 4 = .ok (.aload_n 0, 1) := dX12_laysBound_0_k.2.2.1
theorem dX12_laysBound_5 : decode cX12_laysBound 5 = .ok (.aload_n 0, 1) := dX12_laysBound_0_k.2.2.2.1
theorem dX12_laysBound_6 : decode cX12_laysBound 6 = .ok (.iload_n 2, 1) := dX12_laysBound_0_k.2.2.2.2.1
theorem dX12_laysBound_7 : decode cX12_laysBound 7 = .ok (.invokevirtual 251, 3) := dX12_laysBound_0_k.2.2.2.2.2.1
theorem dX12_laysBound_10 : decode cX12_laysBound 10 = .ok (.i2l, 1) := dX12_laysBound_0_k.2.2.2.2.2.2.1
theorem dX12_laysBound_11 : decode cX12_laysBound 11 = .ok (.putfield 242, 3) := dX12_laysBound_0_k.2.2.2.2.2.2.2.1
theorem dX12_laysBound_14 : decode cX12_laysBound 14 = .ok (.aload_n 0, 1) := dX12_laysBound_0_k.2.2.2.2.2.2.2.2.1
theorem dX12_laysBound_15 : decode cX12_laysBound 15 = .ok (.iload_n 2, 1) := dX12_laysBound_0_k.2.2.2.2.2.2.2.2.2.1
theorem dX12_laysBound_16 : decode cX12_laysBound 16 = .ok (.i2l, 1) := dX12_laysBound_0_k.2.2.2.2.2.2.2.2.2.2.1
theorem dX12_laysBound_17 : decode cX12_laysBound 17 = .ok (.putfield 245, 3) := dX12_laysBound_0_k.2.2.2.2.2.2.2.2.2.2.2.1
theorem dX12_laysBound_20 : decode cX12_laysBound 20 = .ok (.goto 21, 3) := dX12_laysBound_0_k.2.2.2.2.2.2.2.2.2.2.2.2.1
theorem dX12_laysBound_23 : decode cX12_laysBound 23 = .ok (.iload_n 1, 1) := dX12_laysBound_0_k.2.2.2.2.2.2.2.2.2.2.2.2.2.1
theorem dX12_laysBound_24 : decode cX12_laysBound 24 = .ok (.iconst 1, 1) := dX12_laysBound_0_k.2.2.2.2.2.2.2.2.2.2.2.2.2.2.1
theorem dX12_laysBound_25 : decode cX12_laysBound 25 = .ok (.if_icmp .ne 11, 3) := dX12_laysBound_0_k.2.2.2.2.2.2.2.2.2.2.2.2.2.2.2
theorem dX12_laysBound_28_k : decode cX12_laysBound 28 = .ok (.aload_n 0, 1) ∧ decode cX12_laysBound 29 = .ok (.iload_n 2, 1) ∧ decode cX12_laysBound 30 = .ok (.invokevirtual 254, 3) ∧ decode cX12_laysBound 33 = .ok (.goto 8, 3) ∧ decode cX12_laysBound 36 = .ok (.aload_n 0, 1) ∧ decode cX12_laysBound 37 = .ok (.iload_n 2, 1) ∧ decode cX12_laysBound 38 = .ok (.invokevirtual 257, 3) ∧ decode cX12_laysBound 41 = .ok (.return_, 1) := by decide +kernel
theorem dX12_laysBound_28 : decode cX12_laysBound 28 = .ok (.aload_n 0, 1) := dX12_laysBound_28_k.1
theorem dX12_laysBound_29 : decode cX12_laysBound 29 = .ok (.iload_n 2, 1) := dX12_laysBound_28_k.2.1
theorem dX12_laysBound_30 : decode cX12_laysBound 30 = .ok (.invokevirtual 254, 3) := dX12_laysBound_28_k.2.2.1
theorem dX12_laysBound_33 : decode cX12_laysBound 33 = .ok (.goto 8, 3) := dX12_laysBound_28_k.2.2.2.1
theorem dX12_laysBound_36 : decode cX12_laysBound 36 = .ok (.aload_n 0, 1) := dX12_laysBound_28_k.2.2.2.2.1
theorem dX12_laysBound_37 : decode cX12_laysBound 37 = .ok (.iload_n 2, 1) := dX12_laysBound_28_k.2.2.2.2.2.1
theorem dX12_laysBound_38 : decode cX12_laysBound 38 = .ok (.invokevirtual 257, 3) := dX12_laysBound_28_k.2.2.2.2.2.2.1
theorem dX12_laysBound_41 : decode cX12_laysBound 41 = .ok (.return_, 1) := dX12_laysBound_28_k.2.2.2.2.2.2.2
theorem dX12_bound_0_k : decode cX12_bound 0 = .ok (.aload_n 0, 1) ∧ decode cX12_bound 1 = .ok (.iconst 0, 1) ∧ decode cX12_bound 2 = .ok (.putfield 33, 3) ∧ decode cX12_bound 5 = .ok (.iload_n 1, 1) ∧ decode cX12_bound 6 = .ok (.iconst 0, 1) ∧ decode cX12_bound 7 = .ok (.iconst 2, 1) ∧ decode cX12_bound 8 = .ok (.invokestatic 59, 3) ∧ decode cX12_bound 11 = .ok (.ifCond .eq 12, 3) ∧ decode cX12_bound 14 = .ok (.aload_n 0, 1) ∧ decode cX12_bound 15 = .ok (.iload_n 2, 1) ∧ decode cX12_bound 16 = .ok (.iconst 2, 1) ∧ decode cX12_bound 17 = .ok (.invokevirtual 260, 3) ∧ decode cX12_bound 20 = .ok (.ifCond .ne 5, 3) ∧ decode cX12_bound 23 = .ok (.iconst (-1), 1) ∧ decode cX12_bound 24 = .ok (.ireturn, 1) ∧ decode cX12_bound 25 = .ok (.aload_n 0, 1) := by decide +kernel
theorem dX12_bound_0 : decode cX12_bound 0 = .ok (.aload_n 0, 1) := dX12_bound_0_k.1
theorem dX12_bound_1 : decode cX12_bound 1 = .ok (.iconst 0, 1) := dX12_bound_0_k.2.1
theorem dX12_bound_2 : decode cX12_bound 2 = .ok (.putfield 33, 3) := dX12_bound_0_k.2.2.1
theorem dX12_bound_5 : decode cX12_bound 5 = .ok (.iload_n 1, 1) := dX12_bound_0_k.2.2.2.1
theorem dX12_bound_6 : decode cX12_bound 6 = .ok (.iconst 0, 1) := dX12_bound_0_k.2.2.2.2.1
theorem dX12_bound_7 : decode cX12_bound 7 = .ok (.iconst 2, 1) := dX12_bound_0_k.2.2.2.2.2.1
theorem dX12_bound_8 : decode cX12_bound 8 = .ok (.invokestatic 59, 3) := dX12_bound_0_k.2.2.2.2.2.2.1
theorem dX12_bound_11 : decode cX12_bound 11 = .ok (.ifCond .eq 12, 3) := dX12_bound_0_k.2.2.2.2.2.2.2.1
theorem dX12_bound_14 : decode cX12_bound 14 = .ok (.aload_n 0, 1) := dX12_bound_0_k.2.2.2.2.2.2.2.2.1
theorem dX12_bound_15 : decode cX12_bound 15 = .ok (.iload_n 2, 1) := dX12_bound_0_k.2.2.2.2.2.2.2.2.2.1
theorem dX12_bound_16 : decode cX12_bound 16 = .ok (.iconst 2, 1) := dX12_bound_0_k.2.2.2.2.2.2.2.2.2.2.1
theorem dX12_bound_17 : decode cX12_bound 17 = .ok (.invokevirtual 260, 3) := dX12_bound_0_k.2.2.2.2.2.2.2.2.2.2.2.1
theorem dX12_bound_20 : decode cX12_bound 20 = .ok (.ifCond .ne 5, 3) := dX12_bound_0_k.2.2.2.2.2.2.2.2.2.2.2.2.1
theorem dX12_bound_23 : decode cX12_bound 23 = .ok (.iconst (-1), 1) := dX12_bound_0_k.2.2.2.2.2.2.2.2.2.2.2.2.2.1
theorem dX12_bound_24 : decode cX12_bound 24 = .ok (.ireturn, 1) := dX12_bound_0_k.2.2.2.2.2.2.2.2.2.2.2.2.2.2.1
theorem dX12_bound_25 : decode cX12_bound 25 = .ok (.aload_n 0, 1) := dX12_bound_0_k.2.2.2.2.2.2.2.2.2.2.2.2.2.2.2
theorem dX12_bound_26_k : decode cX12_bound 26 = .ok (.iload_n 1, 1) ∧ decode cX12_bound 27 = .ok (.iload_n 2, 1) ∧ decode cX12_bound 28 = .ok (.invokevirtual 263, 3) ∧ decode cX12_bound 31 = .ok (.iload_n 3, 1) ∧ decode cX12_bound 32 = .ok (.ifCond .eq 10, 3) ∧ decode cX12_bound 35 = .ok (.aload_n 0, 1) ∧ decode cX12_bound 36 = .ok (.getfield 245, 3) ∧ decode cX12_bound 39 = .ok (.goto 7, 3) ∧ decode cX12_bound 42 = .ok (.aload_n 0, 1) ∧ decode cX12_bound 43 = .ok (.getfield 242, 3) ∧ decode cX12_bound 46 = .ok (.l2i, 1) ∧ decode cX12_bound 47 = .ok (.ireturn, 1) := by decide +kernel
theorem dX12_bound_26 : decode cX12_bound 26 = .ok (.iload_n 1, 1) := dX12_bound_26_k.1
theorem dX12_bound_27 : decode cX12_bound 27 = .ok (.iload_n 2, 1) := dX12_bound_26_k.2.1
theorem dX12_bound_28 : decode cX12_bound 28 = .ok (.invokevirtual 263, 3) := dX12_bound_26_k.2.2.1
theorem dX12_bound_31 : decode cX12_bound 31 = .ok (.iload_n 3, 1) := dX12_bound_26_k.2.2.2.1
theorem dX12_bound_32 : decode cX12_bound 32 = .ok (.ifCond .eq 10, 3) := dX12_bound_26_k.2.2.2.2.1
theorem dX12_bound_35 : decode cX12_bound 35 = .ok (.aload_n 0, 1) := dX12_bound_26_k.2.2.2.2.2.1
theorem dX12_bound_36 : decode cX12_bound 36 = .ok (.getfield 245, 3) := dX12_bound_26_k.2.2.2.2.2.2.1
theorem dX12_bound_39 : decode cX12_bound 39 = .ok (.goto 7, 3) := dX12_bound_26_k.2.2.2.2.2.2.2.1
theorem dX12_bound_42 : decode cX12_bound 42 = .ok (.aload_n 0, 1) := dX12_bound_26_k.2.2.2.2.2.2.2.2.1
theorem dX12_bound_43 : decode cX12_bound 43 = .ok (.getfield 242, 3) := dX12_bound_26_k.2.2.2.2.2.2.2.2.2.1
theorem dX12_bound_46 : decode cX12_bound 46 = .ok (.l2i, 1) := dX12_bound_26_k.2.2.2.2.2.2.2.2.2.2.1
theorem dX12_bound_47 : decode cX12_bound 47 = .ok (.ireturn, 1) := dX12_bound_26_k.2.2.2.2.2.2.2.2.2.2.2
theorem dX12_isHeld_0_k : decode cX12_isHeld 0 = .ok (.aload_n 0, 1) ∧ decode cX12_isHeld 1 = .ok (.iload_n 1, 1) ∧ decode cX12_isHeld 2 = .ok (.iload_n 2, 1) ∧ decode cX12_isHeld 3 = .ok (.invokevirtual 263, 3) ∧ decode cX12_isHeld 6 = .ok (.iload_n 1, 1) ∧ decode cX12_isHeld 7 = .ok (.iconst 1, 1) ∧ decode cX12_isHeld 8 = .ok (.if_icmp .ne 39, 3) ∧ decode cX12_isHeld 11 = .ok (.ldc2_w 266, 3) ∧ decode cX12_isHeld 14 = .ok (.aload_n 0, 1) ∧ decode cX12_isHeld 15 = .ok (.getfield 242, 3) ∧ decode cX12_isHeld 18 = .ok (.lmul, 1) ∧ decode cX12_isHeld 19 = .ok (.aload_n 0, 1) ∧ decode cX12_isHeld 20 = .ok (.getfield 245, 3) ∧ decode cX12_isHeld 23 = .ok (.sipush 512, 3) ∧ decode cX12_isHeld 26 = .ok (.iconst 2, 1) ∧ decode cX12_isHeld 27 = .ok (.iload_n 3, 1) := by decide +kernel
theorem dX12_isHeld_0 : decode cX12_isHeld 0 = .ok (.aload_n 0, 1) := dX12_isHeld_0_k.1
theorem dX12_isHeld_1 : decode cX12_isHeld 1 = .ok (.iload_n 1, 1) := dX12_isHeld_0_k.2.1
theorem dX12_isHeld_2 : decode cX12_isHeld 2 = .ok (.iload_n 2, 1) := dX12_isHeld_0_k.2.2.1
theorem dX12_isHeld_3 : decode cX12_isHeld 3 = .ok (.invokevirtual 263, 3) := dX12_isHeld_0_k.2.2.2.1
theorem dX12_isHeld_6 : decode cX12_isHeld 6 = .ok (.iload_n 1, 1) := dX12_isHeld_0_k.2.2.2.2.1
theorem dX12_isHeld_7 : decode cX12_isHeld 7 = .ok (.iconst 1, 1) := dX12_isHeld_0_k.2.2.2.2.2.1
theorem dX12_isHeld_8 : decode cX12_isHeld 8 = .ok (.if_icmp .ne 39, 3) := dX12_isHeld_0_k.2.2.2.2.2.2.1
theorem dX12_isHeld_11 : decode cX12_isHeld 11 = .ok (.ldc2_w 266, 3) := dX12_isHeld_0_k.2.2.2.2.2.2.2.1
theorem dX12_isHeld_14 : decode cX12_isHeld 14 = .ok (.aload_n 0, 1) := dX12_isHeld_0_k.2.2.2.2.2.2.2.2.1
theorem dX12_isHeld_15 : decode cX12_isHeld 15 = .ok (.getfield 242, 3) := dX12_isHeld_0_k.2.2.2.2.2.2.2.2.2.1
theorem dX12_isHeld_18 : decode cX12_isHeld 18 = .ok (.lmul, 1) := dX12_isHeld_0_k.2.2.2.2.2.2.2.2.2.2.1
theorem dX12_isHeld_19 : decode cX12_isHeld 19 = .ok (.aload_n 0, 1) := dX12_isHeld_0_k.2.2.2.2.2.2.2.2.2.2.2.1
theorem dX12_isHeld_20 : decode cX12_isHeld 20 = .ok (.getfield 245, 3) := dX12_isHeld_0_k.2.2.2.2.2.2.2.2.2.2.2.2.1
theorem dX12_isHeld_23 : decode cX12_isHeld 23 = .ok (.sipush 512, 3) := dX12_isHeld_0_k.2.2.2.2.2.2.2.2.2.2.2.2.2.1
theorem dX12_isHeld_26 : decode cX12_isHeld 26 = .ok (.iconst 2, 1) := dX12_isHeld_0_k.2.2.2.2.2.2.2.2.2.2.2.2.2.2.1
theorem dX12_isHeld_27 : decode cX12_isHeld 27 = .ok (.iload_n 3, 1) := dX12_isHeld_0_k.2.2.2.2.2.2.2.2.2.2.2.2.2.2.2
theorem dX12_isHeld_28_k : decode cX12_isHeld 28 = .ok (.imul, 1) ∧ decode cX12_isHeld 29 = .ok (.bipush 16, 2) ∧ decode cX12_isHeld 31 = .ok (.iload_n 3, 1) ∧ decode cX12_isHeld 32 = .ok (.isub, 1) ∧ decode cX12_isHeld 33 = .ok (.imul, 1) ∧ decode cX12_isHeld 34 = .ok (.iadd, 1) ∧ decode cX12_isHeld 35 = .ok (.i2l, 1) ∧ decode cX12_isHeld 36 = .ok (.lmul, 1) ∧ decode cX12_isHeld 37 = .ok (.lcmp, 1) ∧ decode cX12_isHeld 38 = .ok (.ifCond .lt 7, 3) ∧ decode cX12_isHeld 41 = .ok (.iconst 1, 1) ∧ decode cX12_isHeld 42 = .ok (.goto 4, 3) ∧ decode cX12_isHeld 45 = .ok (.iconst 0, 1) ∧ decode cX12_isHeld 46 = .ok (.ireturn, 1) ∧ decode cX12_isHeld 47 = .ok (.aload_n 0, 1) ∧ decode cX12_isHeld 48 = .ok (.getfield 245, 3) := by decide +kernel
theorem dX12_isHeld_28 : decode cX12_isHeld 28 = .ok (.imul, 1) := dX12_isHeld_28_k.1
theorem dX12_isHeld_29 : decode cX12_isHeld 29 = .ok (.bipush 16, 2) := dX12_isHeld_28_k.2.1
theorem dX12_isHeld_31 : decode cX12_isHeld 31 = .ok (.iload_n 3, 1) := dX12_isHeld_28_k.2.2.1
theorem dX12_isHeld_32 : decode cX12_isHeld 32 = .ok (.isub, 1) := dX12_isHeld_28_k.2.2.2.1
theorem dX12_isHeld_33 : decode cX12_isHeld 33 = .ok (.imul, 1) := dX12_isHeld_28_k.2.2.2.2.1
theorem dX12_isHeld_34 : decode cX12_isHeld 34 = .ok (.iadd, 1) := dX12_isHeld_28_k.2.2.2.2.2.1
theorem dX12_isHeld_35 : decode cX12_isHeld 35 = .ok (.i2l, 1) := dX12_isHeld_28_k.2.2.2.2.2.2.1
theorem dX12_isHeld_36 : decode cX12_isHeld 36 = .ok (.lmul, 1) := dX12_isHeld_28_k.2.2.2.2.2.2.2.1
theorem dX12_isHeld_37 : decode cX12_isHeld 37 = .ok (.lcmp, 1) := dX12_isHeld_28_k.2.2.2.2.2.2.2.2.1
theorem dX12_isHeld_38 : decode cX12_isHeld 38 = .ok (.ifCond .lt 7, 3) := dX12_isHeld_28_k.2.2.2.2.2.2.2.2.2.1
theorem dX12_isHeld_41 : decode cX12_isHeld 41 = .ok (.iconst 1, 1) := dX12_isHeld_28_k.2.2.2.2.2.2.2.2.2.2.1
theorem dX12_isHeld_42 : decode cX12_isHeld 42 = .ok (.goto 4, 3) := dX12_isHeld_28_k.2.2.2.2.2.2.2.2.2.2.2.1
theorem dX12_isHeld_45 : decode cX12_isHeld 45 = .ok (.iconst 0, 1) := dX12_isHeld_28_k.2.2.2.2.2.2.2.2.2.2.2.2.1
theorem dX12_isHeld_46 : decode cX12_isHeld 46 = .ok (.ireturn, 1) := dX12_isHeld_28_k.2.2.2.2.2.2.2.2.2.2.2.2.2.1
theorem dX12_isHeld_47 : decode cX12_isHeld 47 = .ok (.aload_n 0, 1) := dX12_isHeld_28_k.2.2.2.2.2.2.2.2.2.2.2.2.2.2.1
theorem dX12_isHeld_48 : decode cX12_isHeld 48 = .ok (.getfield 245, 3) := dX12_isHeld_28_k.2.2.2.2.2.2.2.2.2.2.2.2.2.2.2
theorem dX12_isHeld_51_k : decode cX12_isHeld 51 = .ok (.iload_n 3, 1) ∧ decode cX12_isHeld 52 = .ok (.i2l, 1) ∧ decode cX12_isHeld 53 = .ok (.lmul, 1) ∧ decode cX12_isHeld 54 = .ok (.ldc2_w 268, 3) ∧ decode cX12_isHeld 57 = .ok (.aload_n 0, 1) ∧ decode cX12_isHeld 58 = .ok (.getfield 242, 3) ∧ decode cX12_isHeld 61 = .ok (.lmul, 1) ∧ decode cX12_isHeld 62 = .ok (.lcmp, 1) ∧ decode cX12_isHeld 63 = .ok (.ifCond .lt 7, 3) ∧ decode cX12_isHeld 66 = .ok (.iconst 1, 1) ∧ decode cX12_isHeld 67 = .ok (.goto 4, 3) ∧ decode cX12_isHeld 70 = .ok (.iconst 0, 1) ∧ decode cX12_isHeld 71 = .ok (.ireturn, 1) := by decide +kernel
theorem dX12_isHeld_51 : decode cX12_isHeld 51 = .ok (.iload_n 3, 1) := dX12_isHeld_51_k.1
theorem dX12_isHeld_52 : decode cX12_isHeld 52 = .ok (.i2l, 1) := dX12_isHeld_51_k.2.1
theorem dX12_isHeld_53 : decode cX12_isHeld 53 = .ok (.lmul, 1) := dX12_isHeld_51_k.2.2.1
theorem dX12_isHeld_54 : decode cX12_isHeld 54 = .ok (.ldc2_w 268, 3) := dX12_isHeld_51_k.2.2.2.1
theorem dX12_isHeld_57 : decode cX12_isHeld 57 = .ok (.aload_n 0, 1) := dX12_isHeld_51_k.2.2.2.2.1
theorem dX12_isHeld_58 : decode cX12_isHeld 58 = .ok (.getfield 242, 3) := dX12_isHeld_51_k.2.2.2.2.2.1
theorem dX12_isHeld_61 : decode cX12_isHeld 61 = .ok (.lmul, 1) := dX12_isHeld_51_k.2.2.2.2.2.2.1
theorem dX12_isHeld_62 : decode cX12_isHeld 62 = .ok (.lcmp, 1) := dX12_isHeld_51_k.2.2.2.2.2.2.2.1
theorem dX12_isHeld_63 : decode cX12_isHeld 63 = .ok (.ifCond .lt 7, 3) := dX12_isHeld_51_k.2.2.2.2.2.2.2.2.1
theorem dX12_isHeld_66 : decode cX12_isHeld 66 = .ok (.iconst 1, 1) := dX12_isHeld_51_k.2.2.2.2.2.2.2.2.2.1
theorem dX12_isHeld_67 : decode cX12_isHeld 67 = .ok (.goto 4, 3) := dX12_isHeld_51_k.2.2.2.2.2.2.2.2.2.2.1
theorem dX12_isHeld_70 : decode cX12_isHeld 70 = .ok (.iconst 0, 1) := dX12_isHeld_51_k.2.2.2.2.2.2.2.2.2.2.2.1
theorem dX12_isHeld_71 : decode cX12_isHeld 71 = .ok (.ireturn, 1) := dX12_isHeld_51_k.2.2.2.2.2.2.2.2.2.2.2.2
theorem dX12_holds_0_k : decode cX12_holds 0 = .ok (.aload_n 0, 1) ∧ decode cX12_holds 1 = .ok (.iconst 0, 1) ∧ decode cX12_holds 2 = .ok (.putfield 33, 3) ∧ decode cX12_holds 5 = .ok (.aload_n 0, 1) ∧ decode cX12_holds 6 = .ok (.iload_n 1, 1) ∧ decode cX12_holds 7 = .ok (.iconst 2, 1) ∧ decode cX12_holds 8 = .ok (.invokevirtual 260, 3) ∧ decode cX12_holds 11 = .ok (.ifCond .ne 5, 3) ∧ decode cX12_holds 14 = .ok (.iconst (-1), 1) ∧ decode cX12_holds 15 = .ok (.ireturn, 1) ∧ decode cX12_holds 16 = .ok (.iconst 0, 1) ∧ decode cX12_holds 17 = .ok (.istore_n 2, 1) ∧ decode cX12_holds 18 = .ok (.iconst 0, 1) ∧ decode cX12_holds 19 = .ok (.istore_n 3, 1) ∧ decode cX12_holds 20 = .ok (.iload_n 3, 1) ∧ decode cX12_holds 21 = .ok (.iconst 3, 1) := by decide +kernel
theorem dX12_holds_0 : decode cX12_holds 0 = .ok (.aload_n 0, 1) := dX12_holds_0_k.1
theorem dX12_holds_1 : decode cX12_holds 1 = .ok (.iconst 0, 1) := dX12_holds_0_k.2.1
theorem dX12_holds_2 : decode cX12_holds 2 = .ok (.putfield 33, 3) := dX12_holds_0_k.2.2.1
theorem dX12_holds_5 : decode cX12_holds 5 = .ok (.aload_n 0, 1) := dX12_holds_0_k.2.2.2.1
theorem dX12_holds_6 : decode cX12_holds 6 = .ok (.iload_n 1, 1) := dX12_holds_0_k.2.2.2.2.1
theorem dX12_holds_7 : decode cX12_holds 7 = .ok (.iconst 2, 1) := dX12_holds_0_k.2.2.2.2.2.1
theorem dX12_holds_8 : decode cX12_holds 8 = .ok (.invokevirtual 260, 3) := dX12_holds_0_k.2.2.2.2.2.2.1
theorem dX12_holds_11 : decode cX12_holds 11 = .ok (.ifCond .ne 5, 3) := dX12_holds_0_k.2.2.2.2.2.2.2.1
theorem dX12_holds_14 : decode cX12_holds 14 = .ok (.iconst (-1), 1) := dX12_holds_0_k.2.2.2.2.2.2.2.2.1
theorem dX12_holds_15 : decode cX12_holds 15 = .ok (.ireturn, 1) := dX12_holds_0_k.2.2.2.2.2.2.2.2.2.1
theorem dX12_holds_16 : decode cX12_holds 16 = .ok (.iconst 0, 1) := dX12_holds_0_k.2.2.2.2.2.2.2.2.2.2.1
theorem dX12_holds_17 : decode cX12_holds 17 = .ok (.istore_n 2, 1) := dX12_holds_0_k.2.2.2.2.2.2.2.2.2.2.2.1
theorem dX12_holds_18 : decode cX12_holds 18 = .ok (.iconst 0, 1) := dX12_holds_0_k.2.2.2.2.2.2.2.2.2.2.2.2.1
theorem dX12_holds_19 : decode cX12_holds 19 = .ok (.istore_n 3, 1) := dX12_holds_0_k.2.2.2.2.2.2.2.2.2.2.2.2.2.1
theorem dX12_holds_20 : decode cX12_holds 20 = .ok (.iload_n 3, 1) := dX12_holds_0_k.2.2.2.2.2.2.2.2.2.2.2.2.2.2.1
theorem dX12_holds_21 : decode cX12_holds 21 = .ok (.iconst 3, 1) := dX12_holds_0_k.2.2.2.2.2.2.2.2.2.2.2.2.2.2.2
theorem dX12_holds_22_k : decode cX12_holds 22 = .ok (.if_icmp .ge 34, 3) ∧ decode cX12_holds 25 = .ok (.iload_n 2, 1) ∧ decode cX12_holds 26 = .ok (.aload_n 0, 1) ∧ decode cX12_holds 27 = .ok (.iload_n 3, 1) ∧ decode cX12_holds 28 = .ok (.iload_n 1, 1) ∧ decode cX12_holds 29 = .ok (.aload_n 0, 1) ∧ decode cX12_holds 30 = .ok (.getfield 7, 3) ∧ decode cX12_holds 33 = .ok (.iconst 0, 1) ∧ decode cX12_holds 34 = .ok (.iaload, 1) ∧ decode cX12_holds 35 = .ok (.invokevirtual 270, 3) ∧ decode cX12_holds 38 = .ok (.ifCond .eq 9, 3) ∧ decode cX12_holds 41 = .ok (.iconst 1, 1) ∧ decode cX12_holds 42 = .ok (.iload_n 3, 1) ∧ decode cX12_holds 43 = .ok (.ishl, 1) ∧ decode cX12_holds 44 = .ok (.goto 4, 3) ∧ decode cX12_holds 47 = .ok (.iconst 0, 1) := by decide +kernel
theorem dX12_holds_22 : decode cX12_holds 22 = .ok (.if_icmp .ge 34, 3) := dX12_holds_22_k.1
theorem dX12_holds_25 : decode cX12_holds 25 = .ok (.iload_n 2, 1) := dX12_holds_22_k.2.1
theorem dX12_holds_26 : decode cX12_holds 26 = .ok (.aload_n 0, 1) := dX12_holds_22_k.2.2.1
theorem dX12_holds_27 : decode cX12_holds 27 = .ok (.iload_n 3, 1) := dX12_holds_22_k.2.2.2.1
theorem dX12_holds_28 : decode cX12_holds 28 = .ok (.iload_n 1, 1) := dX12_holds_22_k.2.2.2.2.1
theorem dX12_holds_29 : decode cX12_holds 29 = .ok (.aload_n 0, 1) := dX12_holds_22_k.2.2.2.2.2.1
theorem dX12_holds_30 : decode cX12_holds 30 = .ok (.getfield 7, 3) := dX12_holds_22_k.2.2.2.2.2.2.1
theorem dX12_holds_33 : decode cX12_holds 33 = .ok (.iconst 0, 1) := dX12_holds_22_k.2.2.2.2.2.2.2.1
theorem dX12_holds_34 : decode cX12_holds 34 = .ok (.iaload, 1) := dX12_holds_22_k.2.2.2.2.2.2.2.2.1
theorem dX12_holds_35 : decode cX12_holds 35 = .ok (.invokevirtual 270, 3) := dX12_holds_22_k.2.2.2.2.2.2.2.2.2.1
theorem dX12_holds_38 : decode cX12_holds 38 = .ok (.ifCond .eq 9, 3) := dX12_holds_22_k.2.2.2.2.2.2.2.2.2.2.1
theorem dX12_holds_41 : decode cX12_holds 41 = .ok (.iconst 1, 1) := dX12_holds_22_k.2.2.2.2.2.2.2.2.2.2.2.1
theorem dX12_holds_42 : decode cX12_holds 42 = .ok (.iload_n 3, 1) := dX12_holds_22_k.2.2.2.2.2.2.2.2.2.2.2.2.1
theorem dX12_holds_43 : decode cX12_holds 43 = .ok (.ishl, 1) := dX12_holds_22_k.2.2.2.2.2.2.2.2.2.2.2.2.2.1
theorem dX12_holds_44 : decode cX12_holds 44 = .ok (.goto 4, 3) := dX12_holds_22_k.2.2.2.2.2.2.2.2.2.2.2.2.2.2.1
theorem dX12_holds_47 : decode cX12_holds 47 = .ok (.iconst 0, 1) := dX12_holds_22_k.2.2.2.2.2.2.2.2.2.2.2.2.2.2.2
theorem dX12_holds_48_k : decode cX12_holds 48 = .ok (.ior, 1) ∧ decode cX12_holds 49 = .ok (.istore_n 2, 1) ∧ decode cX12_holds 50 = .ok (.iinc 3 1, 3) ∧ decode cX12_holds 53 = .ok (.goto (-33), 3) ∧ decode cX12_holds 56 = .ok (.iload_n 2, 1) ∧ decode cX12_holds 57 = .ok (.ireturn, 1) := by decide +kernel
theorem dX12_holds_48 : decode cX12_holds 48 = .ok (.ior, 1) := dX12_holds_48_k.1
theorem dX12_holds_49 : decode cX12_holds 49 = .ok (.istore_n 2, 1) := dX12_holds_48_k.2.1
theorem dX12_holds_50 : decode cX12_holds 50 = .ok (.iinc 3 1, 3) := dX12_holds_48_k.2.2.1
theorem dX12_holds_53 : decode cX12_holds 53 = .ok (.goto (-33), 3) := dX12_holds_48_k.2.2.2.1
theorem dX12_holds_56 : decode cX12_holds 56 = .ok (.iload_n 2, 1) := dX12_holds_48_k.2.2.2.2.1
theorem dX12_holds_57 : decode cX12_holds 57 = .ok (.ireturn, 1) := dX12_holds_48_k.2.2.2.2.2
theorem dX12_claim_0_k : decode cX12_claim 0 = .ok (.aload_n 0, 1) ∧ decode cX12_claim 1 = .ok (.iconst 0, 1) ∧ decode cX12_claim 2 = .ok (.putfield 33, 3) ∧ decode cX12_claim 5 = .ok (.aload_n 0, 1) ∧ decode cX12_claim 6 = .ok (.iload_n 1, 1) ∧ decode cX12_claim 7 = .ok (.iconst 2, 1) ∧ decode cX12_claim 8 = .ok (.invokevirtual 260, 3) ∧ decode cX12_claim 11 = .ok (.ifCond .ne 5, 3) ∧ decode cX12_claim 14 = .ok (.iconst (-1), 1) ∧ decode cX12_claim 15 = .ok (.ireturn, 1) ∧ decode cX12_claim 16 = .ok (.bipush 8, 2) ∧ decode cX12_claim 18 = .ok (.istore_n 2, 1) ∧ decode cX12_claim 19 = .ok (.iload_n 2, 1) ∧ decode cX12_claim 20 = .ok (.bipush 16, 2) ∧ decode cX12_claim 22 = .ok (.if_icmp .ge 29, 3) ∧ decode cX12_claim 25 = .ok (.aload_n 0, 1) := by decide +kernel
theorem dX12_claim_0 : decode cX12_claim 0 = .ok (.aload_n 0, 1) := dX12_claim_0_k.1
theorem dX12_claim_1 : decode cX12_claim 1 = .ok (.iconst 0, 1) := dX12_claim_0_k.2.1
theorem dX12_claim_2 : decode cX12_claim 2 = .ok (.putfield 33, 3) := dX12_claim_0_k.2.2.1
theorem dX12_claim_5 : decode cX12_claim 5 = .ok (.aload_n 0, 1) := dX12_claim_0_k.2.2.2.1
theorem dX12_claim_6 : decode cX12_claim 6 = .ok (.iload_n 1, 1) := dX12_claim_0_k.2.2.2.2.1
theorem dX12_claim_7 : decode cX12_claim 7 = .ok (.iconst 2, 1) := dX12_claim_0_k.2.2.2.2.2.1
theorem dX12_claim_8 : decode cX12_claim 8 = .ok (.invokevirtual 260, 3) := dX12_claim_0_k.2.2.2.2.2.2.1
theorem dX12_claim_11 : decode cX12_claim 11 = .ok (.ifCond .ne 5, 3) := dX12_claim_0_k.2.2.2.2.2.2.2.1
theorem dX12_claim_14 : decode cX12_claim 14 = .ok (.iconst (-1), 1) := dX12_claim_0_k.2.2.2.2.2.2.2.2.1
theorem dX12_claim_15 : decode cX12_claim 15 = .ok (.ireturn, 1) := dX12_claim_0_k.2.2.2.2.2.2.2.2.2.1
theorem dX12_claim_16 : decode cX12_claim 16 = .ok (.bipush 8, 2) := dX12_claim_0_k.2.2.2.2.2.2.2.2.2.2.1
theorem dX12_claim_18 : decode cX12_claim 18 = .ok (.istore_n 2, 1) := dX12_claim_0_k.2.2.2.2.2.2.2.2.2.2.2.1
theorem dX12_claim_19 : decode cX12_claim 19 = .ok (.iload_n 2, 1) := dX12_claim_0_k.2.2.2.2.2.2.2.2.2.2.2.2.1
theorem dX12_claim_20 : decode cX12_claim 20 = .ok (.bipush 16, 2) := dX12_claim_0_k.2.2.2.2.2.2.2.2.2.2.2.2.2.1
theorem dX12_claim_22 : decode cX12_claim 22 = .ok (.if_icmp .ge 29, 3) := dX12_claim_0_k.2.2.2.2.2.2.2.2.2.2.2.2.2.2.1
theorem dX12_claim_25 : decode cX12_claim 25 = .ok (.aload_n 0, 1) := dX12_claim_0_k.2.2.2.2.2.2.2.2.2.2.2.2.2.2.2
theorem dX12_claim_26_k : decode cX12_claim 26 = .ok (.iconst 0, 1) ∧ decode cX12_claim 27 = .ok (.iload_n 1, 1) ∧ decode cX12_claim 28 = .ok (.iload_n 2, 1) ∧ decode cX12_claim 29 = .ok (.invokevirtual 270, 3) ∧ decode cX12_claim 32 = .ok (.ifCond .eq 13, 3) ∧ decode cX12_claim 35 = .ok (.aload_n 0, 1) ∧ decode cX12_claim 36 = .ok (.iconst 2, 1) ∧ decode cX12_claim 37 = .ok (.iload_n 1, 1) ∧ decode cX12_claim 38 = .ok (.iload_n 2, 1) ∧ decode cX12_claim 39 = .ok (.invokevirtual 270, 3) ∧ decode cX12_claim 42 = .ok (.ifCond .ne 9, 3) ∧ decode cX12_claim 45 = .ok (.iinc 2 1, 3) ∧ decode cX12_claim 48 = .ok (.goto (-29), 3) ∧ decode cX12_claim 51 = .ok (.iload_n 2, 1) ∧ decode cX12_claim 52 = .ok (.ireturn, 1) := by decide +kernel
theorem dX12_claim_26 : decode cX12_claim 26 = .ok (.iconst 0, 1) := dX12_claim_26_k.1
theorem dX12_claim_27 : decode cX12_claim 27 = .ok (.iload_n 1, 1) := dX12_claim_26_k.2.1
theorem dX12_claim_28 : decode cX12_claim 28 = .ok (.iload_n 2, 1) := dX12_claim_26_k.2.2.1
theorem dX12_claim_29 : decode cX12_claim 29 = .ok (.invokevirtual 270, 3) := dX12_claim_26_k.2.2.2.1
theorem dX12_claim_32 : decode cX12_claim 32 = .ok (.ifCond .eq 13, 3) := dX12_claim_26_k.2.2.2.2.1
theorem dX12_claim_35 : decode cX12_claim 35 = .ok (.aload_n 0, 1) := dX12_claim_26_k.2.2.2.2.2.1
theorem dX12_claim_36 : decode cX12_claim 36 = .ok (.iconst 2, 1) := dX12_claim_26_k.2.2.2.2.2.2.1
theorem dX12_claim_37 : decode cX12_claim 37 = .ok (.iload_n 1, 1) := dX12_claim_26_k.2.2.2.2.2.2.2.1
theorem dX12_claim_38 : decode cX12_claim 38 = .ok (.iload_n 2, 1) := dX12_claim_26_k.2.2.2.2.2.2.2.2.1
theorem dX12_claim_39 : decode cX12_claim 39 = .ok (.invokevirtual 270, 3) := dX12_claim_26_k.2.2.2.2.2.2.2.2.2.1
theorem dX12_claim_42 : decode cX12_claim 42 = .ok (.ifCond .ne 9, 3) := dX12_claim_26_k.2.2.2.2.2.2.2.2.2.2.1
theorem dX12_claim_45 : decode cX12_claim 45 = .ok (.iinc 2 1, 3) := dX12_claim_26_k.2.2.2.2.2.2.2.2.2.2.2.1
theorem dX12_claim_48 : decode cX12_claim 48 = .ok (.goto (-29), 3) := dX12_claim_26_k.2.2.2.2.2.2.2.2.2.2.2.2.1
theorem dX12_claim_51 : decode cX12_claim 51 = .ok (.iload_n 2, 1) := dX12_claim_26_k.2.2.2.2.2.2.2.2.2.2.2.2.2.1
theorem dX12_claim_52 : decode cX12_claim 52 = .ok (.ireturn, 1) := dX12_claim_26_k.2.2.2.2.2.2.2.2.2.2.2.2.2.2
theorem dX12_mostTuple_0_k : decode cX12_mostTuple 0 = .ok (.iconst 0, 1) ∧ decode cX12_mostTuple 1 = .ok (.istore_n 3, 1) ∧ decode cX12_mostTuple 2 = .ok (.iload_n 3, 1) ∧ decode cX12_mostTuple 3 = .ok (.sipush 256, 3) ∧ decode cX12_mostTuple 6 = .ok (.if_icmp .ge 16, 3) ∧ decode cX12_mostTuple 9 = .ok (.aload_n 0, 1) ∧ decode cX12_mostTuple 10 = .ok (.getfield 24, 3) ∧ decode cX12_mostTuple 13 = .ok (.iload_n 3, 1) ∧ decode cX12_mostTuple 14 = .ok (.iconst 0, 1) ∧ decode cX12_mostTuple 15 = .ok (.iastore, 1) ∧ decode cX12_mostTuple 16 = .ok (.iinc 3 1, 3) ∧ decode cX12_mostTuple 19 = .ok (.goto (-17), 3) ∧ decode cX12_mostTuple 22 = .ok (.iconst 0, 1) ∧ decode cX12_mostTuple 23 = .ok (.istore_n 3, 1) ∧ decode cX12_mostTuple 24 = .ok (.iconst 0, 1) ∧ decode cX12_mostTuple 25 = .ok (.istore 4, 2) := by decide +kernel
theorem dX12_mostTuple_0 : decode cX12_mostTuple 0 = .ok (.iconst 0, 1) := dX12_mostTuple_0_k.1
theorem dX12_mostTuple_1 : decode cX12_mostTuple 1 = .ok (.istore_n 3, 1) := dX12_mostTuple_0_k.2.1
theorem dX12_mostTuple_2 : decode cX12_mostTuple 2 = .ok (.iload_n 3, 1) := dX12_mostTuple_0_k.2.2.1
theorem dX12_mostTuple_3 : decode cX12_mostTuple 3 = .ok (.sipush 256, 3) := dX12_mostTuple_0_k.2.2.2.1
theorem dX12_mostTuple_6 : decode cX12_mostTuple 6 = .ok (.if_icmp .ge 16, 3) := dX12_mostTuple_0_k.2.2.2.2.1
theorem dX12_mostTuple_9 : decode cX12_mostTuple 9 = .ok (.aload_n 0, 1) := dX12_mostTuple_0_k.2.2.2.2.2.1
theorem dX12_mostTuple_10 : decode cX12_mostTuple 10 = .ok (.getfield 24, 3) := dX12_mostTuple_0_k.2.2.2.2.2.2.1
theorem dX12_mostTuple_13 : decode cX12_mostTuple 13 = .ok (.iload_n 3, 1) := dX12_mostTuple_0_k.2.2.2.2.2.2.2.1
theorem dX12_mostTuple_14 : decode cX12_mostTuple 14 = .ok (.iconst 0, 1) := dX12_mostTuple_0_k.2.2.2.2.2.2.2.2.1
theorem dX12_mostTuple_15 : decode cX12_mostTuple 15 = .ok (.iastore, 1) := dX12_mostTuple_0_k.2.2.2.2.2.2.2.2.2.1
theorem dX12_mostTuple_16 : decode cX12_mostTuple 16 = .ok (.iinc 3 1, 3) := dX12_mostTuple_0_k.2.2.2.2.2.2.2.2.2.2.1
theorem dX12_mostTuple_19 : decode cX12_mostTuple 19 = .ok (.goto (-17), 3) := dX12_mostTuple_0_k.2.2.2.2.2.2.2.2.2.2.2.1
theorem dX12_mostTuple_22 : decode cX12_mostTuple 22 = .ok (.iconst 0, 1) := dX12_mostTuple_0_k.2.2.2.2.2.2.2.2.2.2.2.2.1
theorem dX12_mostTuple_23 : decode cX12_mostTuple 23 = .ok (.istore_n 3, 1) := dX12_mostTuple_0_k.2.2.2.2.2.2.2.2.2.2.2.2.2.1
theorem dX12_mostTuple_24 : decode cX12_mostTuple 24 = .ok (.iconst 0, 1) := dX12_mostTuple_0_k.2.2.2.2.2.2.2.2.2.2.2.2.2.2.1
theorem dX12_mostTuple_25 : decode cX12_mostTuple 25 = .ok (.istore 4, 2) := dX12_mostTuple_0_k.2.2.2.2.2.2.2.2.2.2.2.2.2.2.2
theorem dX12_mostTuple_27_k : decode cX12_mostTuple 27 = .ok (.iload 4, 2) ∧ decode cX12_mostTuple 29 = .ok (.iload_n 2, 1) ∧ decode cX12_mostTuple 30 = .ok (.iadd, 1) ∧ decode cX12_mostTuple 31 = .ok (.iload_n 1, 1) ∧ decode cX12_mostTuple 32 = .ok (.if_icmp .gt 67, 3) ∧ decode cX12_mostTuple 35 = .ok (.iconst 0, 1) ∧ decode cX12_mostTuple 36 = .ok (.istore 5, 2) ∧ decode cX12_mostTuple 38 = .ok (.iconst 0, 1) ∧ decode cX12_mostTuple 39 = .ok (.istore 6, 2) ∧ decode cX12_mostTuple 41 = .ok (.iload 6, 2) ∧ decode cX12_mostTuple 43 = .ok (.iload_n 2, 1) ∧ decode cX12_mostTuple 44 = .ok (.if_icmp .ge 26, 3) ∧ decode cX12_mostTuple 47 = .ok (.iconst 2, 1) ∧ decode cX12_mostTuple 48 = .ok (.iload 5, 2) ∧ decode cX12_mostTuple 50 = .ok (.imul, 1) ∧ decode cX12_mostTuple 51 = .ok (.aload_n 0, 1) := by decide +kernel
theorem dX12_mostTuple_27 : decode cX12_mostTuple 27 = .ok (.iload 4, 2) := dX12_mostTuple_27_k.1
theorem dX12_mostTuple_29 : decode cX12_mostTuple 29 = .ok (.iload_n 2, 1) := dX12_mostTuple_27_k.2.1
theorem dX12_mostTuple_30 : decode cX12_mostTuple 30 = .ok (.iadd, 1) := dX12_mostTuple_27_k.2.2.1
theorem dX12_mostTuple_31 : decode cX12_mostTuple 31 = .ok (.iload_n 1, 1) := dX12_mostTuple_27_k.2.2.2.1
theorem dX12_mostTuple_32 : decode cX12_mostTuple 32 = .ok (.if_icmp .gt 67, 3) := dX12_mostTuple_27_k.2.2.2.2.1
theorem dX12_mostTuple_35 : decode cX12_mostTuple 35 = .ok (.iconst 0, 1) := dX12_mostTuple_27_k.2.2.2.2.2.1
theorem dX12_mostTuple_36 : decode cX12_mostTuple 36 = .ok (.istore 5, 2) := dX12_mostTuple_27_k.2.2.2.2.2.2.1
theorem dX12_mostTuple_38 : decode cX12_mostTuple 38 = .ok (.iconst 0, 1) := dX12_mostTuple_27_k.2.2.2.2.2.2.2.1
theorem dX12_mostTuple_39 : decode cX12_mostTuple 39 = .ok (.istore 6, 2) := dX12_mostTuple_27_k.2.2.2.2.2.2.2.2.1
theorem dX12_mostTuple_41 : decode cX12_mostTuple 41 = .ok (.iload 6, 2) := dX12_mostTuple_27_k.2.2.2.2.2.2.2.2.2.1
theorem dX12_mostTuple_43 : decode cX12_mostTuple 43 = .ok (.iload_n 2, 1) := dX12_mostTuple_27_k.2.2.2.2.2.2.2.2.2.2.1
theorem dX12_mostTuple_44 : decode cX12_mostTuple 44 = .ok (.if_icmp .ge 26, 3) := dX12_mostTuple_27_k.2.2.2.2.2.2.2.2.2.2.2.1
theorem dX12_mostTuple_47 : decode cX12_mostTuple 47 = .ok (.iconst 2, 1) := dX12_mostTuple_27_k.2.2.2.2.2.2.2.2.2.2.2.2.1
theorem dX12_mostTuple_48 : decode cX12_mostTuple 48 = .ok (.iload 5, 2) := dX12_mostTuple_27_k.2.2.2.2.2.2.2.2.2.2.2.2.2.1
theorem dX12_mostTuple_50 : decode cX12_mostTuple 50 = .ok (.imul, 1) := dX12_mostTuple_27_k.2.2.2.2.2.2.2.2.2.2.2.2.2.2.1
theorem dX12_mostTuple_51 : decode cX12_mostTuple 51 = .ok (.aload_n 0, 1) := dX12_mostTuple_27_k.2.2.2.2.2.2.2.2.2.2.2.2.2.2.2
theorem dX12_mostTuple_52_k : decode cX12_mostTuple 52 = .ok (.iload_n 1, 1) ∧ decode cX12_mostTuple 53 = .ok (.iload 4, 2) ∧ decode cX12_mostTuple 55 = .ok (.iload 6, 2) ∧ decode cX12_mostTuple 57 = .ok (.iadd, 1) ∧ decode cX12_mostTuple 58 = .ok (.invokevirtual 236, 3) ∧ decode cX12_mostTuple 61 = .ok (.iadd, 1) ∧ decode cX12_mostTuple 62 = .ok (.istore 5, 2) ∧ decode cX12_mostTuple 64 = .ok (.iinc 6 1, 3) ∧ decode cX12_mostTuple 67 = .ok (.goto (-26), 3) ∧ decode cX12_mostTuple 70 = .ok (.aload_n 0, 1) ∧ decode cX12_mostTuple 71 = .ok (.getfield 24, 3) ∧ decode cX12_mostTuple 74 = .ok (.iload 5, 2) ∧ decode cX12_mostTuple 76 = .ok (.dup2, 1) ∧ decode cX12_mostTuple 77 = .ok (.iaload, 1) ∧ decode cX12_mostTuple 78 = .ok (.iconst 1, 1) ∧ decode cX12_mostTuple 79 = .ok (.iadd, 1) := by decide +kernel
theorem dX12_mostTuple_52 : decode cX12_mostTuple 52 = .ok (.iload_n 1, 1) := dX12_mostTuple_52_k.1
theorem dX12_mostTuple_53 : decode cX12_mostTuple 53 = .ok (.iload 4, 2) := dX12_mostTuple_52_k.2.1
theorem dX12_mostTuple_55 : decode cX12_mostTuple 55 = .ok (.iload 6, 2) := dX12_mostTuple_52_k.2.2.1
theorem dX12_mostTuple_57 : decode cX12_mostTuple 57 = .ok (.iadd, 1) := dX12_mostTuple_52_k.2.2.2.1
theorem dX12_mostTuple_58 : decode cX12_mostTuple 58 = .ok (.invokevirtual 236, 3) := dX12_mostTuple_52_k.2.2.2.2.1
theorem dX12_mostTuple_61 : decode cX12_mostTuple 61 = .ok (.iadd, 1) := dX12_mostTuple_52_k.2.2.2.2.2.1
theorem dX12_mostTuple_62 : decode cX12_mostTuple 62 = .ok (.istore 5, 2) := dX12_mostTuple_52_k.2.2.2.2.2.2.1
theorem dX12_mostTuple_64 : decode cX12_mostTuple 64 = .ok (.iinc 6 1, 3) := dX12_mostTuple_52_k.2.2.2.2.2.2.2.1
theorem dX12_mostTuple_67 : decode cX12_mostTuple 67 = .ok (.goto (-26), 3) := dX12_mostTuple_52_k.2.2.2.2.2.2.2.2.1
theorem dX12_mostTuple_70 : decode cX12_mostTuple 70 = .ok (.aload_n 0, 1) := dX12_mostTuple_52_k.2.2.2.2.2.2.2.2.2.1
theorem dX12_mostTuple_71 : decode cX12_mostTuple 71 = .ok (.getfield 24, 3) := dX12_mostTuple_52_k.2.2.2.2.2.2.2.2.2.2.1
theorem dX12_mostTuple_74 : decode cX12_mostTuple 74 = .ok (.iload 5, 2) := dX12_mostTuple_52_k.2.2.2.2.2.2.2.2.2.2.2.1
theorem dX12_mostTuple_76 : decode cX12_mostTuple 76 = .ok (.dup2, 1) := dX12_mostTuple_52_k.2.2.2.2.2.2.2.2.2.2.2.2.1
theorem dX12_mostTuple_77 : decode cX12_mostTuple 77 = .ok (.iaload, 1) := dX12_mostTuple_52_k.2.2.2.2.2.2.2.2.2.2.2.2.2.1
theorem dX12_mostTuple_78 : decode cX12_mostTuple 78 = .ok (.iconst 1, 1) := dX12_mostTuple_52_k.2.2.2.2.2.2.2.2.2.2.2.2.2.2.1
theorem dX12_mostTuple_79 : decode cX12_mostTuple 79 = .ok (.iadd, 1) := dX12_mostTuple_52_k.2.2.2.2.2.2.2.2.2.2.2.2.2.2.2
theorem dX12_mostTuple_80_k : decode cX12_mostTuple 80 = .ok (.iastore, 1) ∧ decode cX12_mostTuple 81 = .ok (.iload_n 3, 1) ∧ decode cX12_mostTuple 82 = .ok (.aload_n 0, 1) ∧ decode cX12_mostTuple 83 = .ok (.getfield 24, 3) ∧ decode cX12_mostTuple 86 = .ok (.iload 5, 2) ∧ decode cX12_mostTuple 88 = .ok (.iaload, 1) ∧ decode cX12_mostTuple 89 = .ok (.invokestatic 239, 3) ∧ decode cX12_mostTuple 92 = .ok (.istore_n 3, 1) ∧ decode cX12_mostTuple 93 = .ok (.iinc 4 1, 3) ∧ decode cX12_mostTuple 96 = .ok (.goto (-69), 3) ∧ decode cX12_mostTuple 99 = .ok (.iload_n 3, 1) ∧ decode cX12_mostTuple 100 = .ok (.ireturn, 1) := by decide +kernel
theorem dX12_mostTuple_80 : decode cX12_mostTuple 80 = .ok (.iastore, 1) := dX12_mostTuple_80_k.1
theorem dX12_mostTuple_81 : decode cX12_mostTuple 81 = .ok (.iload_n 3, 1) := dX12_mostTuple_80_k.2.1
theorem dX12_mostTuple_82 : decode cX12_mostTuple 82 = .ok (.aload_n 0, 1) := dX12_mostTuple_80_k.2.2.1
theorem dX12_mostTuple_83 : decode cX12_mostTuple 83 = .ok (.getfield 24, 3) := dX12_mostTuple_80_k.2.2.2.1
theorem dX12_mostTuple_86 : decode cX12_mostTuple 86 = .ok (.iload 5, 2) := dX12_mostTuple_80_k.2.2.2.2.1
theorem dX12_mostTuple_88 : decode cX12_mostTuple 88 = .ok (.iaload, 1) := dX12_mostTuple_80_k.2.2.2.2.2.1
theorem dX12_mostTuple_89 : decode cX12_mostTuple 89 = .ok (.invokestatic 239, 3) := dX12_mostTuple_80_k.2.2.2.2.2.2.1
theorem dX12_mostTuple_92 : decode cX12_mostTuple 92 = .ok (.istore_n 3, 1) := dX12_mostTuple_80_k.2.2.2.2.2.2.2.1
theorem dX12_mostTuple_93 : decode cX12_mostTuple 93 = .ok (.iinc 4 1, 3) := dX12_mostTuple_80_k.2.2.2.2.2.2.2.2.1
theorem dX12_mostTuple_96 : decode cX12_mostTuple 96 = .ok (.goto (-69), 3) := dX12_mostTuple_80_k.2.2.2.2.2.2.2.2.2.1
theorem dX12_mostTuple_99 : decode cX12_mostTuple 99 = .ok (.iload_n 3, 1) := dX12_mostTuple_80_k.2.2.2.2.2.2.2.2.2.2.1
theorem dX12_mostTuple_100 : decode cX12_mostTuple 100 = .ok (.ireturn, 1) := dX12_mostTuple_80_k.2.2.2.2.2.2.2.2.2.2.2
theorem dX12_isTuple_0_k : decode cX12_isTuple 0 = .ok (.aload_n 0, 1) ∧ decode cX12_isTuple 1 = .ok (.iload_n 1, 1) ∧ decode cX12_isTuple 2 = .ok (.iconst 1, 1) ∧ decode cX12_isTuple 3 = .ok (.invokevirtual 260, 3) ∧ decode cX12_isTuple 6 = .ok (.ifCond .eq 21, 3) ∧ decode cX12_isTuple 9 = .ok (.iload_n 2, 1) ∧ decode cX12_isTuple 10 = .ok (.iconst 1, 1) ∧ decode cX12_isTuple 11 = .ok (.bipush 8, 2) ∧ decode cX12_isTuple 13 = .ok (.iload_n 1, 1) ∧ decode cX12_isTuple 14 = .ok (.invokestatic 150, 3) ∧ decode cX12_isTuple 17 = .ok (.invokestatic 59, 3) ∧ decode cX12_isTuple 20 = .ok (.ifCond .eq 7, 3) ∧ decode cX12_isTuple 23 = .ok (.iconst 1, 1) ∧ decode cX12_isTuple 24 = .ok (.goto 4, 3) ∧ decode cX12_isTuple 27 = .ok (.iconst 0, 1) ∧ decode cX12_isTuple 28 = .ok (.ireturn, 1) := by decide +kernel
theorem dX12_isTuple_0 : decode cX12_isTuple 0 = .ok (.aload_n 0, 1) := dX12_isTuple_0_k.1
theorem dX12_isTuple_1 : decode cX12_isTuple 1 = .ok (.iload_n 1, 1) := dX12_isTuple_0_k.2.1
theorem dX12_isTuple_2 : decode cX12_isTuple 2 = .ok (.iconst 1, 1) := dX12_isTuple_0_k.2.2.1
theorem dX12_isTuple_3 : decode cX12_isTuple 3 = .ok (.invokevirtual 260, 3) := dX12_isTuple_0_k.2.2.2.1
theorem dX12_isTuple_6 : decode cX12_isTuple 6 = .ok (.ifCond .eq 21, 3) := dX12_isTuple_0_k.2.2.2.2.1
theorem dX12_isTuple_9 : decode cX12_isTuple 9 = .ok (.iload_n 2, 1) := dX12_isTuple_0_k.2.2.2.2.2.1
theorem dX12_isTuple_10 : decode cX12_isTuple 10 = .ok (.iconst 1, 1) := dX12_isTuple_0_k.2.2.2.2.2.2.1
theorem dX12_isTuple_11 : decode cX12_isTuple 11 = .ok (.bipush 8, 2) := dX12_isTuple_0_k.2.2.2.2.2.2.2.1
theorem dX12_isTuple_13 : decode cX12_isTuple 13 = .ok (.iload_n 1, 1) := dX12_isTuple_0_k.2.2.2.2.2.2.2.2.1
theorem dX12_isTuple_14 : decode cX12_isTuple 14 = .ok (.invokestatic 150, 3) := dX12_isTuple_0_k.2.2.2.2.2.2.2.2.2.1
theorem dX12_isTuple_17 : decode cX12_isTuple 17 = .ok (.invokestatic 59, 3) := dX12_isTuple_0_k.2.2.2.2.2.2.2.2.2.2.1
theorem dX12_isTuple_20 : decode cX12_isTuple 20 = .ok (.ifCond .eq 7, 3) := dX12_isTuple_0_k.2.2.2.2.2.2.2.2.2.2.2.1
theorem dX12_isTuple_23 : decode cX12_isTuple 23 = .ok (.iconst 1, 1) := dX12_isTuple_0_k.2.2.2.2.2.2.2.2.2.2.2.2.1
theorem dX12_isTuple_24 : decode cX12_isTuple 24 = .ok (.goto 4, 3) := dX12_isTuple_0_k.2.2.2.2.2.2.2.2.2.2.2.2.2.1
theorem dX12_isTuple_27 : decode cX12_isTuple 27 = .ok (.iconst 0, 1) := dX12_isTuple_0_k.2.2.2.2.2.2.2.2.2.2.2.2.2.2.1
theorem dX12_isTuple_28 : decode cX12_isTuple 28 = .ok (.ireturn, 1) := dX12_isTuple_0_k.2.2.2.2.2.2.2.2.2.2.2.2.2.2.2
theorem dX12_tuple_0_k : decode cX12_tuple 0 = .ok (.aload_n 0, 1) ∧ decode cX12_tuple 1 = .ok (.iconst 0, 1) ∧ decode cX12_tuple 2 = .ok (.putfield 33, 3) ∧ decode cX12_tuple 5 = .ok (.aload_n 0, 1) ∧ decode cX12_tuple 6 = .ok (.iload_n 1, 1) ∧ decode cX12_tuple 7 = .ok (.iload_n 2, 1) ∧ decode cX12_tuple 8 = .ok (.invokevirtual 273, 3) ∧ decode cX12_tuple 11 = .ok (.ifCond .eq 12, 3) ∧ decode cX12_tuple 14 = .ok (.aload_n 0, 1) ∧ decode cX12_tuple 15 = .ok (.iload_n 1, 1) ∧ decode cX12_tuple 16 = .ok (.iload_n 2, 1) ∧ decode cX12_tuple 17 = .ok (.invokevirtual 276, 3) ∧ decode cX12_tuple 20 = .ok (.goto 4, 3) ∧ decode cX12_tuple 23 = .ok (.iconst (-1), 1) ∧ decode cX12_tuple 24 = .ok (.ireturn, 1) := by decide +kernel
theorem dX12_tuple_0 : decode cX12_tuple 0 = .ok (.aload_n 0, 1) := dX12_tuple_0_k.1
theorem dX12_tuple_1 : decode cX12_tuple 1 = .ok (.iconst 0, 1) := dX12_tuple_0_k.2.1
theorem dX12_tuple_2 : decode cX12_tuple 2 = .ok (.putfield 33, 3) := dX12_tuple_0_k.2.2.1
theorem dX12_tuple_5 : decode cX12_tuple 5 = .ok (.aload_n 0, 1) := dX12_tuple_0_k.2.2.2.1
theorem dX12_tuple_6 : decode cX12_tuple 6 = .ok (.iload_n 1, 1) := dX12_tuple_0_k.2.2.2.2.1
theorem dX12_tuple_7 : decode cX12_tuple 7 = .ok (.iload_n 2, 1) := dX12_tuple_0_k.2.2.2.2.2.1
theorem dX12_tuple_8 : decode cX12_tuple 8 = .ok (.invokevirtual 273, 3) := dX12_tuple_0_k.2.2.2.2.2.2.1
theorem dX12_tuple_11 : decode cX12_tuple 11 = .ok (.ifCond .eq 12, 3) := dX12_tuple_0_k.2.2.2.2.2.2.2.1
theorem dX12_tuple_14 : decode cX12_tuple 14 = .ok (.aload_n 0, 1) := dX12_tuple_0_k.2.2.2.2.2.2.2.2.1
theorem dX12_tuple_15 : decode cX12_tuple 15 = .ok (.iload_n 1, 1) := dX12_tuple_0_k.2.2.2.2.2.2.2.2.2.1
theorem dX12_tuple_16 : decode cX12_tuple 16 = .ok (.iload_n 2, 1) := dX12_tuple_0_k.2.2.2.2.2.2.2.2.2.2.1
theorem dX12_tuple_17 : decode cX12_tuple 17 = .ok (.invokevirtual 276, 3) := dX12_tuple_0_k.2.2.2.2.2.2.2.2.2.2.2.1
theorem dX12_tuple_20 : decode cX12_tuple 20 = .ok (.goto 4, 3) := dX12_tuple_0_k.2.2.2.2.2.2.2.2.2.2.2.2.1
theorem dX12_tuple_23 : decode cX12_tuple 23 = .ok (.iconst (-1), 1) := dX12_tuple_0_k.2.2.2.2.2.2.2.2.2.2.2.2.2.1
theorem dX12_tuple_24 : decode cX12_tuple 24 = .ok (.ireturn, 1) := dX12_tuple_0_k.2.2.2.2.2.2.2.2.2.2.2.2.2.2
theorem dX12_spreads_0_k : decode cX12_spreads 0 = .ok (.aload_n 0, 1) ∧ decode cX12_spreads 1 = .ok (.iconst 0, 1) ∧ decode cX12_spreads 2 = .ok (.putfield 33, 3) ∧ decode cX12_spreads 5 = .ok (.aload_n 0, 1) ∧ decode cX12_spreads 6 = .ok (.iload_n 1, 1) ∧ decode cX12_spreads 7 = .ok (.iload_n 2, 1) ∧ decode cX12_spreads 8 = .ok (.invokevirtual 273, 3) ∧ decode cX12_spreads 11 = .ok (.ifCond .eq 42, 3) ∧ decode cX12_spreads 14 = .ok (.aload_n 0, 1) ∧ decode cX12_spreads 15 = .ok (.iload_n 1, 1) ∧ decode cX12_spreads 16 = .ok (.iload_n 2, 1) ∧ decode cX12_spreads 17 = .ok (.invokevirtual 276, 3) ∧ decode cX12_spreads 20 = .ok (.i2l, 1) ∧ decode cX12_spreads 21 = .ok (.bipush 16, 2) ∧ decode cX12_spreads 23 = .ok (.iload_n 2, 1) ∧ decode cX12_spreads 24 = .ok (.invokestatic 130, 3) := by decide +kernel
theorem dX12_spreads_0 : decode cX12_spreads 0 = .ok (.aload_n 0, 1) := dX12_spreads_0_k.1
theorem dX12_spreads_1 : decode cX12_spreads 1 = .ok (.iconst 0, 1) := dX12_spreads_0_k.2.1
theorem dX12_spreads_2 : decode cX12_spreads 2 = .ok (.putfield 33, 3) := dX12_spreads_0_k.2.2.1
theorem dX12_spreads_5 : decode cX12_spreads 5 = .ok (.aload_n 0, 1) := dX12_spreads_0_k.2.2.2.1
theorem dX12_spreads_6 : decode cX12_spreads 6 = .ok (.iload_n 1, 1) := dX12_spreads_0_k.2.2.2.2.1
theorem dX12_spreads_7 : decode cX12_spreads 7 = .ok (.iload_n 2, 1) := dX12_spreads_0_k.2.2.2.2.2.1
theorem dX12_spreads_8 : decode cX12_spreads 8 = .ok (.invokevirtual 273, 3) := dX12_spreads_0_k.2.2.2.2.2.2.1
theorem dX12_spreads_11 : decode cX12_spreads 11 = .ok (.ifCond .eq 42, 3) := dX12_spreads_0_k.2.2.2.2.2.2.2.1
theorem dX12_spreads_14 : decode cX12_spreads 14 = .ok (.aload_n 0, 1) := dX12_spreads_0_k.2.2.2.2.2.2.2.2.1
theorem dX12_spreads_15 : decode cX12_spreads 15 = .ok (.iload_n 1, 1) := dX12_spreads_0_k.2.2.2.2.2.2.2.2.2.1
theorem dX12_spreads_16 : decode cX12_spreads 16 = .ok (.iload_n 2, 1) := dX12_spreads_0_k.2.2.2.2.2.2.2.2.2.2.1
theorem dX12_spreads_17 : decode cX12_spreads 17 = .ok (.invokevirtual 276, 3) := dX12_spreads_0_k.2.2.2.2.2.2.2.2.2.2.2.1
theorem dX12_spreads_20 : decode cX12_spreads 20 = .ok (.i2l, 1) := dX12_spreads_0_k.2.2.2.2.2.2.2.2.2.2.2.2.1
theorem dX12_spreads_21 : decode cX12_spreads 21 = .ok (.bipush 16, 2) := dX12_spreads_0_k.2.2.2.2.2.2.2.2.2.2.2.2.2.1
theorem dX12_spreads_23 : decode cX12_spreads 23 = .ok (.iload_n 2, 1) := dX12_spreads_0_k.2.2.2.2.2.2.2.2.2.2.2.2.2.2.1
theorem dX12_spreads_24 : decode cX12_spreads 24 = .ok (.invokestatic 130, 3) := dX12_spreads_0_k.2.2.2.2.2.2.2.2.2.2.2.2.2.2.2
theorem dX12_spreads_27_k : decode cX12_spreads 27 = .ok (.lmul, 1) ∧ decode cX12_spreads 28 = .ok (.iload_n 1, 1) ∧ decode cX12_spreads 29 = .ok (.iload_n 2, 1) ∧ decode cX12_spreads 30 = .ok (.isub, 1) ∧ decode cX12_spreads 31 = .ok (.iconst 1, 1) ∧ decode cX12_spreads 32 = .ok (.iadd, 1) ∧ decode cX12_spreads 33 = .ok (.i2l, 1) ∧ decode cX12_spreads 34 = .ok (.aload_n 0, 1) ∧ decode cX12_spreads 35 = .ok (.getfield 7, 3) ∧ decode cX12_spreads 38 = .ok (.iconst 0, 1) ∧ decode cX12_spreads 39 = .ok (.iaload, 1) ∧ decode cX12_spreads 40 = .ok (.iload_n 2, 1) ∧ decode cX12_spreads 41 = .ok (.invokestatic 130, 3) ∧ decode cX12_spreads 44 = .ok (.lmul, 1) ∧ decode cX12_spreads 45 = .ok (.lcmp, 1) ∧ decode cX12_spreads 46 = .ok (.ifCond .gt 7, 3) := by decide +kernel
theorem dX12_spreads_27 : decode cX12_spreads 27 = .ok (.lmul, 1) := dX12_spreads_27_k.1
theorem dX12_spreads_28 : decode cX12_spreads 28 = .ok (.iload_n 1, 1) := dX12_spreads_27_k.2.1
theorem dX12_spreads_29 : decode cX12_spreads 29 = .ok (.iload_n 2, 1) := dX12_spreads_27_k.2.2.1
theorem dX12_spreads_30 : decode cX12_spreads 30 = .ok (.isub, 1) := dX12_spreads_27_k.2.2.2.1
theorem dX12_spreads_31 : decode cX12_spreads 31 = .ok (.iconst 1, 1) := dX12_spreads_27_k.2.2.2.2.1
theorem dX12_spreads_32 : decode cX12_spreads 32 = .ok (.iadd, 1) := dX12_spreads_27_k.2.2.2.2.2.1
theorem dX12_spreads_33 : decode cX12_spreads 33 = .ok (.i2l, 1) := dX12_spreads_27_k.2.2.2.2.2.2.1
theorem dX12_spreads_34 : decode cX12_spreads 34 = .ok (.aload_n 0, 1) := dX12_spreads_27_k.2.2.2.2.2.2.2.1
theorem dX12_spreads_35 : decode cX12_spreads 35 = .ok (.getfield 7, 3) := dX12_spreads_27_k.2.2.2.2.2.2.2.2.1
theorem dX12_spreads_38 : decode cX12_spreads 38 = .ok (.iconst 0, 1) := dX12_spreads_27_k.2.2.2.2.2.2.2.2.2.1
theorem dX12_spreads_39 : decode cX12_spreads 39 = .ok (.iaload, 1) := dX12_spreads_27_k.2.2.2.2.2.2.2.2.2.2.1
theorem dX12_spreads_40 : decode cX12_spreads 40 = .ok (.iload_n 2, 1) := dX12_spreads_27_k.2.2.2.2.2.2.2.2.2.2.2.1
theorem dX12_spreads_41 : decode cX12_spreads 41 = .ok (.invokestatic 130, 3) := dX12_spreads_27_k.2.2.2.2.2.2.2.2.2.2.2.2.1
theorem dX12_spreads_44 : decode cX12_spreads 44 = .ok (.lmul, 1) := dX12_spreads_27_k.2.2.2.2.2.2.2.2.2.2.2.2.2.1
theorem dX12_spreads_45 : decode cX12_spreads 45 = .ok (.lcmp, 1) := dX12_spreads_27_k.2.2.2.2.2.2.2.2.2.2.2.2.2.2.1
theorem dX12_spreads_46 : decode cX12_spreads 46 = .ok (.ifCond .gt 7, 3) := dX12_spreads_27_k.2.2.2.2.2.2.2.2.2.2.2.2.2.2.2
theorem dX12_spreads_49_k : decode cX12_spreads 49 = .ok (.iconst 1, 1) ∧ decode cX12_spreads 50 = .ok (.goto 4, 3) ∧ decode cX12_spreads 53 = .ok (.iconst 0, 1) ∧ decode cX12_spreads 54 = .ok (.ireturn, 1) := by decide +kernel
theorem dX12_spreads_49 : decode cX12_spreads 49 = .ok (.iconst 1, 1) := dX12_spreads_49_k.1
theorem dX12_spreads_50 : decode cX12_spreads 50 = .ok (.goto 4, 3) := dX12_spreads_49_k.2.1
theorem dX12_spreads_53 : decode cX12_spreads 53 = .ok (.iconst 0, 1) := dX12_spreads_49_k.2.2.1
theorem dX12_spreads_54 : decode cX12_spreads 54 = .ok (.ireturn, 1) := dX12_spreads_49_k.2.2.2
theorem dX12_lagged_0_k : decode cX12_lagged 0 = .ok (.iconst 0, 1) ∧ decode cX12_lagged 1 = .ok (.istore_n 3, 1) ∧ decode cX12_lagged 2 = .ok (.iload_n 2, 1) ∧ decode cX12_lagged 3 = .ok (.istore 4, 2) ∧ decode cX12_lagged 5 = .ok (.iload 4, 2) ∧ decode cX12_lagged 7 = .ok (.iload_n 1, 1) ∧ decode cX12_lagged 8 = .ok (.if_icmp .ge 36, 3) ∧ decode cX12_lagged 11 = .ok (.iload_n 3, 1) ∧ decode cX12_lagged 12 = .ok (.aload_n 0, 1) ∧ decode cX12_lagged 13 = .ok (.iload_n 1, 1) ∧ decode cX12_lagged 14 = .ok (.iload 4, 2) ∧ decode cX12_lagged 16 = .ok (.invokevirtual 236, 3) ∧ decode cX12_lagged 19 = .ok (.aload_n 0, 1) ∧ decode cX12_lagged 20 = .ok (.iload_n 1, 1) ∧ decode cX12_lagged 21 = .ok (.iload 4, 2) ∧ decode cX12_lagged 23 = .ok (.iload_n 2, 1) := by decide +kernel
theorem dX12_lagged_0 : decode cX12_lagged 0 = .ok (.iconst 0, 1) := dX12_lagged_0_k.1
theorem dX12_lagged_1 : decode cX12_lagged 1 = .ok (.istore_n 3, 1) := dX12_lagged_0_k.2.1
theorem dX12_lagged_2 : decode cX12_lagged 2 = .ok (.iload_n 2, 1) := dX12_lagged_0_k.2.2.1
theorem dX12_lagged_3 : decode cX12_lagged 3 = .ok (.istore 4, 2) := dX12_lagged_0_k.2.2.2.1
theorem dX12_lagged_5 : decode cX12_lagged 5 = .ok (.iload 4, 2) := dX12_lagged_0_k.2.2.2.2.1
theorem dX12_lagged_7 : decode cX12_lagged 7 = .ok (.iload_n 1, 1) := dX12_lagged_0_k.2.2.2.2.2.1
theorem dX12_lagged_8 : decode cX12_lagged 8 = .ok (.if_icmp .ge 36, 3) := dX12_lagged_0_k.2.2.2.2.2.2.1
theorem dX12_lagged_11 : decode cX12_lagged 11 = .ok (.iload_n 3, 1) := dX12_lagged_0_k.2.2.2.2.2.2.2.1
theorem dX12_lagged_12 : decode cX12_lagged 12 = .ok (.aload_n 0, 1) := dX12_lagged_0_k.2.2.2.2.2.2.2.2.1
theorem dX12_lagged_13 : decode cX12_lagged 13 = .ok (.iload_n 1, 1) := dX12_lagged_0_k.2.2.2.2.2.2.2.2.2.1
theorem dX12_lagged_14 : decode cX12_lagged 14 = .ok (.iload 4, 2) := dX12_lagged_0_k.2.2.2.2.2.2.2.2.2.2.1
theorem dX12_lagged_16 : decode cX12_lagged 16 = .ok (.invokevirtual 236, 3) := dX12_lagged_0_k.2.2.2.2.2.2.2.2.2.2.2.1
theorem dX12_lagged_19 : decode cX12_lagged 19 = .ok (.aload_n 0, 1) := dX12_lagged_0_k.2.2.2.2.2.2.2.2.2.2.2.2.1
theorem dX12_lagged_20 : decode cX12_lagged 20 = .ok (.iload_n 1, 1) := dX12_lagged_0_k.2.2.2.2.2.2.2.2.2.2.2.2.2.1
theorem dX12_lagged_21 : decode cX12_lagged 21 = .ok (.iload 4, 2) := dX12_lagged_0_k.2.2.2.2.2.2.2.2.2.2.2.2.2.2.1
theorem dX12_lagged_23 : decode cX12_lagged 23 = .ok (.iload_n 2, 1) := dX12_lagged_0_k.2.2.2.2.2.2.2.2.2.2.2.2.2.2.2
theorem dX12_lagged_24_k : decode cX12_lagged 24 = .ok (.isub, 1) ∧ decode cX12_lagged 25 = .ok (.invokevirtual 236, 3) ∧ decode cX12_lagged 28 = .ok (.if_icmp .ne 7, 3) ∧ decode cX12_lagged 31 = .ok (.iconst 1, 1) ∧ decode cX12_lagged 32 = .ok (.goto 4, 3) ∧ decode cX12_lagged 35 = .ok (.iconst 0, 1) ∧ decode cX12_lagged 36 = .ok (.iadd, 1) ∧ decode cX12_lagged 37 = .ok (.istore_n 3, 1) ∧ decode cX12_lagged 38 = .ok (.iinc 4 1, 3) ∧ decode cX12_lagged 41 = .ok (.goto (-36), 3) ∧ decode cX12_lagged 44 = .ok (.iload_n 3, 1) ∧ decode cX12_lagged 45 = .ok (.ireturn, 1) := by decide +kernel
theorem dX12_lagged_24 : decode cX12_lagged 24 = .ok (.isub, 1) := dX12_lagged_24_k.1
theorem dX12_lagged_25 : decode cX12_lagged 25 = .ok (.invokevirtual 236, 3) := dX12_lagged_24_k.2.1
theorem dX12_lagged_28 : decode cX12_lagged 28 = .ok (.if_icmp .ne 7, 3) := dX12_lagged_24_k.2.2.1
theorem dX12_lagged_31 : decode cX12_lagged 31 = .ok (.iconst 1, 1) := dX12_lagged_24_k.2.2.2.1
theorem dX12_lagged_32 : decode cX12_lagged 32 = .ok (.goto 4, 3) := dX12_lagged_24_k.2.2.2.2.1
theorem dX12_lagged_35 : decode cX12_lagged 35 = .ok (.iconst 0, 1) := dX12_lagged_24_k.2.2.2.2.2.1
theorem dX12_lagged_36 : decode cX12_lagged 36 = .ok (.iadd, 1) := dX12_lagged_24_k.2.2.2.2.2.2.1
theorem dX12_lagged_37 : decode cX12_lagged 37 = .ok (.istore_n 3, 1) := dX12_lagged_24_k.2.2.2.2.2.2.2.1
theorem dX12_lagged_38 : decode cX12_lagged 38 = .ok (.iinc 4 1, 3) := dX12_lagged_24_k.2.2.2.2.2.2.2.2.1
theorem dX12_lagged_41 : decode cX12_lagged 41 = .ok (.goto (-36), 3) := dX12_lagged_24_k.2.2.2.2.2.2.2.2.2.1
theorem dX12_lagged_44 : decode cX12_lagged 44 = .ok (.iload_n 3, 1) := dX12_lagged_24_k.2.2.2.2.2.2.2.2.2.2.1
theorem dX12_lagged_45 : decode cX12_lagged 45 = .ok (.ireturn, 1) := dX12_lagged_24_k.2.2.2.2.2.2.2.2.2.2.2
theorem dX12_lag_0_k : decode cX12_lag 0 = .ok (.aload_n 0, 1) ∧ decode cX12_lag 1 = .ok (.iconst 0, 1) ∧ decode cX12_lag 2 = .ok (.putfield 33, 3) ∧ decode cX12_lag 5 = .ok (.aload_n 0, 1) ∧ decode cX12_lag 6 = .ok (.iload_n 1, 1) ∧ decode cX12_lag 7 = .ok (.iconst 1, 1) ∧ decode cX12_lag 8 = .ok (.invokevirtual 260, 3) ∧ decode cX12_lag 11 = .ok (.ifCond .eq 28, 3) ∧ decode cX12_lag 14 = .ok (.iload_n 2, 1) ∧ decode cX12_lag 15 = .ok (.iconst 1, 1) ∧ decode cX12_lag 16 = .ok (.bipush 32, 2) ∧ decode cX12_lag 18 = .ok (.iload_n 1, 1) ∧ decode cX12_lag 19 = .ok (.iconst 1, 1) ∧ decode cX12_lag 20 = .ok (.isub, 1) ∧ decode cX12_lag 21 = .ok (.invokestatic 150, 3) ∧ decode cX12_lag 24 = .ok (.invokestatic 59, 3) := by decide +kernel
theorem dX12_lag_0 : decode cX12_lag 0 = .ok (.aload_n 0, 1) := dX12_lag_0_k.1
theorem dX12_lag_1 : decode cX12_lag 1 = .ok (.iconst 0, 1) := dX12_lag_0_k.2.1
theorem dX12_lag_2 : decode cX12_lag 2 = .ok (.putfield 33, 3) := dX12_lag_0_k.2.2.1
theorem dX12_lag_5 : decode cX12_lag 5 = .ok (.aload_n 0, 1) := dX12_lag_0_k.2.2.2.1
theorem dX12_lag_6 : decode cX12_lag 6 = .ok (.iload_n 1, 1) := dX12_lag_0_k.2.2.2.2.1
theorem dX12_lag_7 : decode cX12_lag 7 = .ok (.iconst 1, 1) := dX12_lag_0_k.2.2.2.2.2.1
theorem dX12_lag_8 : decode cX12_lag 8 = .ok (.invokevirtual 260, 3) := dX12_lag_0_k.2.2.2.2.2.2.1
theorem dX12_lag_11 : decode cX12_lag 11 = .ok (.ifCond .eq 28, 3) := dX12_lag_0_k.2.2.2.2.2.2.2.1
theorem dX12_lag_14 : decode cX12_lag 14 = .ok (.iload_n 2, 1) := dX12_lag_0_k.2.2.2.2.2.2.2.2.1
theorem dX12_lag_15 : decode cX12_lag 15 = .ok (.iconst 1, 1) := dX12_lag_0_k.2.2.2.2.2.2.2.2.2.1
theorem dX12_lag_16 : decode cX12_lag 16 = .ok (.bipush 32, 2) := dX12_lag_0_k.2.2.2.2.2.2.2.2.2.2.1
theorem dX12_lag_18 : decode cX12_lag 18 = .ok (.iload_n 1, 1) := dX12_lag_0_k.2.2.2.2.2.2.2.2.2.2.2.1
theorem dX12_lag_19 : decode cX12_lag 19 = .ok (.iconst 1, 1) := dX12_lag_0_k.2.2.2.2.2.2.2.2.2.2.2.2.1
theorem dX12_lag_20 : decode cX12_lag 20 = .ok (.isub, 1) := dX12_lag_0_k.2.2.2.2.2.2.2.2.2.2.2.2.2.1
theorem dX12_lag_21 : decode cX12_lag 21 = .ok (.invokestatic 150, 3) := dX12_lag_0_k.2.2.2.2.2.2.2.2.2.2.2.2.2.2.1
theorem dX12_lag_24 : decode cX12_lag 24 = .ok (.invokestatic 59, 3) := dX12_lag_0_k.2.2.2.2.2.2.2.2.2.2.2.2.2.2.2
theorem dX12_lag_27_k : decode cX12_lag 27 = .ok (.ifCond .eq 12, 3) ∧ decode cX12_lag 30 = .ok (.aload_n 0, 1) ∧ decode cX12_lag 31 = .ok (.iload_n 1, 1) ∧ decode cX12_lag 32 = .ok (.iload_n 2, 1) ∧ decode cX12_lag 33 = .ok (.invokevirtual 279, 3) ∧ decode cX12_lag 36 = .ok (.goto 4, 3) ∧ decode cX12_lag 39 = .ok (.iconst (-1), 1) ∧ decode cX12_lag 40 = .ok (.ireturn, 1) := by decide +kernel
theorem dX12_lag_27 : decode cX12_lag 27 = .ok (.ifCond .eq 12, 3) := dX12_lag_27_k.1
theorem dX12_lag_30 : decode cX12_lag 30 = .ok (.aload_n 0, 1) := dX12_lag_27_k.2.1
theorem dX12_lag_31 : decode cX12_lag 31 = .ok (.iload_n 1, 1) := dX12_lag_27_k.2.2.1
theorem dX12_lag_32 : decode cX12_lag 32 = .ok (.iload_n 2, 1) := dX12_lag_27_k.2.2.2.1
theorem dX12_lag_33 : decode cX12_lag 33 = .ok (.invokevirtual 279, 3) := dX12_lag_27_k.2.2.2.2.1
theorem dX12_lag_36 : decode cX12_lag 36 = .ok (.goto 4, 3) := dX12_lag_27_k.2.2.2.2.2.1
theorem dX12_lag_39 : decode cX12_lag 39 = .ok (.iconst (-1), 1) := dX12_lag_27_k.2.2.2.2.2.2.1
theorem dX12_lag_40 : decode cX12_lag 40 = .ok (.ireturn, 1) := dX12_lag_27_k.2.2.2.2.2.2.2
theorem dX12_echo_0_k : decode cX12_echo 0 = .ok (.aload_n 0, 1) ∧ decode cX12_echo 1 = .ok (.iconst 0, 1) ∧ decode cX12_echo 2 = .ok (.putfield 33, 3) ∧ decode cX12_echo 5 = .ok (.aload_n 0, 1) ∧ decode cX12_echo 6 = .ok (.iload_n 1, 1) ∧ decode cX12_echo 7 = .ok (.iconst 2, 1) ∧ decode cX12_echo 8 = .ok (.invokevirtual 260, 3) ∧ decode cX12_echo 11 = .ok (.ifCond .ne 5, 3) ∧ decode cX12_echo 14 = .ok (.iconst (-1), 1) ∧ decode cX12_echo 15 = .ok (.ireturn, 1) ∧ decode cX12_echo 16 = .ok (.iconst 1, 1) ∧ decode cX12_echo 17 = .ok (.istore_n 2, 1) ∧ decode cX12_echo 18 = .ok (.iconst 2, 1) ∧ decode cX12_echo 19 = .ok (.istore_n 3, 1) ∧ decode cX12_echo 20 = .ok (.iload_n 3, 1) ∧ decode cX12_echo 21 = .ok (.bipush 32, 2) := by decide +kernel
theorem dX12_echo_0 : decode cX12_echo 0 = .ok (.aload_n 0, 1) := dX12_echo_0_k.1
theorem dX12_echo_1 : decode cX12_echo 1 = .ok (.iconst 0, 1) := dX12_echo_0_k.2.1
theorem dX12_echo_2 : decode cX12_echo 2 = .ok (.putfield 33, 3) := dX12_echo_0_k.2.2.1
theorem dX12_echo_5 : decode cX12_echo 5 = .ok (.aload_n 0, 1) := dX12_echo_0_k.2.2.2.1
theorem dX12_echo_6 : decode cX12_echo 6 = .ok (.iload_n 1, 1) := dX12_echo_0_k.2.2.2.2.1
theorem dX12_echo_7 : decode cX12_echo 7 = .ok (.iconst 2, 1) := dX12_echo_0_k.2.2.2.2.2.1
theorem dX12_echo_8 : decode cX12_echo 8 = .ok (.invokevirtual 260, 3) := dX12_echo_0_k.2.2.2.2.2.2.1
theorem dX12_echo_11 : decode cX12_echo 11 = .ok (.ifCond .ne 5, 3) := dX12_echo_0_k.2.2.2.2.2.2.2.1
theorem dX12_echo_14 : decode cX12_echo 14 = .ok (.iconst (-1), 1) := dX12_echo_0_k.2.2.2.2.2.2.2.2.1
theorem dX12_echo_15 : decode cX12_echo 15 = .ok (.ireturn, 1) := dX12_echo_0_k.2.2.2.2.2.2.2.2.2.1
theorem dX12_echo_16 : decode cX12_echo 16 = .ok (.iconst 1, 1) := dX12_echo_0_k.2.2.2.2.2.2.2.2.2.2.1
theorem dX12_echo_17 : decode cX12_echo 17 = .ok (.istore_n 2, 1) := dX12_echo_0_k.2.2.2.2.2.2.2.2.2.2.2.1
theorem dX12_echo_18 : decode cX12_echo 18 = .ok (.iconst 2, 1) := dX12_echo_0_k.2.2.2.2.2.2.2.2.2.2.2.2.1
theorem dX12_echo_19 : decode cX12_echo 19 = .ok (.istore_n 3, 1) := dX12_echo_0_k.2.2.2.2.2.2.2.2.2.2.2.2.2.1
theorem dX12_echo_20 : decode cX12_echo 20 = .ok (.iload_n 3, 1) := dX12_echo_0_k.2.2.2.2.2.2.2.2.2.2.2.2.2.2.1
theorem dX12_echo_21 : decode cX12_echo 21 = .ok (.bipush 32, 2) := dX12_echo_0_k.2.2.2.2.2.2.2.2.2.2.2.2.2.2.2
theorem dX12_echo_23_k : decode cX12_echo 23 = .ok (.if_icmp .gt 43, 3) ∧ decode cX12_echo 26 = .ok (.iload_n 3, 1) ∧ decode cX12_echo 27 = .ok (.iload_n 1, 1) ∧ decode cX12_echo 28 = .ok (.if_icmp .ge 38, 3) ∧ decode cX12_echo 31 = .ok (.aload_n 0, 1) ∧ decode cX12_echo 32 = .ok (.iload_n 1, 1) ∧ decode cX12_echo 33 = .ok (.iload_n 3, 1) ∧ decode cX12_echo 34 = .ok (.invokevirtual 279, 3) ∧ decode cX12_echo 37 = .ok (.iload_n 1, 1) ∧ decode cX12_echo 38 = .ok (.iload_n 2, 1) ∧ decode cX12_echo 39 = .ok (.isub, 1) ∧ decode cX12_echo 40 = .ok (.imul, 1) ∧ decode cX12_echo 41 = .ok (.aload_n 0, 1) ∧ decode cX12_echo 42 = .ok (.iload_n 1, 1) ∧ decode cX12_echo 43 = .ok (.iload_n 2, 1) ∧ decode cX12_echo 44 = .ok (.invokevirtual 279, 3) := by decide +kernel
theorem dX12_echo_23 : decode cX12_echo 23 = .ok (.if_icmp .gt 43, 3) := dX12_echo_23_k.1
theorem dX12_echo_26 : decode cX12_echo 26 = .ok (.iload_n 3, 1) := dX12_echo_23_k.2.1
theorem dX12_echo_27 : decode cX12_echo 27 = .ok (.iload_n 1, 1) := dX12_echo_23_k.2.2.1
theorem dX12_echo_28 : decode cX12_echo 28 = .ok (.if_icmp .ge 38, 3) := dX12_echo_23_k.2.2.2.1
theorem dX12_echo_31 : decode cX12_echo 31 = .ok (.aload_n 0, 1) := dX12_echo_23_k.2.2.2.2.1
theorem dX12_echo_32 : decode cX12_echo 32 = .ok (.iload_n 1, 1) := dX12_echo_23_k.2.2.2.2.2.1
theorem dX12_echo_33 : decode cX12_echo 33 = .ok (.iload_n 3, 1) := dX12_echo_23_k.2.2.2.2.2.2.1
theorem dX12_echo_34 : decode cX12_echo 34 = .ok (.invokevirtual 279, 3) := dX12_echo_23_k.2.2.2.2.2.2.2.1
theorem dX12_echo_37 : decode cX12_echo 37 = .ok (.iload_n 1, 1) := dX12_echo_23_k.2.2.2.2.2.2.2.2.1
theorem dX12_echo_38 : decode cX12_echo 38 = .ok (.iload_n 2, 1) := dX12_echo_23_k.2.2.2.2.2.2.2.2.2.1
theorem dX12_echo_39 : decode cX12_echo 39 = .ok (.isub, 1) := dX12_echo_23_k.2.2.2.2.2.2.2.2.2.2.1
theorem dX12_echo_40 : decode cX12_echo 40 = .ok (.imul, 1) := dX12_echo_23_k.2.2.2.2.2.2.2.2.2.2.2.1
theorem dX12_echo_41 : decode cX12_echo 41 = .ok (.aload_n 0, 1) := dX12_echo_23_k.2.2.2.2.2.2.2.2.2.2.2.2.1
theorem dX12_echo_42 : decode cX12_echo 42 = .ok (.iload_n 1, 1) := dX12_echo_23_k.2.2.2.2.2.2.2.2.2.2.2.2.2.1
theorem dX12_echo_43 : decode cX12_echo 43 = .ok (.iload_n 2, 1) := dX12_echo_23_k.2.2.2.2.2.2.2.2.2.2.2.2.2.2.1
theorem dX12_echo_44 : decode cX12_echo 44 = .ok (.invokevirtual 279, 3) := dX12_echo_23_k.2.2.2.2.2.2.2.2.2.2.2.2.2.2.2
theorem dX12_echo_47_k : decode cX12_echo 47 = .ok (.iload_n 1, 1) ∧ decode cX12_echo 48 = .ok (.iload_n 3, 1) ∧ decode cX12_echo 49 = .ok (.isub, 1) ∧ decode cX12_echo 50 = .ok (.imul, 1) ∧ decode cX12_echo 51 = .ok (.if_icmp .le 7, 3) ∧ decode cX12_echo 54 = .ok (.iload_n 3, 1) ∧ decode cX12_echo 55 = .ok (.goto 4, 3) ∧ decode cX12_echo 58 = .ok (.iload_n 2, 1) ∧ decode cX12_echo 59 = .ok (.istore_n 2, 1) ∧ decode cX12_echo 60 = .ok (.iinc 3 1, 3) ∧ decode cX12_echo 63 = .ok (.goto (-43), 3) ∧ decode cX12_echo 66 = .ok (.iload_n 2, 1) ∧ decode cX12_echo 67 = .ok (.ireturn, 1) := by decide +kernel
theorem dX12_echo_47 : decode cX12_echo 47 = .ok (.iload_n 1, 1) := dX12_echo_47_k.1
theorem dX12_echo_48 : decode cX12_echo 48 = .ok (.iload_n 3, 1) := dX12_echo_47_k.2.1
theorem dX12_echo_49 : decode cX12_echo 49 = .ok (.isub, 1) := dX12_echo_47_k.2.2.1
theorem dX12_echo_50 : decode cX12_echo 50 = .ok (.imul, 1) := dX12_echo_47_k.2.2.2.1
theorem dX12_echo_51 : decode cX12_echo 51 = .ok (.if_icmp .le 7, 3) := dX12_echo_47_k.2.2.2.2.1
theorem dX12_echo_54 : decode cX12_echo 54 = .ok (.iload_n 3, 1) := dX12_echo_47_k.2.2.2.2.2.1
theorem dX12_echo_55 : decode cX12_echo 55 = .ok (.goto 4, 3) := dX12_echo_47_k.2.2.2.2.2.2.1
theorem dX12_echo_58 : decode cX12_echo 58 = .ok (.iload_n 2, 1) := dX12_echo_47_k.2.2.2.2.2.2.2.1
theorem dX12_echo_59 : decode cX12_echo 59 = .ok (.istore_n 2, 1) := dX12_echo_47_k.2.2.2.2.2.2.2.2.1
theorem dX12_echo_60 : decode cX12_echo 60 = .ok (.iinc 3 1, 3) := dX12_echo_47_k.2.2.2.2.2.2.2.2.2.1
theorem dX12_echo_63 : decode cX12_echo 63 = .ok (.goto (-43), 3) := dX12_echo_47_k.2.2.2.2.2.2.2.2.2.2.1
theorem dX12_echo_66 : decode cX12_echo 66 = .ok (.iload_n 2, 1) := dX12_echo_47_k.2.2.2.2.2.2.2.2.2.2.2.1
theorem dX12_echo_67 : decode cX12_echo 67 = .ok (.ireturn, 1) := dX12_echo_47_k.2.2.2.2.2.2.2.2.2.2.2.2
theorem dX12_isWhole_0_k : decode cX12_isWhole 0 = .ok (.aload_n 0, 1) ∧ decode cX12_isWhole 1 = .ok (.iload_n 1, 1) ∧ decode cX12_isWhole 2 = .ok (.iconst 0, 1) ∧ decode cX12_isWhole 3 = .ok (.invokevirtual 233, 3) ∧ decode cX12_isWhole 6 = .ok (.bipush 15, 2) ∧ decode cX12_isWhole 8 = .ok (.if_icmp .ne 7, 3) ∧ decode cX12_isWhole 11 = .ok (.iconst 1, 1) ∧ decode cX12_isWhole 12 = .ok (.goto 4, 3) ∧ decode cX12_isWhole 15 = .ok (.iconst 0, 1) ∧ decode cX12_isWhole 16 = .ok (.ireturn, 1) := by decide +kernel
theorem dX12_isWhole_0 : decode cX12_isWhole 0 = .ok (.aload_n 0, 1) := dX12_isWhole_0_k.1
theorem dX12_isWhole_1 : decode cX12_isWhole 1 = .ok (.iload_n 1, 1) := dX12_isWhole_0_k.2.1
theorem dX12_isWhole_2 : decode cX12_isWhole 2 = .ok (.iconst 0, 1) := dX12_isWhole_0_k.2.2.1
theorem dX12_isWhole_3 : decode cX12_isWhole 3 = .ok (.invokevirtual 233, 3) := dX12_isWhole_0_k.2.2.2.1
theorem dX12_isWhole_6 : decode cX12_isWhole 6 = .ok (.bipush 15, 2) := dX12_isWhole_0_k.2.2.2.2.1
theorem dX12_isWhole_8 : decode cX12_isWhole 8 = .ok (.if_icmp .ne 7, 3) := dX12_isWhole_0_k.2.2.2.2.2.1
theorem dX12_isWhole_11 : decode cX12_isWhole 11 = .ok (.iconst 1, 1) := dX12_isWhole_0_k.2.2.2.2.2.2.1
theorem dX12_isWhole_12 : decode cX12_isWhole 12 = .ok (.goto 4, 3) := dX12_isWhole_0_k.2.2.2.2.2.2.2.1
theorem dX12_isWhole_15 : decode cX12_isWhole 15 = .ok (.iconst 0, 1) := dX12_isWhole_0_k.2.2.2.2.2.2.2.2.1
theorem dX12_isWhole_16 : decode cX12_isWhole 16 = .ok (.ireturn, 1) := dX12_isWhole_0_k.2.2.2.2.2.2.2.2.2
theorem dX12_wholeRows_0_k : decode cX12_wholeRows 0 = .ok (.iconst 0, 1) ∧ decode cX12_wholeRows 1 = .ok (.istore_n 1, 1) ∧ decode cX12_wholeRows 2 = .ok (.iconst 0, 1) ∧ decode cX12_wholeRows 3 = .ok (.istore_n 2, 1) ∧ decode cX12_wholeRows 4 = .ok (.iload_n 2, 1) ∧ decode cX12_wholeRows 5 = .ok (.aload_n 0, 1) ∧ decode cX12_wholeRows 6 = .ok (.getfield 7, 3) ∧ decode cX12_wholeRows 9 = .ok (.sipush 701, 3) ∧ decode cX12_wholeRows 12 = .ok (.iaload, 1) ∧ decode cX12_wholeRows 13 = .ok (.if_icmp .ge 25, 3) ∧ decode cX12_wholeRows 16 = .ok (.iload_n 1, 1) ∧ decode cX12_wholeRows 17 = .ok (.aload_n 0, 1) ∧ decode cX12_wholeRows 18 = .ok (.iload_n 2, 1) ∧ decode cX12_wholeRows 19 = .ok (.invokevirtual 282, 3) ∧ decode cX12_wholeRows 22 = .ok (.ifCond .eq 7, 3) ∧ decode cX12_wholeRows 25 = .ok (.iconst 1, 1) := by decide +kernel
theorem dX12_wholeRows_0 : decode cX12_wholeRows 0 = .ok (.iconst 0, 1) := dX12_wholeRows_0_k.1
theorem dX12_wholeRows_1 : decode cX12_wholeRows 1 = .ok (.istore_n 1, 1) := dX12_wholeRows_0_k.2.1
theorem dX12_wholeRows_2 : decode cX12_wholeRows 2 = .ok (.iconst 0, 1) := dX12_wholeRows_0_k.2.2.1
theorem dX12_wholeRows_3 : decode cX12_wholeRows 3 = .ok (.istore_n 2, 1) := dX12_wholeRows_0_k.2.2.2.1
theorem dX12_wholeRows_4 : decode cX12_wholeRows 4 = .ok (.iload_n 2, 1) := dX12_wholeRows_0_k.2.2.2.2.1
theorem dX12_wholeRows_5 : decode cX12_wholeRows 5 = .ok (.aload_n 0, 1) := dX12_wholeRows_0_k.2.2.2.2.2.1
theorem dX12_wholeRows_6 : decode cX12_wholeRows 6 = .ok (.getfield 7, 3) := dX12_wholeRows_0_k.2.2.2.2.2.2.1
theorem dX12_wholeRows_9 : decode cX12_wholeRows 9 = .ok (.sipush 701, 3) := dX12_wholeRows_0_k.2.2.2.2.2.2.2.1
theorem dX12_wholeRows_12 : decode cX12_wholeRows 12 = .ok (.iaload, 1) := dX12_wholeRows_0_k.2.2.2.2.2.2.2.2.1
theorem dX12_wholeRows_13 : decode cX12_wholeRows 13 = .ok (.if_icmp .ge 25, 3) := dX12_wholeRows_0_k.2.2.2.2.2.2.2.2.2.1
theorem dX12_wholeRows_16 : decode cX12_wholeRows 16 = .ok (.iload_n 1, 1) := dX12_wholeRows_0_k.2.2.2.2.2.2.2.2.2.2.1
theorem dX12_wholeRows_17 : decode cX12_wholeRows 17 = .ok (.aload_n 0, 1) := dX12_wholeRows_0_k.2.2.2.2.2.2.2.2.2.2.2.1
theorem dX12_wholeRows_18 : decode cX12_wholeRows 18 = .ok (.iload_n 2, 1) := dX12_wholeRows_0_k.2.2.2.2.2.2.2.2.2.2.2.2.1
theorem dX12_wholeRows_19 : decode cX12_wholeRows 19 = .ok (.invokevirtual 282, 3) := dX12_wholeRows_0_k.2.2.2.2.2.2.2.2.2.2.2.2.2.1
theorem dX12_wholeRows_22 : decode cX12_wholeRows 22 = .ok (.ifCond .eq 7, 3) := dX12_wholeRows_0_k.2.2.2.2.2.2.2.2.2.2.2.2.2.2.1
theorem dX12_wholeRows_25 : decode cX12_wholeRows 25 = .ok (.iconst 1, 1) := dX12_wholeRows_0_k.2.2.2.2.2.2.2.2.2.2.2.2.2.2.2
theorem dX12_wholeRows_26_k : decode cX12_wholeRows 26 = .ok (.goto 4, 3) ∧ decode cX12_wholeRows 29 = .ok (.iconst 0, 1) ∧ decode cX12_wholeRows 30 = .ok (.iadd, 1) ∧ decode cX12_wholeRows 31 = .ok (.istore_n 1, 1) ∧ decode cX12_wholeRows 32 = .ok (.iinc 2 1, 3) ∧ decode cX12_wholeRows 35 = .ok (.goto (-31), 3) ∧ decode cX12_wholeRows 38 = .ok (.iload_n 1, 1) ∧ decode cX12_wholeRows 39 = .ok (.ireturn, 1) := by decide +kernel
theorem dX12_wholeRows_26 : decode cX12_wholeRows 26 = .ok (.goto 4, 3) := dX12_wholeRows_26_k.1
theorem dX12_wholeRows_29 : decode cX12_wholeRows 29 = .ok (.iconst 0, 1) := dX12_wholeRows_26_k.2.1
theorem dX12_wholeRows_30 : decode cX12_wholeRows 30 = .ok (.iadd, 1) := dX12_wholeRows_26_k.2.2.1
theorem dX12_wholeRows_31 : decode cX12_wholeRows 31 = .ok (.istore_n 1, 1) := dX12_wholeRows_26_k.2.2.2.1
theorem dX12_wholeRows_32 : decode cX12_wholeRows 32 = .ok (.iinc 2 1, 3) := dX12_wholeRows_26_k.2.2.2.2.1
theorem dX12_wholeRows_35 : decode cX12_wholeRows 35 = .ok (.goto (-31), 3) := dX12_wholeRows_26_k.2.2.2.2.2.1
theorem dX12_wholeRows_38 : decode cX12_wholeRows 38 = .ok (.iload_n 1, 1) := dX12_wholeRows_26_k.2.2.2.2.2.2.1
theorem dX12_wholeRows_39 : decode cX12_wholeRows 39 = .ok (.ireturn, 1) := dX12_wholeRows_26_k.2.2.2.2.2.2.2
theorem dX12_ofRow_0_k : decode cX12_ofRow 0 = .ok (.iconst 0, 1) ∧ decode cX12_ofRow 1 = .ok (.istore_n 2, 1) ∧ decode cX12_ofRow 2 = .ok (.iconst 0, 1) ∧ decode cX12_ofRow 3 = .ok (.istore_n 3, 1) ∧ decode cX12_ofRow 4 = .ok (.iload_n 3, 1) ∧ decode cX12_ofRow 5 = .ok (.bipush 15, 2) ∧ decode cX12_ofRow 7 = .ok (.if_icmp .ge 20, 3) ∧ decode cX12_ofRow 10 = .ok (.iload_n 2, 1) ∧ decode cX12_ofRow 11 = .ok (.aload_n 0, 1) ∧ decode cX12_ofRow 12 = .ok (.iload_n 1, 1) ∧ decode cX12_ofRow 13 = .ok (.iconst 1, 1) ∧ decode cX12_ofRow 14 = .ok (.iload_n 3, 1) ∧ decode cX12_ofRow 15 = .ok (.iadd, 1) ∧ decode cX12_ofRow 16 = .ok (.invokevirtual 233, 3) ∧ decode cX12_ofRow 19 = .ok (.iadd, 1) ∧ decode cX12_ofRow 20 = .ok (.istore_n 2, 1) := by decide +kernel
theorem dX12_ofRow_0 : decode cX12_ofRow 0 = .ok (.iconst 0, 1) := dX12_ofRow_0_k.1
theorem dX12_ofRow_1 : decode cX12_ofRow 1 = .ok (.istore_n 2, 1) := dX12_ofRow_0_k.2.1
theorem dX12_ofRow_2 : decode cX12_ofRow 2 = .ok (.iconst 0, 1) := dX12_ofRow_0_k.2.2.1
theorem dX12_ofRow_3 : decode cX12_ofRow 3 = .ok (.istore_n 3, 1) := dX12_ofRow_0_k.2.2.2.1
theorem dX12_ofRow_4 : decode cX12_ofRow 4 = .ok (.iload_n 3, 1) := dX12_ofRow_0_k.2.2.2.2.1
theorem dX12_ofRow_5 : decode cX12_ofRow 5 = .ok (.bipush 15, 2) := dX12_ofRow_0_k.2.2.2.2.2.1
theorem dX12_ofRow_7 : decode cX12_ofRow 7 = .ok (.if_icmp .ge 20, 3) := dX12_ofRow_0_k.2.2.2.2.2.2.1
theorem dX12_ofRow_10 : decode cX12_ofRow 10 = .ok (.iload_n 2, 1) := dX12_ofRow_0_k.2.2.2.2.2.2.2.1
theorem dX12_ofRow_11 : decode cX12_ofRow 11 = .ok (.aload_n 0, 1) := dX12_ofRow_0_k.2.2.2.2.2.2.2.2.1
theorem dX12_ofRow_12 : decode cX12_ofRow 12 = .ok (.iload_n 1, 1) := dX12_ofRow_0_k.2.2.2.2.2.2.2.2.2.1
theorem dX12_ofRow_13 : decode cX12_ofRow 13 = .ok (.iconst 1, 1) := dX12_ofRow_0_k.2.2.2.2.2.2.2.2.2.2.1
theorem dX12_ofRow_14 : decode cX12_ofRow 14 = .ok (.iload_n 3, 1) := dX12_ofRow_0_k.2.2.2.2.2.2.2.2.2.2.2.1
theorem dX12_ofRow_15 : decode cX12_ofRow 15 = .ok (.iadd, 1) := dX12_ofRow_0_k.2.2.2.2.2.2.2.2.2.2.2.2.1
theorem dX12_ofRow_16 : decode cX12_ofRow 16 = .ok (.invokevirtual 233, 3) := dX12_ofRow_0_k.2.2.2.2.2.2.2.2.2.2.2.2.2.1
theorem dX12_ofRow_19 : decode cX12_ofRow 19 = .ok (.iadd, 1) := dX12_ofRow_0_k.2.2.2.2.2.2.2.2.2.2.2.2.2.2.1
theorem dX12_ofRow_20 : decode cX12_ofRow 20 = .ok (.istore_n 2, 1) := dX12_ofRow_0_k.2.2.2.2.2.2.2.2.2.2.2.2.2.2.2
theorem dX12_ofRow_21_k : decode cX12_ofRow 21 = .ok (.iinc 3 1, 3) ∧ decode cX12_ofRow 24 = .ok (.goto (-20), 3) ∧ decode cX12_ofRow 27 = .ok (.iload_n 2, 1) ∧ decode cX12_ofRow 28 = .ok (.bipush 15, 2) ∧ decode cX12_ofRow 30 = .ok (.iload_n 2, 1) ∧ decode cX12_ofRow 31 = .ok (.isub, 1) ∧ decode cX12_ofRow 32 = .ok (.invokestatic 239, 3) ∧ decode cX12_ofRow 35 = .ok (.ireturn, 1) := by decide +kernel
theorem dX12_ofRow_21 : decode cX12_ofRow 21 = .ok (.iinc 3 1, 3) := dX12_ofRow_21_k.1
theorem dX12_ofRow_24 : decode cX12_ofRow 24 = .ok (.goto (-20), 3) := dX12_ofRow_21_k.2.1
theorem dX12_ofRow_27 : decode cX12_ofRow 27 = .ok (.iload_n 2, 1) := dX12_ofRow_21_k.2.2.1
theorem dX12_ofRow_28 : decode cX12_ofRow 28 = .ok (.bipush 15, 2) := dX12_ofRow_21_k.2.2.2.1
theorem dX12_ofRow_30 : decode cX12_ofRow 30 = .ok (.iload_n 2, 1) := dX12_ofRow_21_k.2.2.2.2.1
theorem dX12_ofRow_31 : decode cX12_ofRow 31 = .ok (.isub, 1) := dX12_ofRow_21_k.2.2.2.2.2.1
theorem dX12_ofRow_32 : decode cX12_ofRow 32 = .ok (.invokestatic 239, 3) := dX12_ofRow_21_k.2.2.2.2.2.2.1
theorem dX12_ofRow_35 : decode cX12_ofRow 35 = .ok (.ireturn, 1) := dX12_ofRow_21_k.2.2.2.2.2.2.2
theorem dX12_ofColumn_0_k : decode cX12_ofColumn 0 = .ok (.iconst 0, 1) ∧ decode cX12_ofColumn 1 = .ok (.istore_n 3, 1) ∧ decode cX12_ofColumn 2 = .ok (.iconst 0, 1) ∧ decode cX12_ofColumn 3 = .ok (.istore 4, 2) ∧ decode cX12_ofColumn 5 = .ok (.iload 4, 2) ∧ decode cX12_ofColumn 7 = .ok (.aload_n 0, 1) ∧ decode cX12_ofColumn 8 = .ok (.getfield 7, 3) ∧ decode cX12_ofColumn 11 = .ok (.sipush 701, 3) ∧ decode cX12_ofColumn 14 = .ok (.iaload, 1) ∧ decode cX12_ofColumn 15 = .ok (.if_icmp .ge 34, 3) ∧ decode cX12_ofColumn 18 = .ok (.iload_n 3, 1) ∧ decode cX12_ofColumn 19 = .ok (.aload_n 0, 1) ∧ decode cX12_ofColumn 20 = .ok (.iload 4, 2) ∧ decode cX12_ofColumn 22 = .ok (.invokevirtual 282, 3) ∧ decode cX12_ofColumn 25 = .ok (.ifCond .eq 15, 3) ∧ decode cX12_ofColumn 28 = .ok (.aload_n 0, 1) := by decide +kernel
theorem dX12_ofColumn_0 : decode cX12_ofColumn 0 = .ok (.iconst 0, 1) := dX12_ofColumn_0_k.1
theorem dX12_ofColumn_1 : decode cX12_ofColumn 1 = .ok (.istore_n 3, 1) := dX12_ofColumn_0_k.2.1
theorem dX12_ofColumn_2 : decode cX12_ofColumn 2 = .ok (.iconst 0, 1) := dX12_ofColumn_0_k.2.2.1
theorem dX12_ofColumn_3 : decode cX12_ofColumn 3 = .ok (.istore 4, 2) := dX12_ofColumn_0_k.2.2.2.1
theorem dX12_ofColumn_5 : decode cX12_ofColumn 5 = .ok (.iload 4, 2) := dX12_ofColumn_0_k.2.2.2.2.1
theorem dX12_ofColumn_7 : decode cX12_ofColumn 7 = .ok (.aload_n 0, 1) := dX12_ofColumn_0_k.2.2.2.2.2.1
theorem dX12_ofColumn_8 : decode cX12_ofColumn 8 = .ok (.getfield 7, 3) := dX12_ofColumn_0_k.2.2.2.2.2.2.1
theorem dX12_ofColumn_11 : decode cX12_ofColumn 11 = .ok (.sipush 701, 3) := dX12_ofColumn_0_k.2.2.2.2.2.2.2.1
theorem dX12_ofColumn_14 : decode cX12_ofColumn 14 = .ok (.iaload, 1) := dX12_ofColumn_0_k.2.2.2.2.2.2.2.2.1
theorem dX12_ofColumn_15 : decode cX12_ofColumn 15 = .ok (.if_icmp .ge 34, 3) := dX12_ofColumn_0_k.2.2.2.2.2.2.2.2.2.1
theorem dX12_ofColumn_18 : decode cX12_ofColumn 18 = .ok (.iload_n 3, 1) := dX12_ofColumn_0_k.2.2.2.2.2.2.2.2.2.2.1
theorem dX12_ofColumn_19 : decode cX12_ofColumn 19 = .ok (.aload_n 0, 1) := dX12_ofColumn_0_k.2.2.2.2.2.2.2.2.2.2.2.1
theorem dX12_ofColumn_20 : decode cX12_ofColumn 20 = .ok (.iload 4, 2) := dX12_ofColumn_0_k.2.2.2.2.2.2.2.2.2.2.2.2.1
theorem dX12_ofColumn_22 : decode cX12_ofColumn 22 = .ok (.invokevirtual 282, 3) := dX12_ofColumn_0_k.2.2.2.2.2.2.2.2.2.2.2.2.2.1
theorem dX12_ofColumn_25 : decode cX12_ofColumn 25 = .ok (.ifCond .eq 15, 3) := dX12_ofColumn_0_k.2.2.2.2.2.2.2.2.2.2.2.2.2.2.1
theorem dX12_ofColumn_28 : decode cX12_ofColumn 28 = .ok (.aload_n 0, 1) := dX12_ofColumn_0_k.2.2.2.2.2.2.2.2.2.2.2.2.2.2.2
theorem dX12_ofColumn_29_k : decode cX12_ofColumn 29 = .ok (.iload 4, 2) ∧ decode cX12_ofColumn 31 = .ok (.iconst 1, 1) ∧ decode cX12_ofColumn 32 = .ok (.iload_n 1, 1) ∧ decode cX12_ofColumn 33 = .ok (.iadd, 1) ∧ decode cX12_ofColumn 34 = .ok (.invokevirtual 233, 3) ∧ decode cX12_ofColumn 37 = .ok (.goto 4, 3) ∧ decode cX12_ofColumn 40 = .ok (.iconst 0, 1) ∧ decode cX12_ofColumn 41 = .ok (.iadd, 1) ∧ decode cX12_ofColumn 42 = .ok (.istore_n 3, 1) ∧ decode cX12_ofColumn 43 = .ok (.iinc 4 1, 3) ∧ decode cX12_ofColumn 46 = .ok (.goto (-41), 3) ∧ decode cX12_ofColumn 49 = .ok (.iload_n 3, 1) ∧ decode cX12_ofColumn 50 = .ok (.iload_n 2, 1) ∧ decode cX12_ofColumn 51 = .ok (.iload_n 3, 1) ∧ decode cX12_ofColumn 52 = .ok (.isub, 1) ∧ decode cX12_ofColumn 53 = .ok (.invokestatic 239, 3) := by decide +kernel
theorem dX12_ofColumn_29 : decode cX12_ofColumn 29 = .ok (.iload 4, 2) := dX12_ofColumn_29_k.1
theorem dX12_ofColumn_31 : decode cX12_ofColumn 31 = .ok (.iconst 1, 1) := dX12_ofColumn_29_k.2.1
theorem dX12_ofColumn_32 : decode cX12_ofColumn 32 = .ok (.iload_n 1, 1) := dX12_ofColumn_29_k.2.2.1
theorem dX12_ofColumn_33 : decode cX12_ofColumn 33 = .ok (.iadd, 1) := dX12_ofColumn_29_k.2.2.2.1
theorem dX12_ofColumn_34 : decode cX12_ofColumn 34 = .ok (.invokevirtual 233, 3) := dX12_ofColumn_29_k.2.2.2.2.1
theorem dX12_ofColumn_37 : decode cX12_ofColumn 37 = .ok (.goto 4, 3) := dX12_ofColumn_29_k.2.2.2.2.2.1
theorem dX12_ofColumn_40 : decode cX12_ofColumn 40 = .ok (.iconst 0, 1) := dX12_ofColumn_29_k.2.2.2.2.2.2.1
theorem dX12_ofColumn_41 : decode cX12_ofColumn 41 = .ok (.iadd, 1) := dX12_ofColumn_29_k.2.2.2.2.2.2.2.1
theorem dX12_ofColumn_42 : decode cX12_ofColumn 42 = .ok (.istore_n 3, 1) := dX12_ofColumn_29_k.2.2.2.2.2.2.2.2.1
theorem dX12_ofColumn_43 : decode cX12_ofColumn 43 = .ok (.iinc 4 1, 3) := dX12_ofColumn_29_k.2.2.2.2.2.2.2.2.2.1
theorem dX12_ofColumn_46 : decode cX12_ofColumn 46 = .ok (.goto (-41), 3) := dX12_ofColumn_29_k.2.2.2.2.2.2.2.2.2.2.1
theorem dX12_ofColumn_49 : decode cX12_ofColumn 49 = .ok (.iload_n 3, 1) := dX12_ofColumn_29_k.2.2.2.2.2.2.2.2.2.2.2.1
theorem dX12_ofColumn_50 : decode cX12_ofColumn 50 = .ok (.iload_n 2, 1) := dX12_ofColumn_29_k.2.2.2.2.2.2.2.2.2.2.2.2.1
theorem dX12_ofColumn_51 : decode cX12_ofColumn 51 = .ok (.iload_n 3, 1) := dX12_ofColumn_29_k.2.2.2.2.2.2.2.2.2.2.2.2.2.1
theorem dX12_ofColumn_52 : decode cX12_ofColumn 52 = .ok (.isub, 1) := dX12_ofColumn_29_k.2.2.2.2.2.2.2.2.2.2.2.2.2.2.1
theorem dX12_ofColumn_53 : decode cX12_ofColumn 53 = .ok (.invokestatic 239, 3) := dX12_ofColumn_29_k.2.2.2.2.2.2.2.2.2.2.2.2.2.2.2
theorem dX12_ofColumn_56 : decode cX12_ofColumn 56 = .ok (.ireturn, 1) := by decide +kernel
theorem dX12_compared_0_k : decode cX12_compared 0 = .ok (.aload_n 0, 1) ∧ decode cX12_compared 1 = .ok (.iconst 0, 1) ∧ decode cX12_compared 2 = .ok (.putfield 33, 3) ∧ decode cX12_compared 5 = .ok (.iload_n 1, 1) ∧ decode cX12_compared 6 = .ok (.iconst 0, 1) ∧ decode cX12_compared 7 = .ok (.iconst 4, 1) ∧ decode cX12_compared 8 = .ok (.invokestatic 59, 3) ∧ decode cX12_compared 11 = .ok (.ifCond .ne 5, 3) ∧ decode cX12_compared 14 = .ok (.iconst (-1), 1) ∧ decode cX12_compared 15 = .ok (.ireturn, 1) ∧ decode cX12_compared 16 = .ok (.aload_n 0, 1) ∧ decode cX12_compared 17 = .ok (.invokevirtual 285, 3) ∧ decode cX12_compared 20 = .ok (.istore_n 2, 1) ∧ decode cX12_compared 21 = .ok (.iconst 0, 1) ∧ decode cX12_compared 22 = .ok (.istore_n 3, 1) ∧ decode cX12_compared 23 = .ok (.iconst 0, 1) := by decide +kernel
theorem dX12_compared_0 : decode cX12_compared 0 = .ok (.aload_n 0, 1) := dX12_compared_0_k.1
theorem dX12_compared_1 : decode cX12_compared 1 = .ok (.iconst 0, 1) := dX12_compared_0_k.2.1
theorem dX12_compared_2 : decode cX12_compared 2 = .ok (.putfield 33, 3) := dX12_compared_0_k.2.2.1
theorem dX12_compared_5 : decode cX12_compared 5 = .ok (.iload_n 1, 1) := dX12_compared_0_k.2.2.2.1
theorem dX12_compared_6 : decode cX12_compared 6 = .ok (.iconst 0, 1) := dX12_compared_0_k.2.2.2.2.1
theorem dX12_compared_7 : decode cX12_compared 7 = .ok (.iconst 4, 1) := dX12_compared_0_k.2.2.2.2.2.1
theorem dX12_compared_8 : decode cX12_compared 8 = .ok (.invokestatic 59, 3) := dX12_compared_0_k.2.2.2.2.2.2.1
theorem dX12_compared_11 : decode cX12_compared 11 = .ok (.ifCond .ne 5, 3) := dX12_compared_0_k.2.2.2.2.2.2.2.1
theorem dX12_compared_14 : decode cX12_compared 14 = .ok (.iconst (-1), 1) := dX12_compared_0_k.2.2.2.2.2.2.2.2.1
theorem dX12_compared_15 : decode cX12_compared 15 = .ok (.ireturn, 1) := dX12_compared_0_k.2.2.2.2.2.2.2.2.2.1
theorem dX12_compared_16 : decode cX12_compared 16 = .ok (.aload_n 0, 1) := dX12_compared_0_k.2.2.2.2.2.2.2.2.2.2.1
theorem dX12_compared_17 : decode cX12_compared 17 = .ok (.invokevirtual 285, 3) := dX12_compared_0_k.2.2.2.2.2.2.2.2.2.2.2.1
theorem dX12_compared_20 : decode cX12_compared 20 = .ok (.istore_n 2, 1) := dX12_compared_0_k.2.2.2.2.2.2.2.2.2.2.2.2.1
theorem dX12_compared_21 : decode cX12_compared 21 = .ok (.iconst 0, 1) := dX12_compared_0_k.2.2.2.2.2.2.2.2.2.2.2.2.2.1
theorem dX12_compared_22 : decode cX12_compared 22 = .ok (.istore_n 3, 1) := dX12_compared_0_k.2.2.2.2.2.2.2.2.2.2.2.2.2.2.1
theorem dX12_compared_23 : decode cX12_compared 23 = .ok (.iconst 0, 1) := dX12_compared_0_k.2.2.2.2.2.2.2.2.2.2.2.2.2.2.2
theorem dX12_compared_24_k : decode cX12_compared 24 = .ok (.istore 4, 2) ∧ decode cX12_compared 26 = .ok (.aload_n 0, 1) ∧ decode cX12_compared 27 = .ok (.bipush 15, 2) ∧ decode cX12_compared 29 = .ok (.invokevirtual 166, 3) ∧ decode cX12_compared 32 = .ok (.istore 5, 2) ∧ decode cX12_compared 34 = .ok (.iconst 0, 1) ∧ decode cX12_compared 35 = .ok (.istore 6, 2) ∧ decode cX12_compared 37 = .ok (.iload 6, 2) ∧ decode cX12_compared 39 = .ok (.aload_n 0, 1) ∧ decode cX12_compared 40 = .ok (.getfield 7, 3) ∧ decode cX12_compared 43 = .ok (.sipush 701, 3) ∧ decode cX12_compared 46 = .ok (.iaload, 1) ∧ decode cX12_compared 47 = .ok (.if_icmp .ge 67, 3) ∧ decode cX12_compared 50 = .ok (.iload_n 1, 1) ∧ decode cX12_compared 51 = .ok (.iconst 1, 1) ∧ decode cX12_compared 52 = .ok (.if_icmp .eq 8, 3) := by decide +kernel
theorem dX12_compared_24 : decode cX12_compared 24 = .ok (.istore 4, 2) := dX12_compared_24_k.1
theorem dX12_compared_26 : decode cX12_compared 26 = .ok (.aload_n 0, 1) := dX12_compared_24_k.2.1
theorem dX12_compared_27 : decode cX12_compared 27 = .ok (.bipush 15, 2) := dX12_compared_24_k.2.2.1
theorem dX12_compared_29 : decode cX12_compared 29 = .ok (.invokevirtual 166, 3) := dX12_compared_24_k.2.2.2.1
theorem dX12_compared_32 : decode cX12_compared 32 = .ok (.istore 5, 2) := dX12_compared_24_k.2.2.2.2.1
theorem dX12_compared_34 : decode cX12_compared 34 = .ok (.iconst 0, 1) := dX12_compared_24_k.2.2.2.2.2.1
theorem dX12_compared_35 : decode cX12_compared 35 = .ok (.istore 6, 2) := dX12_compared_24_k.2.2.2.2.2.2.1
theorem dX12_compared_37 : decode cX12_compared 37 = .ok (.iload 6, 2) := dX12_compared_24_k.2.2.2.2.2.2.2.1
theorem dX12_compared_39 : decode cX12_compared 39 = .ok (.aload_n 0, 1) := dX12_compared_24_k.2.2.2.2.2.2.2.2.1
theorem dX12_compared_40 : decode cX12_compared 40 = .ok (.getfield 7, 3) := dX12_compared_24_k.2.2.2.2.2.2.2.2.2.1
theorem dX12_compared_43 : decode cX12_compared 43 = .ok (.sipush 701, 3) := dX12_compared_24_k.2.2.2.2.2.2.2.2.2.2.1
theorem dX12_compared_46 : decode cX12_compared 46 = .ok (.iaload, 1) := dX12_compared_24_k.2.2.2.2.2.2.2.2.2.2.2.1
theorem dX12_compared_47 : decode cX12_compared 47 = .ok (.if_icmp .ge 67, 3) := dX12_compared_24_k.2.2.2.2.2.2.2.2.2.2.2.2.1
theorem dX12_compared_50 : decode cX12_compared 50 = .ok (.iload_n 1, 1) := dX12_compared_24_k.2.2.2.2.2.2.2.2.2.2.2.2.2.1
theorem dX12_compared_51 : decode cX12_compared 51 = .ok (.iconst 1, 1) := dX12_compared_24_k.2.2.2.2.2.2.2.2.2.2.2.2.2.2.1
theorem dX12_compared_52 : decode cX12_compared 52 = .ok (.if_icmp .eq 8, 3) := dX12_compared_24_k.2.2.2.2.2.2.2.2.2.2.2.2.2.2.2
theorem dX12_compared_55_k : decode cX12_compared 55 = .ok (.iload_n 1, 1) ∧ decode cX12_compared 56 = .ok (.iconst 3, 1) ∧ decode cX12_compared 57 = .ok (.if_icmp .ne 57, 3) ∧ decode cX12_compared 60 = .ok (.aload_n 0, 1) ∧ decode cX12_compared 61 = .ok (.iload 6, 2) ∧ decode cX12_compared 63 = .ok (.invokevirtual 282, 3) ∧ decode cX12_compared 66 = .ok (.ifCond .eq 12, 3) ∧ decode cX12_compared 69 = .ok (.aload_n 0, 1) ∧ decode cX12_compared 70 = .ok (.iload 6, 2) ∧ decode cX12_compared 72 = .ok (.invokevirtual 288, 3) ∧ decode cX12_compared 75 = .ok (.goto 4, 3) ∧ decode cX12_compared 78 = .ok (.iconst 0, 1) ∧ decode cX12_compared 79 = .ok (.istore 7, 2) ∧ decode cX12_compared 81 = .ok (.iload_n 3, 1) ∧ decode cX12_compared 82 = .ok (.iload 7, 2) ∧ decode cX12_compared 84 = .ok (.invokestatic 239, 3) := by decide +kernel
theorem dX12_compared_55 : decode cX12_compared 55 = .ok (.iload_n 1, 1) := dX12_compared_55_k.1
theorem dX12_compared_56 : decode cX12_compared 56 = .ok (.iconst 3, 1) := dX12_compared_55_k.2.1
theorem dX12_compared_57 : decode cX12_compared 57 = .ok (.if_icmp .ne 57, 3) := dX12_compared_55_k.2.2.1
theorem dX12_compared_60 : decode cX12_compared 60 = .ok (.aload_n 0, 1) := dX12_compared_55_k.2.2.2.1
theorem dX12_compared_61 : decode cX12_compared 61 = .ok (.iload 6, 2) := dX12_compared_55_k.2.2.2.2.1
theorem dX12_compared_63 : decode cX12_compared 63 = .ok (.invokevirtual 282, 3) := dX12_compared_55_k.2.2.2.2.2.1
theorem dX12_compared_66 : decode cX12_compared 66 = .ok (.ifCond .eq 12, 3) := dX12_compared_55_k.2.2.2.2.2.2.1
theorem dX12_compared_69 : decode cX12_compared 69 = .ok (.aload_n 0, 1) := dX12_compared_55_k.2.2.2.2.2.2.2.1
theorem dX12_compared_70 : decode cX12_compared 70 = .ok (.iload 6, 2) := dX12_compared_55_k.2.2.2.2.2.2.2.2.1
theorem dX12_compared_72 : decode cX12_compared 72 = .ok (.invokevirtual 288, 3) := dX12_compared_55_k.2.2.2.2.2.2.2.2.2.1
theorem dX12_compared_75 : decode cX12_compared 75 = .ok (.goto 4, 3) := dX12_compared_55_k.2.2.2.2.2.2.2.2.2.2.1
theorem dX12_compared_78 : decode cX12_compared 78 = .ok (.iconst 0, 1) := dX12_compared_55_k.2.2.2.2.2.2.2.2.2.2.2.1
theorem dX12_compared_79 : decode cX12_compared 79 = .ok (.istore 7, 2) := dX12_compared_55_k.2.2.2.2.2.2.2.2.2.2.2.2.1
theorem dX12_compared_81 : decode cX12_compared 81 = .ok (.iload_n 3, 1) := dX12_compared_55_k.2.2.2.2.2.2.2.2.2.2.2.2.2.1
theorem dX12_compared_82 : decode cX12_compared 82 = .ok (.iload 7, 2) := dX12_compared_55_k.2.2.2.2.2.2.2.2.2.2.2.2.2.2.1
theorem dX12_compared_84 : decode cX12_compared 84 = .ok (.invokestatic 239, 3) := dX12_compared_55_k.2.2.2.2.2.2.2.2.2.2.2.2.2.2.2
theorem dX12_compared_87_k : decode cX12_compared 87 = .ok (.istore_n 3, 1) ∧ decode cX12_compared 88 = .ok (.iload 4, 2) ∧ decode cX12_compared 90 = .ok (.iload 7, 2) ∧ decode cX12_compared 92 = .ok (.iload 5, 2) ∧ decode cX12_compared 94 = .ok (.if_icmp .le 10, 3) ∧ decode cX12_compared 97 = .ok (.iconst 1, 1) ∧ decode cX12_compared 98 = .ok (.iload 6, 2) ∧ decode cX12_compared 100 = .ok (.ishl, 1) ∧ decode cX12_compared 101 = .ok (.goto 4, 3) ∧ decode cX12_compared 104 = .ok (.iconst 0, 1) ∧ decode cX12_compared 105 = .ok (.ior, 1) ∧ decode cX12_compared 106 = .ok (.istore 4, 2) ∧ decode cX12_compared 108 = .ok (.iinc 6 1, 3) ∧ decode cX12_compared 111 = .ok (.goto (-74), 3) ∧ decode cX12_compared 114 = .ok (.aload_n 0, 1) ∧ decode cX12_compared 115 = .ok (.iload_n 2, 1) := by decide +kernel
theorem dX12_compared_87 : decode cX12_compared 87 = .ok (.istore_n 3, 1) := dX12_compared_87_k.1
theorem dX12_compared_88 : decode cX12_compared 88 = .ok (.iload 4, 2) := dX12_compared_87_k.2.1
theorem dX12_compared_90 : decode cX12_compared 90 = .ok (.iload 7, 2) := dX12_compared_87_k.2.2.1
theorem dX12_compared_92 : decode cX12_compared 92 = .ok (.iload 5, 2) := dX12_compared_87_k.2.2.2.1
theorem dX12_compared_94 : decode cX12_compared 94 = .ok (.if_icmp .le 10, 3) := dX12_compared_87_k.2.2.2.2.1
theorem dX12_compared_97 : decode cX12_compared 97 = .ok (.iconst 1, 1) := dX12_compared_87_k.2.2.2.2.2.1
theorem dX12_compared_98 : decode cX12_compared 98 = .ok (.iload 6, 2) := dX12_compared_87_k.2.2.2.2.2.2.1
theorem dX12_compared_100 : decode cX12_compared 100 = .ok (.ishl, 1) := dX12_compared_87_k.2.2.2.2.2.2.2.1
theorem dX12_compared_101 : decode cX12_compared 101 = .ok (.goto 4, 3) := dX12_compared_87_k.2.2.2.2.2.2.2.2.1
theorem dX12_compared_104 : decode cX12_compared 104 = .ok (.iconst 0, 1) := dX12_compared_87_k.2.2.2.2.2.2.2.2.2.1
theorem dX12_compared_105 : decode cX12_compared 105 = .ok (.ior, 1) := dX12_compared_87_k.2.2.2.2.2.2.2.2.2.2.1
theorem dX12_compared_106 : decode cX12_compared 106 = .ok (.istore 4, 2) := dX12_compared_87_k.2.2.2.2.2.2.2.2.2.2.2.1
theorem dX12_compared_108 : decode cX12_compared 108 = .ok (.iinc 6 1, 3) := dX12_compared_87_k.2.2.2.2.2.2.2.2.2.2.2.2.1
theorem dX12_compared_111 : decode cX12_compared 111 = .ok (.goto (-74), 3) := dX12_compared_87_k.2.2.2.2.2.2.2.2.2.2.2.2.2.1
theorem dX12_compared_114 : decode cX12_compared 114 = .ok (.aload_n 0, 1) := dX12_compared_87_k.2.2.2.2.2.2.2.2.2.2.2.2.2.2.1
theorem dX12_compared_115 : decode cX12_compared 115 = .ok (.iload_n 2, 1) := dX12_compared_87_k.2.2.2.2.2.2.2.2.2.2.2.2.2.2.2
theorem dX12_compared_116_k : decode cX12_compared 116 = .ok (.invokevirtual 166, 3) ∧ decode cX12_compared 119 = .ok (.istore 5, 2) ∧ decode cX12_compared 121 = .ok (.iconst 0, 1) ∧ decode cX12_compared 122 = .ok (.istore 6, 2) ∧ decode cX12_compared 124 = .ok (.iload 6, 2) ∧ decode cX12_compared 126 = .ok (.bipush 15, 2) ∧ decode cX12_compared 128 = .ok (.if_icmp .ge 60, 3) ∧ decode cX12_compared 131 = .ok (.iload_n 2, 1) ∧ decode cX12_compared 132 = .ok (.iconst 1, 1) ∧ decode cX12_compared 133 = .ok (.if_icmp .le 55, 3) ∧ decode cX12_compared 136 = .ok (.iload_n 1, 1) ∧ decode cX12_compared 137 = .ok (.iconst 2, 1) ∧ decode cX12_compared 138 = .ok (.if_icmp .eq 8, 3) ∧ decode cX12_compared 141 = .ok (.iload_n 1, 1) ∧ decode cX12_compared 142 = .ok (.iconst 4, 1) ∧ decode cX12_compared 143 = .ok (.if_icmp .ne 45, 3) := by decide +kernel
theorem dX12_compared_116 : decode cX12_compared 116 = .ok (.invokevirtual 166, 3) := dX12_compared_116_k.1
theorem dX12_compared_119 : decode cX12_compared 119 = .ok (.istore 5, 2) := dX12_compared_116_k.2.1
theorem dX12_compared_121 : decode cX12_compared 121 = .ok (.iconst 0, 1) := dX12_compared_116_k.2.2.1
theorem dX12_compared_122 : decode cX12_compared 122 = .ok (.istore 6, 2) := dX12_compared_116_k.2.2.2.1
theorem dX12_compared_124 : decode cX12_compared 124 = .ok (.iload 6, 2) := dX12_compared_116_k.2.2.2.2.1
theorem dX12_compared_126 : decode cX12_compared 126 = .ok (.bipush 15, 2) := dX12_compared_116_k.2.2.2.2.2.1
theorem dX12_compared_128 : decode cX12_compared 128 = .ok (.if_icmp .ge 60, 3) := dX12_compared_116_k.2.2.2.2.2.2.1
theorem dX12_compared_131 : decode cX12_compared 131 = .ok (.iload_n 2, 1) := dX12_compared_116_k.2.2.2.2.2.2.2.1
theorem dX12_compared_132 : decode cX12_compared 132 = .ok (.iconst 1, 1) := dX12_compared_116_k.2.2.2.2.2.2.2.2.1
theorem dX12_compared_133 : decode cX12_compared 133 = .ok (.if_icmp .le 55, 3) := dX12_compared_116_k.2.2.2.2.2.2.2.2.2.1
theorem dX12_compared_136 : decode cX12_compared 136 = .ok (.iload_n 1, 1) := dX12_compared_116_k.2.2.2.2.2.2.2.2.2.2.1
theorem dX12_compared_137 : decode cX12_compared 137 = .ok (.iconst 2, 1) := dX12_compared_116_k.2.2.2.2.2.2.2.2.2.2.2.1
theorem dX12_compared_138 : decode cX12_compared 138 = .ok (.if_icmp .eq 8, 3) := dX12_compared_116_k.2.2.2.2.2.2.2.2.2.2.2.2.1
theorem dX12_compared_141 : decode cX12_compared 141 = .ok (.iload_n 1, 1) := dX12_compared_116_k.2.2.2.2.2.2.2.2.2.2.2.2.2.1
theorem dX12_compared_142 : decode cX12_compared 142 = .ok (.iconst 4, 1) := dX12_compared_116_k.2.2.2.2.2.2.2.2.2.2.2.2.2.2.1
theorem dX12_compared_143 : decode cX12_compared 143 = .ok (.if_icmp .ne 45, 3) := dX12_compared_116_k.2.2.2.2.2.2.2.2.2.2.2.2.2.2.2
theorem dX12_compared_146_k : decode cX12_compared 146 = .ok (.aload_n 0, 1) ∧ decode cX12_compared 147 = .ok (.iload 6, 2) ∧ decode cX12_compared 149 = .ok (.iload_n 2, 1) ∧ decode cX12_compared 150 = .ok (.invokevirtual 291, 3) ∧ decode cX12_compared 153 = .ok (.istore 7, 2) ∧ decode cX12_compared 155 = .ok (.iload_n 3, 1) ∧ decode cX12_compared 156 = .ok (.iload 7, 2) ∧ decode cX12_compared 158 = .ok (.invokestatic 239, 3) ∧ decode cX12_compared 161 = .ok (.istore_n 3, 1) ∧ decode cX12_compared 162 = .ok (.iload 4, 2) ∧ decode cX12_compared 164 = .ok (.iload 7, 2) ∧ decode cX12_compared 166 = .ok (.iload 5, 2) ∧ decode cX12_compared 168 = .ok (.if_icmp .le 10, 3) ∧ decode cX12_compared 171 = .ok (.iconst 1, 1) ∧ decode cX12_compared 172 = .ok (.iload 6, 2) ∧ decode cX12_compared 174 = .ok (.ishl, 1) := by decide +kernel
theorem dX12_compared_146 : decode cX12_compared 146 = .ok (.aload_n 0, 1) := dX12_compared_146_k.1
theorem dX12_compared_147 : decode cX12_compared 147 = .ok (.iload 6, 2) := dX12_compared_146_k.2.1
theorem dX12_compared_149 : decode cX12_compared 149 = .ok (.iload_n 2, 1) := dX12_compared_146_k.2.2.1
theorem dX12_compared_150 : decode cX12_compared 150 = .ok (.invokevirtual 291, 3) := dX12_compared_146_k.2.2.2.1
theorem dX12_compared_153 : decode cX12_compared 153 = .ok (.istore 7, 2) := dX12_compared_146_k.2.2.2.2.1
theorem dX12_compared_155 : decode cX12_compared 155 = .ok (.iload_n 3, 1) := dX12_compared_146_k.2.2.2.2.2.1
theorem dX12_compared_156 : decode cX12_compared 156 = .ok (.iload 7, 2) := dX12_compared_146_k.2.2.2.2.2.2.1
theorem dX12_compared_158 : decode cX12_compared 158 = .ok (.invokestatic 239, 3) := dX12_compared_146_k.2.2.2.2.2.2.2.1
theorem dX12_compared_161 : decode cX12_compared 161 = .ok (.istore_n 3, 1) := dX12_compared_146_k.2.2.2.2.2.2.2.2.1
theorem dX12_compared_162 : decode cX12_compared 162 = .ok (.iload 4, 2) := dX12_compared_146_k.2.2.2.2.2.2.2.2.2.1
theorem dX12_compared_164 : decode cX12_compared 164 = .ok (.iload 7, 2) := dX12_compared_146_k.2.2.2.2.2.2.2.2.2.2.1
theorem dX12_compared_166 : decode cX12_compared 166 = .ok (.iload 5, 2) := dX12_compared_146_k.2.2.2.2.2.2.2.2.2.2.2.1
theorem dX12_compared_168 : decode cX12_compared 168 = .ok (.if_icmp .le 10, 3) := dX12_compared_146_k.2.2.2.2.2.2.2.2.2.2.2.2.1
theorem dX12_compared_171 : decode cX12_compared 171 = .ok (.iconst 1, 1) := dX12_compared_146_k.2.2.2.2.2.2.2.2.2.2.2.2.2.1
theorem dX12_compared_172 : decode cX12_compared 172 = .ok (.iload 6, 2) := dX12_compared_146_k.2.2.2.2.2.2.2.2.2.2.2.2.2.2.1
theorem dX12_compared_174 : decode cX12_compared 174 = .ok (.ishl, 1) := dX12_compared_146_k.2.2.2.2.2.2.2.2.2.2.2.2.2.2.2
theorem dX12_compared_175_k : decode cX12_compared 175 = .ok (.goto 4, 3) ∧ decode cX12_compared 178 = .ok (.iconst 0, 1) ∧ decode cX12_compared 179 = .ok (.ior, 1) ∧ decode cX12_compared 180 = .ok (.istore 4, 2) ∧ decode cX12_compared 182 = .ok (.iinc 6 1, 3) ∧ decode cX12_compared 185 = .ok (.goto (-61), 3) ∧ decode cX12_compared 188 = .ok (.iload_n 1, 1) ∧ decode cX12_compared 189 = .ok (.ifCond .ne 7, 3) ∧ decode cX12_compared 192 = .ok (.iload_n 2, 1) ∧ decode cX12_compared 193 = .ok (.goto 14, 3) ∧ decode cX12_compared 196 = .ok (.iload_n 1, 1) ∧ decode cX12_compared 197 = .ok (.iconst 3, 1) ∧ decode cX12_compared 198 = .ok (.if_icmp .ge 7, 3) ∧ decode cX12_compared 201 = .ok (.iload_n 3, 1) ∧ decode cX12_compared 202 = .ok (.goto 5, 3) ∧ decode cX12_compared 205 = .ok (.iload 4, 2) := by decide +kernel
theorem dX12_compared_175 : decode cX12_compared 175 = .ok (.goto 4, 3) := dX12_compared_175_k.1
theorem dX12_compared_178 : decode cX12_compared 178 = .ok (.iconst 0, 1) := dX12_compared_175_k.2.1
theorem dX12_compared_179 : decode cX12_compared 179 = .ok (.ior, 1) := dX12_compared_175_k.2.2.1
theorem dX12_compared_180 : decode cX12_compared 180 = .ok (.istore 4, 2) := dX12_compared_175_k.2.2.2.1
theorem dX12_compared_182 : decode cX12_compared 182 = .ok (.iinc 6 1, 3) := dX12_compared_175_k.2.2.2.2.1
theorem dX12_compared_185 : decode cX12_compared 185 = .ok (.goto (-61), 3) := dX12_compared_175_k.2.2.2.2.2.1
theorem dX12_compared_188 : decode cX12_compared 188 = .ok (.iload_n 1, 1) := dX12_compared_175_k.2.2.2.2.2.2.1
theorem dX12_compared_189 : decode cX12_compared 189 = .ok (.ifCond .ne 7, 3) := dX12_compared_175_k.2.2.2.2.2.2.2.1
theorem dX12_compared_192 : decode cX12_compared 192 = .ok (.iload_n 2, 1) := dX12_compared_175_k.2.2.2.2.2.2.2.2.1
theorem dX12_compared_193 : decode cX12_compared 193 = .ok (.goto 14, 3) := dX12_compared_175_k.2.2.2.2.2.2.2.2.2.1
theorem dX12_compared_196 : decode cX12_compared 196 = .ok (.iload_n 1, 1) := dX12_compared_175_k.2.2.2.2.2.2.2.2.2.2.1
theorem dX12_compared_197 : decode cX12_compared 197 = .ok (.iconst 3, 1) := dX12_compared_175_k.2.2.2.2.2.2.2.2.2.2.2.1
theorem dX12_compared_198 : decode cX12_compared 198 = .ok (.if_icmp .ge 7, 3) := dX12_compared_175_k.2.2.2.2.2.2.2.2.2.2.2.2.1
theorem dX12_compared_201 : decode cX12_compared 201 = .ok (.iload_n 3, 1) := dX12_compared_175_k.2.2.2.2.2.2.2.2.2.2.2.2.2.1
theorem dX12_compared_202 : decode cX12_compared 202 = .ok (.goto 5, 3) := dX12_compared_175_k.2.2.2.2.2.2.2.2.2.2.2.2.2.2.1
theorem dX12_compared_205 : decode cX12_compared 205 = .ok (.iload 4, 2) := dX12_compared_175_k.2.2.2.2.2.2.2.2.2.2.2.2.2.2.2
theorem dX12_compared_207 : decode cX12_compared 207 = .ok (.ireturn, 1) := by decide +kernel
theorem dX12_longest_0_k : decode cX12_longest 0 = .ok (.aload_n 0, 1) ∧ decode cX12_longest 1 = .ok (.iconst 0, 1) ∧ decode cX12_longest 2 = .ok (.putfield 33, 3) ∧ decode cX12_longest 5 = .ok (.aload_n 0, 1) ∧ decode cX12_longest 6 = .ok (.iload_n 1, 1) ∧ decode cX12_longest 7 = .ok (.iconst 1, 1) ∧ decode cX12_longest 8 = .ok (.invokevirtual 260, 3) ∧ decode cX12_longest 11 = .ok (.ifCond .ne 5, 3) ∧ decode cX12_longest 14 = .ok (.iconst (-1), 1) ∧ decode cX12_longest 15 = .ok (.ireturn, 1) ∧ decode cX12_longest 16 = .ok (.iconst 0, 1) ∧ decode cX12_longest 17 = .ok (.istore_n 3, 1) ∧ decode cX12_longest 18 = .ok (.iconst 0, 1) ∧ decode cX12_longest 19 = .ok (.istore 4, 2) ∧ decode cX12_longest 21 = .ok (.iconst 0, 1) ∧ decode cX12_longest 22 = .ok (.istore 5, 2) := by decide +kernel
theorem dX12_longest_0 : decode cX12_longest 0 = .ok (.aload_n 0, 1) := dX12_longest_0_k.1
theorem dX12_longest_1 : decode cX12_longest 1 = .ok (.iconst 0, 1) := dX12_longest_0_k.2.1
theorem dX12_longest_2 : decode cX12_longest 2 = .ok (.putfield 33, 3) := dX12_longest_0_k.2.2.1
theorem dX12_longest_5 : decode cX12_longest 5 = .ok (.aload_n 0, 1) := dX12_longest_0_k.2.2.2.1
theorem dX12_longest_6 : decode cX12_longest 6 = .ok (.iload_n 1, 1) := dX12_longest_0_k.2.2.2.2.1
theorem dX12_longest_7 : decode cX12_longest 7 = .ok (.iconst 1, 1) := dX12_longest_0_k.2.2.2.2.2.1
theorem dX12_longest_8 : decode cX12_longest 8 = .ok (.invokevirtual 260, 3) := dX12_longest_0_k.2.2.2.2.2.2.1
theorem dX12_longest_11 : decode cX12_longest 11 = .ok (.ifCond .ne 5, 3) := dX12_longest_0_k.2.2.2.2.2.2.2.1
theorem dX12_longest_14 : decode cX12_longest 14 = .ok (.iconst (-1), 1) := dX12_longest_0_k.2.2.2.2.2.2.2.2.1
theorem dX12_longest_15 : decode cX12_longest 15 = .ok (.ireturn, 1) := dX12_longest_0_k.2.2.2.2.2.2.2.2.2.1
theorem dX12_longest_16 : decode cX12_longest 16 = .ok (.iconst 0, 1) := dX12_longest_0_k.2.2.2.2.2.2.2.2.2.2.1
theorem dX12_longest_17 : decode cX12_longest 17 = .ok (.istore_n 3, 1) := dX12_longest_0_k.2.2.2.2.2.2.2.2.2.2.2.1
theorem dX12_longest_18 : decode cX12_longest 18 = .ok (.iconst 0, 1) := dX12_longest_0_k.2.2.2.2.2.2.2.2.2.2.2.2.1
theorem dX12_longest_19 : decode cX12_longest 19 = .ok (.istore 4, 2) := dX12_longest_0_k.2.2.2.2.2.2.2.2.2.2.2.2.2.1
theorem dX12_longest_21 : decode cX12_longest 21 = .ok (.iconst 0, 1) := dX12_longest_0_k.2.2.2.2.2.2.2.2.2.2.2.2.2.2.1
theorem dX12_longest_22 : decode cX12_longest 22 = .ok (.istore 5, 2) := dX12_longest_0_k.2.2.2.2.2.2.2.2.2.2.2.2.2.2.2
theorem dX12_longest_24_k : decode cX12_longest 24 = .ok (.iconst 0, 1) ∧ decode cX12_longest 25 = .ok (.istore 6, 2) ∧ decode cX12_longest 27 = .ok (.iload 6, 2) ∧ decode cX12_longest 29 = .ok (.iload_n 1, 1) ∧ decode cX12_longest 30 = .ok (.if_icmp .ge 72, 3) ∧ decode cX12_longest 33 = .ok (.iload 6, 2) ∧ decode cX12_longest 35 = .ok (.ifCond .le 29, 3) ∧ decode cX12_longest 38 = .ok (.aload_n 0, 1) ∧ decode cX12_longest 39 = .ok (.iload_n 1, 1) ∧ decode cX12_longest 40 = .ok (.iload 6, 2) ∧ decode cX12_longest 42 = .ok (.invokevirtual 236, 3) ∧ decode cX12_longest 45 = .ok (.aload_n 0, 1) ∧ decode cX12_longest 46 = .ok (.iload_n 1, 1) ∧ decode cX12_longest 47 = .ok (.iload 6, 2) ∧ decode cX12_longest 49 = .ok (.iconst 1, 1) ∧ decode cX12_longest 50 = .ok (.isub, 1) := by decide +kernel
theorem dX12_longest_24 : decode cX12_longest 24 = .ok (.iconst 0, 1) := dX12_longest_24_k.1
theorem dX12_longest_25 : decode cX12_longest 25 = .ok (.istore 6, 2) := dX12_longest_24_k.2.1
theorem dX12_longest_27 : decode cX12_longest 27 = .ok (.iload 6, 2) := dX12_longest_24_k.2.2.1
theorem dX12_longest_29 : decode cX12_longest 29 = .ok (.iload_n 1, 1) := dX12_longest_24_k.2.2.2.1
theorem dX12_longest_30 : decode cX12_longest 30 = .ok (.if_icmp .ge 72, 3) := dX12_longest_24_k.2.2.2.2.1
theorem dX12_longest_33 : decode cX12_longest 33 = .ok (.iload 6, 2) := dX12_longest_24_k.2.2.2.2.2.1
theorem dX12_longest_35 : decode cX12_longest 35 = .ok (.ifCond .le 29, 3) := dX12_longest_24_k.2.2.2.2.2.2.1
theorem dX12_longest_38 : decode cX12_longest 38 = .ok (.aload_n 0, 1) := dX12_longest_24_k.2.2.2.2.2.2.2.1
theorem dX12_longest_39 : decode cX12_longest 39 = .ok (.iload_n 1, 1) := dX12_longest_24_k.2.2.2.2.2.2.2.2.1
theorem dX12_longest_40 : decode cX12_longest 40 = .ok (.iload 6, 2) := dX12_longest_24_k.2.2.2.2.2.2.2.2.2.1
theorem dX12_longest_42 : decode cX12_longest 42 = .ok (.invokevirtual 236, 3) := dX12_longest_24_k.2.2.2.2.2.2.2.2.2.2.1
theorem dX12_longest_45 : decode cX12_longest 45 = .ok (.aload_n 0, 1) := dX12_longest_24_k.2.2.2.2.2.2.2.2.2.2.2.1
theorem dX12_longest_46 : decode cX12_longest 46 = .ok (.iload_n 1, 1) := dX12_longest_24_k.2.2.2.2.2.2.2.2.2.2.2.2.1
theorem dX12_longest_47 : decode cX12_longest 47 = .ok (.iload 6, 2) := dX12_longest_24_k.2.2.2.2.2.2.2.2.2.2.2.2.2.1
theorem dX12_longest_49 : decode cX12_longest 49 = .ok (.iconst 1, 1) := dX12_longest_24_k.2.2.2.2.2.2.2.2.2.2.2.2.2.2.1
theorem dX12_longest_50 : decode cX12_longest 50 = .ok (.isub, 1) := dX12_longest_24_k.2.2.2.2.2.2.2.2.2.2.2.2.2.2.2
theorem dX12_longest_51_k : decode cX12_longest 51 = .ok (.invokevirtual 236, 3) ∧ decode cX12_longest 54 = .ok (.if_icmp .ne 10, 3) ∧ decode cX12_longest 57 = .ok (.iload 5, 2) ∧ decode cX12_longest 59 = .ok (.iconst 1, 1) ∧ decode cX12_longest 60 = .ok (.iadd, 1) ∧ decode cX12_longest 61 = .ok (.goto 4, 3) ∧ decode cX12_longest 64 = .ok (.iconst 1, 1) ∧ decode cX12_longest 65 = .ok (.istore 5, 2) ∧ decode cX12_longest 67 = .ok (.iload 5, 2) ∧ decode cX12_longest 69 = .ok (.iload_n 3, 1) ∧ decode cX12_longest 70 = .ok (.if_icmp .le 26, 3) ∧ decode cX12_longest 73 = .ok (.iload 5, 2) ∧ decode cX12_longest 75 = .ok (.istore_n 3, 1) ∧ decode cX12_longest 76 = .ok (.aload_n 0, 1) ∧ decode cX12_longest 77 = .ok (.getfield 7, 3) ∧ decode cX12_longest 80 = .ok (.sipush 300, 3) := by decide +kernel
theorem dX12_longest_51 : decode cX12_longest 51 = .ok (.invokevirtual 236, 3) := dX12_longest_51_k.1
theorem dX12_longest_54 : decode cX12_longest 54 = .ok (.if_icmp .ne 10, 3) := dX12_longest_51_k.2.1
theorem dX12_longest_57 : decode cX12_longest 57 = .ok (.iload 5, 2) := dX12_longest_51_k.2.2.1
theorem dX12_longest_59 : decode cX12_longest 59 = .ok (.iconst 1, 1) := dX12_longest_51_k.2.2.2.1
theorem dX12_longest_60 : decode cX12_longest 60 = .ok (.iadd, 1) := dX12_longest_51_k.2.2.2.2.1
theorem dX12_longest_61 : decode cX12_longest 61 = .ok (.goto 4, 3) := dX12_longest_51_k.2.2.2.2.2.1
theorem dX12_longest_64 : decode cX12_longest 64 = .ok (.iconst 1, 1) := dX12_longest_51_k.2.2.2.2.2.2.1
theorem dX12_longest_65 : decode cX12_longest 65 = .ok (.istore 5, 2) := dX12_longest_51_k.2.2.2.2.2.2.2.1
theorem dX12_longest_67 : decode cX12_longest 67 = .ok (.iload 5, 2) := dX12_longest_51_k.2.2.2.2.2.2.2.2.1
theorem dX12_longest_69 : decode cX12_longest 69 = .ok (.iload_n 3, 1) := dX12_longest_51_k.2.2.2.2.2.2.2.2.2.1
theorem dX12_longest_70 : decode cX12_longest 70 = .ok (.if_icmp .le 26, 3) := dX12_longest_51_k.2.2.2.2.2.2.2.2.2.2.1
theorem dX12_longest_73 : decode cX12_longest 73 = .ok (.iload 5, 2) := dX12_longest_51_k.2.2.2.2.2.2.2.2.2.2.2.1
theorem dX12_longest_75 : decode cX12_longest 75 = .ok (.istore_n 3, 1) := dX12_longest_51_k.2.2.2.2.2.2.2.2.2.2.2.2.1
theorem dX12_longest_76 : decode cX12_longest 76 = .ok (.aload_n 0, 1) := dX12_longest_51_k.2.2.2.2.2.2.2.2.2.2.2.2.2.1
theorem dX12_longest_77 : decode cX12_longest 77 = .ok (.getfield 7, 3) := dX12_longest_51_k.2.2.2.2.2.2.2.2.2.2.2.2.2.2.1
theorem dX12_longest_80 : decode cX12_longest 80 = .ok (.sipush 300, 3) := dX12_longest_51_k.2.2.2.2.2.2.2.2.2.2.2.2.2.2.2
theorem dX12_longest_83_k : decode cX12_longest 83 = .ok (.iaload, 1) ∧ decode cX12_longest 84 = .ok (.iload_n 1, 1) ∧ decode cX12_longest 85 = .ok (.isub, 1) ∧ decode cX12_longest 86 = .ok (.iload 6, 2) ∧ decode cX12_longest 88 = .ok (.iadd, 1) ∧ decode cX12_longest 89 = .ok (.iload 5, 2) ∧ decode cX12_longest 91 = .ok (.isub, 1) ∧ decode cX12_longest 92 = .ok (.iconst 1, 1) ∧ decode cX12_longest 93 = .ok (.iadd, 1) ∧ decode cX12_longest 94 = .ok (.istore 4, 2) ∧ decode cX12_longest 96 = .ok (.iinc 6 1, 3) ∧ decode cX12_longest 99 = .ok (.goto (-72), 3) ∧ decode cX12_longest 102 = .ok (.iload_n 2, 1) ∧ decode cX12_longest 103 = .ok (.ifCond .eq 8, 3) ∧ decode cX12_longest 106 = .ok (.iload 4, 2) ∧ decode cX12_longest 108 = .ok (.goto 4, 3) := by decide +kernel
theorem dX12_longest_83 : decode cX12_longest 83 = .ok (.iaload, 1) := dX12_longest_83_k.1
theorem dX12_longest_84 : decode cX12_longest 84 = .ok (.iload_n 1, 1) := dX12_longest_83_k.2.1
theorem dX12_longest_85 : decode cX12_longest 85 = .ok (.isub, 1) := dX12_longest_83_k.2.2.1
theorem dX12_longest_86 : decode cX12_longest 86 = .ok (.iload 6, 2) := dX12_longest_83_k.2.2.2.1
theorem dX12_longest_88 : decode cX12_longest 88 = .ok (.iadd, 1) := dX12_longest_83_k.2.2.2.2.1
theorem dX12_longest_89 : decode cX12_longest 89 = .ok (.iload 5, 2) := dX12_longest_83_k.2.2.2.2.2.1
theorem dX12_longest_91 : decode cX12_longest 91 = .ok (.isub, 1) := dX12_longest_83_k.2.2.2.2.2.2.1
theorem dX12_longest_92 : decode cX12_longest 92 = .ok (.iconst 1, 1) := dX12_longest_83_k.2.2.2.2.2.2.2.1
theorem dX12_longest_93 : decode cX12_longest 93 = .ok (.iadd, 1) := dX12_longest_83_k.2.2.2.2.2.2.2.2.1
theorem dX12_longest_94 : decode cX12_longest 94 = .ok (.istore 4, 2) := dX12_longest_83_k.2.2.2.2.2.2.2.2.2.1
theorem dX12_longest_96 : decode cX12_longest 96 = .ok (.iinc 6 1, 3) := dX12_longest_83_k.2.2.2.2.2.2.2.2.2.2.1
theorem dX12_longest_99 : decode cX12_longest 99 = .ok (.goto (-72), 3) := dX12_longest_83_k.2.2.2.2.2.2.2.2.2.2.2.1
theorem dX12_longest_102 : decode cX12_longest 102 = .ok (.iload_n 2, 1) := dX12_longest_83_k.2.2.2.2.2.2.2.2.2.2.2.2.1
theorem dX12_longest_103 : decode cX12_longest 103 = .ok (.ifCond .eq 8, 3) := dX12_longest_83_k.2.2.2.2.2.2.2.2.2.2.2.2.2.1
theorem dX12_longest_106 : decode cX12_longest 106 = .ok (.iload 4, 2) := dX12_longest_83_k.2.2.2.2.2.2.2.2.2.2.2.2.2.2.1
theorem dX12_longest_108 : decode cX12_longest 108 = .ok (.goto 4, 3) := dX12_longest_83_k.2.2.2.2.2.2.2.2.2.2.2.2.2.2.2
theorem dX12_longest_111_k : decode cX12_longest 111 = .ok (.iload_n 3, 1) ∧ decode cX12_longest 112 = .ok (.ireturn, 1) := by decide +kernel
theorem dX12_longest_111 : decode cX12_longest 111 = .ok (.iload_n 3, 1) := dX12_longest_111_k.1
theorem dX12_longest_112 : decode cX12_longest 112 = .ok (.ireturn, 1) := dX12_longest_111_k.2
theorem dX12_copies_0_k : decode cX12_copies 0 = .ok (.iconst 0, 1) ∧ decode cX12_copies 1 = .ok (.istore_n 3, 1) ∧ decode cX12_copies 2 = .ok (.iload_n 3, 1) ∧ decode cX12_copies 3 = .ok (.sipush 945, 3) ∧ decode cX12_copies 6 = .ok (.if_icmp .ge 33, 3) ∧ decode cX12_copies 9 = .ok (.aload_n 0, 1) ∧ decode cX12_copies 10 = .ok (.getfield 7, 3) ∧ decode cX12_copies 13 = .ok (.sipush 945, 3) ∧ decode cX12_copies 16 = .ok (.iload_n 2, 1) ∧ decode cX12_copies 17 = .ok (.imul, 1) ∧ decode cX12_copies 18 = .ok (.iload_n 3, 1) ∧ decode cX12_copies 19 = .ok (.iadd, 1) ∧ decode cX12_copies 20 = .ok (.aload_n 0, 1) ∧ decode cX12_copies 21 = .ok (.getfield 7, 3) ∧ decode cX12_copies 24 = .ok (.sipush 945, 3) ∧ decode cX12_copies 27 = .ok (.iload_n 1, 1) := by decide +kernel
theorem dX12_copies_0 : decode cX12_copies 0 = .ok (.iconst 0, 1) := dX12_copies_0_k.1
theorem dX12_copies_1 : decode cX12_copies 1 = .ok (.istore_n 3, 1) := dX12_copies_0_k.2.1
theorem dX12_copies_2 : decode cX12_copies 2 = .ok (.iload_n 3, 1) := dX12_copies_0_k.2.2.1
theorem dX12_copies_3 : decode cX12_copies 3 = .ok (.sipush 945, 3) := dX12_copies_0_k.2.2.2.1
theorem dX12_copies_6 : decode cX12_copies 6 = .ok (.if_icmp .ge 33, 3) := dX12_copies_0_k.2.2.2.2.1
theorem dX12_copies_9 : decode cX12_copies 9 = .ok (.aload_n 0, 1) := dX12_copies_0_k.2.2.2.2.2.1
theorem dX12_copies_10 : decode cX12_copies 10 = .ok (.getfield 7, 3) := dX12_copies_0_k.2.2.2.2.2.2.1
theorem dX12_copies_13 : decode cX12_copies 13 = .ok (.sipush 945, 3) := dX12_copies_0_k.2.2.2.2.2.2.2.1
theorem dX12_copies_16 : decode cX12_copies 16 = .ok (.iload_n 2, 1) := dX12_copies_0_k.2.2.2.2.2.2.2.2.1
theorem dX12_copies_17 : decode cX12_copies 17 = .ok (.imul, 1) := dX12_copies_0_k.2.2.2.2.2.2.2.2.2.1
theorem dX12_copies_18 : decode cX12_copies 18 = .ok (.iload_n 3, 1) := dX12_copies_0_k.2.2.2.2.2.2.2.2.2.2.1
theorem dX12_copies_19 : decode cX12_copies 19 = .ok (.iadd, 1) := dX12_copies_0_k.2.2.2.2.2.2.2.2.2.2.2.1
theorem dX12_copies_20 : decode cX12_copies 20 = .ok (.aload_n 0, 1) := dX12_copies_0_k.2.2.2.2.2.2.2.2.2.2.2.2.1
theorem dX12_copies_21 : decode cX12_copies 21 = .ok (.getfield 7, 3) := dX12_copies_0_k.2.2.2.2.2.2.2.2.2.2.2.2.2.1
theorem dX12_copies_24 : decode cX12_copies 24 = .ok (.sipush 945, 3) := dX12_copies_0_k.2.2.2.2.2.2.2.2.2.2.2.2.2.2.1
theorem dX12_copies_27 : decode cX12_copies 27 = .ok (.iload_n 1, 1) := dX12_copies_0_k.2.2.2.2.2.2.2.2.2.2.2.2.2.2.2
theorem dX12_copies_28_k : decode cX12_copies 28 = .ok (.imul, 1) ∧ decode cX12_copies 29 = .ok (.iload_n 3, 1) ∧ decode cX12_copies 30 = .ok (.iadd, 1) ∧ decode cX12_copies 31 = .ok (.iaload, 1) ∧ decode cX12_copies 32 = .ok (.iastore, 1) ∧ decode cX12_copies 33 = .ok (.iinc 3 1, 3) ∧ decode cX12_copies 36 = .ok (.goto (-34), 3) ∧ decode cX12_copies 39 = .ok (.return_, 1) := by decide +kernel
theorem dX12_copies_28 : decode cX12_copies 28 = .ok (.imul, 1) := dX12_copies_28_k.1
theorem dX12_copies_29 : decode cX12_copies 29 = .ok (.iload_n 3, 1) := dX12_copies_28_k.2.1
theorem dX12_copies_30 : decode cX12_copies 30 = .ok (.iadd, 1) := dX12_copies_28_k.2.2.1
theorem dX12_copies_31 : decode cX12_copies 31 = .ok (.iaload, 1) := dX12_copies_28_k.2.2.2.1
theorem dX12_copies_32 : decode cX12_copies 32 = .ok (.iastore, 1) := dX12_copies_28_k.2.2.2.2.1
theorem dX12_copies_33 : decode cX12_copies 33 = .ok (.iinc 3 1, 3) := dX12_copies_28_k.2.2.2.2.2.1
theorem dX12_copies_36 : decode cX12_copies 36 = .ok (.goto (-34), 3) := dX12_copies_28_k.2.2.2.2.2.2.1
theorem dX12_copies_39 : decode cX12_copies 39 = .ok (.return_, 1) := dX12_copies_28_k.2.2.2.2.2.2.2
theorem dX12_back_0_k : decode cX12_back 0 = .ok (.aload_n 0, 1) ∧ decode cX12_back 1 = .ok (.iconst 4, 1) ∧ decode cX12_back 2 = .ok (.iconst 0, 1) ∧ decode cX12_back 3 = .ok (.invokevirtual 294, 3) ∧ decode cX12_back 6 = .ok (.iload_n 1, 1) ∧ decode cX12_back 7 = .ok (.ireturn, 1) := by decide +kernel
theorem dX12_back_0 : decode cX12_back 0 = .ok (.aload_n 0, 1) := dX12_back_0_k.1
theorem dX12_back_1 : decode cX12_back 1 = .ok (.iconst 4, 1) := dX12_back_0_k.2.1
theorem dX12_back_2 : decode cX12_back 2 = .ok (.iconst 0, 1) := dX12_back_0_k.2.2.1
theorem dX12_back_3 : decode cX12_back 3 = .ok (.invokevirtual 294, 3) := dX12_back_0_k.2.2.2.1
theorem dX12_back_6 : decode cX12_back 6 = .ok (.iload_n 1, 1) := dX12_back_0_k.2.2.2.2.1
theorem dX12_back_7 : decode cX12_back 7 = .ok (.ireturn, 1) := dX12_back_0_k.2.2.2.2.2
theorem dX12_ahead_0_k : decode cX12_ahead 0 = .ok (.aload_n 0, 1) ∧ decode cX12_ahead 1 = .ok (.iconst 0, 1) ∧ decode cX12_ahead 2 = .ok (.putfield 33, 3) ∧ decode cX12_ahead 5 = .ok (.iload_n 1, 1) ∧ decode cX12_ahead 6 = .ok (.iconst 1, 1) ∧ decode cX12_ahead 7 = .ok (.sipush 400, 3) ∧ decode cX12_ahead 10 = .ok (.invokestatic 59, 3) ∧ decode cX12_ahead 13 = .ok (.ifCond .eq 13, 3) ∧ decode cX12_ahead 16 = .ok (.iload_n 2, 1) ∧ decode cX12_ahead 17 = .ok (.iconst 0, 1) ∧ decode cX12_ahead 18 = .ok (.bipush 28, 2) ∧ decode cX12_ahead 20 = .ok (.invokestatic 59, 3) ∧ decode cX12_ahead 23 = .ok (.ifCond .ne 5, 3) ∧ decode cX12_ahead 26 = .ok (.iconst (-1), 1) ∧ decode cX12_ahead 27 = .ok (.ireturn, 1) ∧ decode cX12_ahead 28 = .ok (.aload_n 0, 1) := by decide +kernel
theorem dX12_ahead_0 : decode cX12_ahead 0 = .ok (.aload_n 0, 1) := dX12_ahead_0_k.1
theorem dX12_ahead_1 : decode cX12_ahead 1 = .ok (.iconst 0, 1) := dX12_ahead_0_k.2.1
theorem dX12_ahead_2 : decode cX12_ahead 2 = .ok (.putfield 33, 3) := dX12_ahead_0_k.2.2.1
theorem dX12_ahead_5 : decode cX12_ahead 5 = .ok (.iload_n 1, 1) := dX12_ahead_0_k.2.2.2.1
theorem dX12_ahead_6 : decode cX12_ahead 6 = .ok (.iconst 1, 1) := dX12_ahead_0_k.2.2.2.2.1
theorem dX12_ahead_7 : decode cX12_ahead 7 = .ok (.sipush 400, 3) := dX12_ahead_0_k.2.2.2.2.2.1
theorem dX12_ahead_10 : decode cX12_ahead 10 = .ok (.invokestatic 59, 3) := dX12_ahead_0_k.2.2.2.2.2.2.1
theorem dX12_ahead_13 : decode cX12_ahead 13 = .ok (.ifCond .eq 13, 3) := dX12_ahead_0_k.2.2.2.2.2.2.2.1
theorem dX12_ahead_16 : decode cX12_ahead 16 = .ok (.iload_n 2, 1) := dX12_ahead_0_k.2.2.2.2.2.2.2.2.1
theorem dX12_ahead_17 : decode cX12_ahead 17 = .ok (.iconst 0, 1) := dX12_ahead_0_k.2.2.2.2.2.2.2.2.2.1
theorem dX12_ahead_18 : decode cX12_ahead 18 = .ok (.bipush 28, 2) := dX12_ahead_0_k.2.2.2.2.2.2.2.2.2.2.1
theorem dX12_ahead_20 : decode cX12_ahead 20 = .ok (.invokestatic 59, 3) := dX12_ahead_0_k.2.2.2.2.2.2.2.2.2.2.2.1
theorem dX12_ahead_23 : decode cX12_ahead 23 = .ok (.ifCond .ne 5, 3) := dX12_ahead_0_k.2.2.2.2.2.2.2.2.2.2.2.2.1
theorem dX12_ahead_26 : decode cX12_ahead 26 = .ok (.iconst (-1), 1) := dX12_ahead_0_k.2.2.2.2.2.2.2.2.2.2.2.2.2.1
theorem dX12_ahead_27 : decode cX12_ahead 27 = .ok (.ireturn, 1) := dX12_ahead_0_k.2.2.2.2.2.2.2.2.2.2.2.2.2.2.1
theorem dX12_ahead_28 : decode cX12_ahead 28 = .ok (.aload_n 0, 1) := dX12_ahead_0_k.2.2.2.2.2.2.2.2.2.2.2.2.2.2.2
theorem dX12_ahead_29_k : decode cX12_ahead 29 = .ok (.iconst 0, 1) ∧ decode cX12_ahead 30 = .ok (.iconst 4, 1) ∧ decode cX12_ahead 31 = .ok (.invokevirtual 294, 3) ∧ decode cX12_ahead 34 = .ok (.aload_n 0, 1) ∧ decode cX12_ahead 35 = .ok (.iload_n 1, 1) ∧ decode cX12_ahead 36 = .ok (.invokevirtual 227, 3) ∧ decode cX12_ahead 39 = .ok (.istore_n 3, 1) ∧ decode cX12_ahead 40 = .ok (.aload_n 0, 1) ∧ decode cX12_ahead 41 = .ok (.aload_n 0, 1) ∧ decode cX12_ahead 42 = .ok (.iload_n 2, 1) ∧ decode cX12_ahead 43 = .ok (.invokevirtual 230, 3) ∧ decode cX12_ahead 46 = .ok (.invokevirtual 297, 3) ∧ decode cX12_ahead 49 = .ok (.ireturn, 1) := by decide +kernel
theorem dX12_ahead_29 : decode cX12_ahead 29 = .ok (.iconst 0, 1) := dX12_ahead_29_k.1
theorem dX12_ahead_30 : decode cX12_ahead 30 = .ok (.iconst 4, 1) := dX12_ahead_29_k.2.1
theorem dX12_ahead_31 : decode cX12_ahead 31 = .ok (.invokevirtual 294, 3) := dX12_ahead_29_k.2.2.1
theorem dX12_ahead_34 : decode cX12_ahead 34 = .ok (.aload_n 0, 1) := dX12_ahead_29_k.2.2.2.1
theorem dX12_ahead_35 : decode cX12_ahead 35 = .ok (.iload_n 1, 1) := dX12_ahead_29_k.2.2.2.2.1
theorem dX12_ahead_36 : decode cX12_ahead 36 = .ok (.invokevirtual 227, 3) := dX12_ahead_29_k.2.2.2.2.2.1
theorem dX12_ahead_39 : decode cX12_ahead 39 = .ok (.istore_n 3, 1) := dX12_ahead_29_k.2.2.2.2.2.2.1
theorem dX12_ahead_40 : decode cX12_ahead 40 = .ok (.aload_n 0, 1) := dX12_ahead_29_k.2.2.2.2.2.2.2.1
theorem dX12_ahead_41 : decode cX12_ahead 41 = .ok (.aload_n 0, 1) := dX12_ahead_29_k.2.2.2.2.2.2.2.2.1
theorem dX12_ahead_42 : decode cX12_ahead 42 = .ok (.iload_n 2, 1) := dX12_ahead_29_k.2.2.2.2.2.2.2.2.2.1
theorem dX12_ahead_43 : decode cX12_ahead 43 = .ok (.invokevirtual 230, 3) := dX12_ahead_29_k.2.2.2.2.2.2.2.2.2.2.1
theorem dX12_ahead_46 : decode cX12_ahead 46 = .ok (.invokevirtual 297, 3) := dX12_ahead_29_k.2.2.2.2.2.2.2.2.2.2.2.1
theorem dX12_ahead_49 : decode cX12_ahead 49 = .ok (.ireturn, 1) := dX12_ahead_29_k.2.2.2.2.2.2.2.2.2.2.2.2
theorem dX12_quiet_0_k : decode cX12_quiet 0 = .ok (.aload_n 0, 1) ∧ decode cX12_quiet 1 = .ok (.iconst 0, 1) ∧ decode cX12_quiet 2 = .ok (.putfield 33, 3) ∧ decode cX12_quiet 5 = .ok (.aload_n 0, 1) ∧ decode cX12_quiet 6 = .ok (.getfield 7, 3) ∧ decode cX12_quiet 9 = .ok (.bipush 25, 2) ∧ decode cX12_quiet 11 = .ok (.iaload, 1) ∧ decode cX12_quiet 12 = .ok (.ifCond .ne 5, 3) ∧ decode cX12_quiet 15 = .ok (.iconst (-1), 1) ∧ decode cX12_quiet 16 = .ok (.ireturn, 1) ∧ decode cX12_quiet 17 = .ok (.aload_n 0, 1) ∧ decode cX12_quiet 18 = .ok (.iconst 0, 1) ∧ decode cX12_quiet 19 = .ok (.iconst 4, 1) ∧ decode cX12_quiet 20 = .ok (.invokevirtual 294, 3) ∧ decode cX12_quiet 23 = .ok (.iconst 0, 1) ∧ decode cX12_quiet 24 = .ok (.istore_n 1, 1) := by decide +kernel
theorem dX12_quiet_0 : decode cX12_quiet 0 = .ok (.aload_n 0, 1) := dX12_quiet_0_k.1
theorem dX12_quiet_1 : decode cX12_quiet 1 = .ok (.iconst 0, 1) := dX12_quiet_0_k.2.1
theorem dX12_quiet_2 : decode cX12_quiet 2 = .ok (.putfield 33, 3) := dX12_quiet_0_k.2.2.1
theorem dX12_quiet_5 : decode cX12_quiet 5 = .ok (.aload_n 0, 1) := dX12_quiet_0_k.2.2.2.1
theorem dX12_quiet_6 : decode cX12_quiet 6 = .ok (.getfield 7, 3) := dX12_quiet_0_k.2.2.2.2.1
theorem dX12_quiet_9 : decode cX12_quiet 9 = .ok (.bipush 25, 2) := dX12_quiet_0_k.2.2.2.2.2.1
theorem dX12_quiet_11 : decode cX12_quiet 11 = .ok (.iaload, 1) := dX12_quiet_0_k.2.2.2.2.2.2.1
theorem dX12_quiet_12 : decode cX12_quiet 12 = .ok (.ifCond .ne 5, 3) := dX12_quiet_0_k.2.2.2.2.2.2.2.1
theorem dX12_quiet_15 : decode cX12_quiet 15 = .ok (.iconst (-1), 1) := dX12_quiet_0_k.2.2.2.2.2.2.2.2.1
theorem dX12_quiet_16 : decode cX12_quiet 16 = .ok (.ireturn, 1) := dX12_quiet_0_k.2.2.2.2.2.2.2.2.2.1
theorem dX12_quiet_17 : decode cX12_quiet 17 = .ok (.aload_n 0, 1) := dX12_quiet_0_k.2.2.2.2.2.2.2.2.2.2.1
theorem dX12_quiet_18 : decode cX12_quiet 18 = .ok (.iconst 0, 1) := dX12_quiet_0_k.2.2.2.2.2.2.2.2.2.2.2.1
theorem dX12_quiet_19 : decode cX12_quiet 19 = .ok (.iconst 4, 1) := dX12_quiet_0_k.2.2.2.2.2.2.2.2.2.2.2.2.1
theorem dX12_quiet_20 : decode cX12_quiet 20 = .ok (.invokevirtual 294, 3) := dX12_quiet_0_k.2.2.2.2.2.2.2.2.2.2.2.2.2.1
theorem dX12_quiet_23 : decode cX12_quiet 23 = .ok (.iconst 0, 1) := dX12_quiet_0_k.2.2.2.2.2.2.2.2.2.2.2.2.2.2.1
theorem dX12_quiet_24 : decode cX12_quiet 24 = .ok (.istore_n 1, 1) := dX12_quiet_0_k.2.2.2.2.2.2.2.2.2.2.2.2.2.2.2
theorem dX12_quiet_25_k : decode cX12_quiet 25 = .ok (.iload_n 1, 1) ∧ decode cX12_quiet 26 = .ok (.sipush 400, 3) ∧ decode cX12_quiet 29 = .ok (.if_icmp .ge 26, 3) ∧ decode cX12_quiet 32 = .ok (.aload_n 0, 1) ∧ decode cX12_quiet 33 = .ok (.getfield 7, 3) ∧ decode cX12_quiet 36 = .ok (.bipush 25, 2) ∧ decode cX12_quiet 38 = .ok (.iaload, 1) ∧ decode cX12_quiet 39 = .ok (.iconst 3, 1) ∧ decode cX12_quiet 40 = .ok (.if_icmp .eq 15, 3) ∧ decode cX12_quiet 43 = .ok (.aload_n 0, 1) ∧ decode cX12_quiet 44 = .ok (.iconst 1, 1) ∧ decode cX12_quiet 45 = .ok (.invokevirtual 227, 3) ∧ decode cX12_quiet 48 = .ok (.istore_n 2, 1) ∧ decode cX12_quiet 49 = .ok (.iinc 1 1, 3) ∧ decode cX12_quiet 52 = .ok (.goto (-27), 3) ∧ decode cX12_quiet 55 = .ok (.aload_n 0, 1) := by decide +kernel
theorem dX12_quiet_25 : decode cX12_quiet 25 = .ok (.iload_n 1, 1) := dX12_quiet_25_k.1
theorem dX12_quiet_26 : decode cX12_quiet 26 = .ok (.sipush 400, 3) := dX12_quiet_25_k.2.1
theorem dX12_quiet_29 : decode cX12_quiet 29 = .ok (.if_icmp .ge 26, 3) := dX12_quiet_25_k.2.2.1
theorem dX12_quiet_32 : decode cX12_quiet 32 = .ok (.aload_n 0, 1) := dX12_quiet_25_k.2.2.2.1
theorem dX12_quiet_33 : decode cX12_quiet 33 = .ok (.getfield 7, 3) := dX12_quiet_25_k.2.2.2.2.1
theorem dX12_quiet_36 : decode cX12_quiet 36 = .ok (.bipush 25, 2) := dX12_quiet_25_k.2.2.2.2.2.1
theorem dX12_quiet_38 : decode cX12_quiet 38 = .ok (.iaload, 1) := dX12_quiet_25_k.2.2.2.2.2.2.1
theorem dX12_quiet_39 : decode cX12_quiet 39 = .ok (.iconst 3, 1) := dX12_quiet_25_k.2.2.2.2.2.2.2.1
theorem dX12_quiet_40 : decode cX12_quiet 40 = .ok (.if_icmp .eq 15, 3) := dX12_quiet_25_k.2.2.2.2.2.2.2.2.1
theorem dX12_quiet_43 : decode cX12_quiet 43 = .ok (.aload_n 0, 1) := dX12_quiet_25_k.2.2.2.2.2.2.2.2.2.1
theorem dX12_quiet_44 : decode cX12_quiet 44 = .ok (.iconst 1, 1) := dX12_quiet_25_k.2.2.2.2.2.2.2.2.2.2.1
theorem dX12_quiet_45 : decode cX12_quiet 45 = .ok (.invokevirtual 227, 3) := dX12_quiet_25_k.2.2.2.2.2.2.2.2.2.2.2.1
theorem dX12_quiet_48 : decode cX12_quiet 48 = .ok (.istore_n 2, 1) := dX12_quiet_25_k.2.2.2.2.2.2.2.2.2.2.2.2.1
theorem dX12_quiet_49 : decode cX12_quiet 49 = .ok (.iinc 1 1, 3) := dX12_quiet_25_k.2.2.2.2.2.2.2.2.2.2.2.2.2.1
theorem dX12_quiet_52 : decode cX12_quiet 52 = .ok (.goto (-27), 3) := dX12_quiet_25_k.2.2.2.2.2.2.2.2.2.2.2.2.2.2.1
theorem dX12_quiet_55 : decode cX12_quiet 55 = .ok (.aload_n 0, 1) := dX12_quiet_25_k.2.2.2.2.2.2.2.2.2.2.2.2.2.2.2
theorem dX12_quiet_56_k : decode cX12_quiet 56 = .ok (.aload_n 0, 1) ∧ decode cX12_quiet 57 = .ok (.getfield 7, 3) ∧ decode cX12_quiet 60 = .ok (.bipush 25, 2) ∧ decode cX12_quiet 62 = .ok (.iaload, 1) ∧ decode cX12_quiet 63 = .ok (.iconst 3, 1) ∧ decode cX12_quiet 64 = .ok (.if_icmp .ne 7, 3) ∧ decode cX12_quiet 67 = .ok (.iload_n 1, 1) ∧ decode cX12_quiet 68 = .ok (.goto 4, 3) ∧ decode cX12_quiet 71 = .ok (.iconst (-1), 1) ∧ decode cX12_quiet 72 = .ok (.invokevirtual 297, 3) ∧ decode cX12_quiet 75 = .ok (.ireturn, 1) := by decide +kernel
theorem dX12_quiet_56 : decode cX12_quiet 56 = .ok (.aload_n 0, 1) := dX12_quiet_56_k.1
theorem dX12_quiet_57 : decode cX12_quiet 57 = .ok (.getfield 7, 3) := dX12_quiet_56_k.2.1
theorem dX12_quiet_60 : decode cX12_quiet 60 = .ok (.bipush 25, 2) := dX12_quiet_56_k.2.2.1
theorem dX12_quiet_62 : decode cX12_quiet 62 = .ok (.iaload, 1) := dX12_quiet_56_k.2.2.2.1
theorem dX12_quiet_63 : decode cX12_quiet 63 = .ok (.iconst 3, 1) := dX12_quiet_56_k.2.2.2.2.1
theorem dX12_quiet_64 : decode cX12_quiet 64 = .ok (.if_icmp .ne 7, 3) := dX12_quiet_56_k.2.2.2.2.2.1
theorem dX12_quiet_67 : decode cX12_quiet 67 = .ok (.iload_n 1, 1) := dX12_quiet_56_k.2.2.2.2.2.2.1
theorem dX12_quiet_68 : decode cX12_quiet 68 = .ok (.goto 4, 3) := dX12_quiet_56_k.2.2.2.2.2.2.2.1
theorem dX12_quiet_71 : decode cX12_quiet 71 = .ok (.iconst (-1), 1) := dX12_quiet_56_k.2.2.2.2.2.2.2.2.1
theorem dX12_quiet_72 : decode cX12_quiet 72 = .ok (.invokevirtual 297, 3) := dX12_quiet_56_k.2.2.2.2.2.2.2.2.2.1
theorem dX12_quiet_75 : decode cX12_quiet 75 = .ok (.ireturn, 1) := dX12_quiet_56_k.2.2.2.2.2.2.2.2.2.2
theorem dX12_alarms_0_k : decode cX12_alarms 0 = .ok (.aload_n 0, 1) ∧ decode cX12_alarms 1 = .ok (.iconst 0, 1) ∧ decode cX12_alarms 2 = .ok (.iconst 4, 1) ∧ decode cX12_alarms 3 = .ok (.invokevirtual 294, 3) ∧ decode cX12_alarms 6 = .ok (.aload_n 0, 1) ∧ decode cX12_alarms 7 = .ok (.getfield 7, 3) ∧ decode cX12_alarms 10 = .ok (.sipush 300, 3) ∧ decode cX12_alarms 13 = .ok (.iaload, 1) ∧ decode cX12_alarms 14 = .ok (.istore_n 3, 1) ∧ decode cX12_alarms 15 = .ok (.aload_n 0, 1) ∧ decode cX12_alarms 16 = .ok (.getfield 7, 3) ∧ decode cX12_alarms 19 = .ok (.iconst 0, 1) ∧ decode cX12_alarms 20 = .ok (.iload_n 1, 1) ∧ decode cX12_alarms 21 = .ok (.iastore, 1) ∧ decode cX12_alarms 22 = .ok (.aload_n 0, 1) ∧ decode cX12_alarms 23 = .ok (.getfield 7, 3) := by decide +kernel
theorem dX12_alarms_0 : decode cX12_alarms 0 = .ok (.aload_n 0, 1) := dX12_alarms_0_k.1
theorem dX12_alarms_1 : decode cX12_alarms 1 = .ok (.iconst 0, 1) := dX12_alarms_0_k.2.1
theorem dX12_alarms_2 : decode cX12_alarms 2 = .ok (.iconst 4, 1) := dX12_alarms_0_k.2.2.1
theorem dX12_alarms_3 : decode cX12_alarms 3 = .ok (.invokevirtual 294, 3) := dX12_alarms_0_k.2.2.2.1
theorem dX12_alarms_6 : decode cX12_alarms 6 = .ok (.aload_n 0, 1) := dX12_alarms_0_k.2.2.2.2.1
theorem dX12_alarms_7 : decode cX12_alarms 7 = .ok (.getfield 7, 3) := dX12_alarms_0_k.2.2.2.2.2.1
theorem dX12_alarms_10 : decode cX12_alarms 10 = .ok (.sipush 300, 3) := dX12_alarms_0_k.2.2.2.2.2.2.1
theorem dX12_alarms_13 : decode cX12_alarms 13 = .ok (.iaload, 1) := dX12_alarms_0_k.2.2.2.2.2.2.2.1
theorem dX12_alarms_14 : decode cX12_alarms 14 = .ok (.istore_n 3, 1) := dX12_alarms_0_k.2.2.2.2.2.2.2.2.1
theorem dX12_alarms_15 : decode cX12_alarms 15 = .ok (.aload_n 0, 1) := dX12_alarms_0_k.2.2.2.2.2.2.2.2.2.1
theorem dX12_alarms_16 : decode cX12_alarms 16 = .ok (.getfield 7, 3) := dX12_alarms_0_k.2.2.2.2.2.2.2.2.2.2.1
theorem dX12_alarms_19 : decode cX12_alarms 19 = .ok (.iconst 0, 1) := dX12_alarms_0_k.2.2.2.2.2.2.2.2.2.2.2.1
theorem dX12_alarms_20 : decode cX12_alarms 20 = .ok (.iload_n 1, 1) := dX12_alarms_0_k.2.2.2.2.2.2.2.2.2.2.2.2.1
theorem dX12_alarms_21 : decode cX12_alarms 21 = .ok (.iastore, 1) := dX12_alarms_0_k.2.2.2.2.2.2.2.2.2.2.2.2.2.1
theorem dX12_alarms_22 : decode cX12_alarms 22 = .ok (.aload_n 0, 1) := dX12_alarms_0_k.2.2.2.2.2.2.2.2.2.2.2.2.2.2.1
theorem dX12_alarms_23 : decode cX12_alarms 23 = .ok (.getfield 7, 3) := dX12_alarms_0_k.2.2.2.2.2.2.2.2.2.2.2.2.2.2.2
theorem dX12_alarms_26_k : decode cX12_alarms 26 = .ok (.iconst 1, 1) ∧ decode cX12_alarms 27 = .ok (.iload_n 2, 1) ∧ decode cX12_alarms 28 = .ok (.iastore, 1) ∧ decode cX12_alarms 29 = .ok (.aload_n 0, 1) ∧ decode cX12_alarms 30 = .ok (.getfield 7, 3) ∧ decode cX12_alarms 33 = .ok (.bipush 27, 2) ∧ decode cX12_alarms 35 = .ok (.iconst 0, 1) ∧ decode cX12_alarms 36 = .ok (.iastore, 1) ∧ decode cX12_alarms 37 = .ok (.aload_n 0, 1) ∧ decode cX12_alarms 38 = .ok (.invokevirtual 217, 3) ∧ decode cX12_alarms 41 = .ok (.aload_n 0, 1) ∧ decode cX12_alarms 42 = .ok (.invokevirtual 214, 3) ∧ decode cX12_alarms 45 = .ok (.iconst 0, 1) ∧ decode cX12_alarms 46 = .ok (.istore 4, 2) ∧ decode cX12_alarms 48 = .ok (.iload 4, 2) ∧ decode cX12_alarms 50 = .ok (.iload_n 3, 1) := by decide +kernel
theorem dX12_alarms_26 : decode cX12_alarms 26 = .ok (.iconst 1, 1) := dX12_alarms_26_k.1
theorem dX12_alarms_27 : decode cX12_alarms 27 = .ok (.iload_n 2, 1) := dX12_alarms_26_k.2.1
theorem dX12_alarms_28 : decode cX12_alarms 28 = .ok (.iastore, 1) := dX12_alarms_26_k.2.2.1
theorem dX12_alarms_29 : decode cX12_alarms 29 = .ok (.aload_n 0, 1) := dX12_alarms_26_k.2.2.2.1
theorem dX12_alarms_30 : decode cX12_alarms 30 = .ok (.getfield 7, 3) := dX12_alarms_26_k.2.2.2.2.1
theorem dX12_alarms_33 : decode cX12_alarms 33 = .ok (.bipush 27, 2) := dX12_alarms_26_k.2.2.2.2.2.1
theorem dX12_alarms_35 : decode cX12_alarms 35 = .ok (.iconst 0, 1) := dX12_alarms_26_k.2.2.2.2.2.2.1
theorem dX12_alarms_36 : decode cX12_alarms 36 = .ok (.iastore, 1) := dX12_alarms_26_k.2.2.2.2.2.2.2.1
theorem dX12_alarms_37 : decode cX12_alarms 37 = .ok (.aload_n 0, 1) := dX12_alarms_26_k.2.2.2.2.2.2.2.2.1
theorem dX12_alarms_38 : decode cX12_alarms 38 = .ok (.invokevirtual 217, 3) := dX12_alarms_26_k.2.2.2.2.2.2.2.2.2.1
theorem dX12_alarms_41 : decode cX12_alarms 41 = .ok (.aload_n 0, 1) := dX12_alarms_26_k.2.2.2.2.2.2.2.2.2.2.1
theorem dX12_alarms_42 : decode cX12_alarms 42 = .ok (.invokevirtual 214, 3) := dX12_alarms_26_k.2.2.2.2.2.2.2.2.2.2.2.1
theorem dX12_alarms_45 : decode cX12_alarms 45 = .ok (.iconst 0, 1) := dX12_alarms_26_k.2.2.2.2.2.2.2.2.2.2.2.2.1
theorem dX12_alarms_46 : decode cX12_alarms 46 = .ok (.istore 4, 2) := dX12_alarms_26_k.2.2.2.2.2.2.2.2.2.2.2.2.2.1
theorem dX12_alarms_48 : decode cX12_alarms 48 = .ok (.iload 4, 2) := dX12_alarms_26_k.2.2.2.2.2.2.2.2.2.2.2.2.2.2.1
theorem dX12_alarms_50 : decode cX12_alarms 50 = .ok (.iload_n 3, 1) := dX12_alarms_26_k.2.2.2.2.2.2.2.2.2.2.2.2.2.2.2
theorem dX12_alarms_51_k : decode cX12_alarms 51 = .ok (.if_icmp .ge 45, 3) ∧ decode cX12_alarms 54 = .ok (.aload_n 0, 1) ∧ decode cX12_alarms 55 = .ok (.getfield 7, 3) ∧ decode cX12_alarms 58 = .ok (.sipush 4081, 3) ∧ decode cX12_alarms 61 = .ok (.iload 4, 2) ∧ decode cX12_alarms 63 = .ok (.iadd, 1) ∧ decode cX12_alarms 64 = .ok (.iaload, 1) ∧ decode cX12_alarms 65 = .ok (.istore 5, 2) ∧ decode cX12_alarms 67 = .ok (.aload_n 0, 1) ∧ decode cX12_alarms 68 = .ok (.iload 5, 2) ∧ decode cX12_alarms 70 = .ok (.invokevirtual 223, 3) ∧ decode cX12_alarms 73 = .ok (.istore 6, 2) ∧ decode cX12_alarms 75 = .ok (.aload_n 0, 1) ∧ decode cX12_alarms 76 = .ok (.getfield 7, 3) ∧ decode cX12_alarms 79 = .ok (.bipush 25, 2) ∧ decode cX12_alarms 81 = .ok (.iaload, 1) := by decide +kernel
theorem dX12_alarms_51 : decode cX12_alarms 51 = .ok (.if_icmp .ge 45, 3) := dX12_alarms_51_k.1
theorem dX12_alarms_54 : decode cX12_alarms 54 = .ok (.aload_n 0, 1) := dX12_alarms_51_k.2.1
theorem dX12_alarms_55 : decode cX12_alarms 55 = .ok (.getfield 7, 3) := dX12_alarms_51_k.2.2.1
theorem dX12_alarms_58 : decode cX12_alarms 58 = .ok (.sipush 4081, 3) := dX12_alarms_51_k.2.2.2.1
theorem dX12_alarms_61 : decode cX12_alarms 61 = .ok (.iload 4, 2) := dX12_alarms_51_k.2.2.2.2.1
theorem dX12_alarms_63 : decode cX12_alarms 63 = .ok (.iadd, 1) := dX12_alarms_51_k.2.2.2.2.2.1
theorem dX12_alarms_64 : decode cX12_alarms 64 = .ok (.iaload, 1) := dX12_alarms_51_k.2.2.2.2.2.2.1
theorem dX12_alarms_65 : decode cX12_alarms 65 = .ok (.istore 5, 2) := dX12_alarms_51_k.2.2.2.2.2.2.2.1
theorem dX12_alarms_67 : decode cX12_alarms 67 = .ok (.aload_n 0, 1) := dX12_alarms_51_k.2.2.2.2.2.2.2.2.1
theorem dX12_alarms_68 : decode cX12_alarms 68 = .ok (.iload 5, 2) := dX12_alarms_51_k.2.2.2.2.2.2.2.2.2.1
theorem dX12_alarms_70 : decode cX12_alarms 70 = .ok (.invokevirtual 223, 3) := dX12_alarms_51_k.2.2.2.2.2.2.2.2.2.2.1
theorem dX12_alarms_73 : decode cX12_alarms 73 = .ok (.istore 6, 2) := dX12_alarms_51_k.2.2.2.2.2.2.2.2.2.2.2.1
theorem dX12_alarms_75 : decode cX12_alarms 75 = .ok (.aload_n 0, 1) := dX12_alarms_51_k.2.2.2.2.2.2.2.2.2.2.2.2.1
theorem dX12_alarms_76 : decode cX12_alarms 76 = .ok (.getfield 7, 3) := dX12_alarms_51_k.2.2.2.2.2.2.2.2.2.2.2.2.2.1
theorem dX12_alarms_79 : decode cX12_alarms 79 = .ok (.bipush 25, 2) := dX12_alarms_51_k.2.2.2.2.2.2.2.2.2.2.2.2.2.2.1
theorem dX12_alarms_81 : decode cX12_alarms 81 = .ok (.iaload, 1) := dX12_alarms_51_k.2.2.2.2.2.2.2.2.2.2.2.2.2.2.2
theorem dX12_alarms_82_k : decode cX12_alarms 82 = .ok (.iconst 3, 1) ∧ decode cX12_alarms 83 = .ok (.if_icmp .ne 7, 3) ∧ decode cX12_alarms 86 = .ok (.aload_n 0, 1) ∧ decode cX12_alarms 87 = .ok (.invokevirtual 214, 3) ∧ decode cX12_alarms 90 = .ok (.iinc 4 1, 3) ∧ decode cX12_alarms 93 = .ok (.goto (-45), 3) ∧ decode cX12_alarms 96 = .ok (.aload_n 0, 1) ∧ decode cX12_alarms 97 = .ok (.aload_n 0, 1) ∧ decode cX12_alarms 98 = .ok (.getfield 7, 3) ∧ decode cX12_alarms 101 = .ok (.bipush 27, 2) ∧ decode cX12_alarms 103 = .ok (.iaload, 1) ∧ decode cX12_alarms 104 = .ok (.invokevirtual 297, 3) ∧ decode cX12_alarms 107 = .ok (.ireturn, 1) := by decide +kernel
theorem dX12_alarms_82 : decode cX12_alarms 82 = .ok (.iconst 3, 1) := dX12_alarms_82_k.1
theorem dX12_alarms_83 : decode cX12_alarms 83 = .ok (.if_icmp .ne 7, 3) := dX12_alarms_82_k.2.1
theorem dX12_alarms_86 : decode cX12_alarms 86 = .ok (.aload_n 0, 1) := dX12_alarms_82_k.2.2.1
theorem dX12_alarms_87 : decode cX12_alarms 87 = .ok (.invokevirtual 214, 3) := dX12_alarms_82_k.2.2.2.1
theorem dX12_alarms_90 : decode cX12_alarms 90 = .ok (.iinc 4 1, 3) := dX12_alarms_82_k.2.2.2.2.1
theorem dX12_alarms_93 : decode cX12_alarms 93 = .ok (.goto (-45), 3) := dX12_alarms_82_k.2.2.2.2.2.1
theorem dX12_alarms_96 : decode cX12_alarms 96 = .ok (.aload_n 0, 1) := dX12_alarms_82_k.2.2.2.2.2.2.1
theorem dX12_alarms_97 : decode cX12_alarms 97 = .ok (.aload_n 0, 1) := dX12_alarms_82_k.2.2.2.2.2.2.2.1
theorem dX12_alarms_98 : decode cX12_alarms 98 = .ok (.getfield 7, 3) := dX12_alarms_82_k.2.2.2.2.2.2.2.2.1
theorem dX12_alarms_101 : decode cX12_alarms 101 = .ok (.bipush 27, 2) := dX12_alarms_82_k.2.2.2.2.2.2.2.2.2.1
theorem dX12_alarms_103 : decode cX12_alarms 103 = .ok (.iaload, 1) := dX12_alarms_82_k.2.2.2.2.2.2.2.2.2.2.1
theorem dX12_alarms_104 : decode cX12_alarms 104 = .ok (.invokevirtual 297, 3) := dX12_alarms_82_k.2.2.2.2.2.2.2.2.2.2.2.1
theorem dX12_alarms_107 : decode cX12_alarms 107 = .ok (.ireturn, 1) := dX12_alarms_82_k.2.2.2.2.2.2.2.2.2.2.2.2
theorem dX12_replayed_0_k : decode cX12_replayed 0 = .ok (.aload_n 0, 1) ∧ decode cX12_replayed 1 = .ok (.iconst 0, 1) ∧ decode cX12_replayed 2 = .ok (.putfield 33, 3) ∧ decode cX12_replayed 5 = .ok (.iload_n 1, 1) ∧ decode cX12_replayed 6 = .ok (.bipush 8, 2) ∧ decode cX12_replayed 8 = .ok (.bipush 15, 2) ∧ decode cX12_replayed 10 = .ok (.invokestatic 59, 3) ∧ decode cX12_replayed 13 = .ok (.ifCond .eq 17, 3) ∧ decode cX12_replayed 16 = .ok (.aload_n 0, 1) ∧ decode cX12_replayed 17 = .ok (.iload_n 1, 1) ∧ decode cX12_replayed 18 = .ok (.aload_n 0, 1) ∧ decode cX12_replayed 19 = .ok (.getfield 7, 3) ∧ decode cX12_replayed 22 = .ok (.iconst 1, 1) ∧ decode cX12_replayed 23 = .ok (.iaload, 1) ∧ decode cX12_replayed 24 = .ok (.invokevirtual 300, 3) ∧ decode cX12_replayed 27 = .ok (.goto 4, 3) := by decide +kernel
theorem dX12_replayed_0 : decode cX12_replayed 0 = .ok (.aload_n 0, 1) := dX12_replayed_0_k.1
theorem dX12_replayed_1 : decode cX12_replayed 1 = .ok (.iconst 0, 1) := dX12_replayed_0_k.2.1
theorem dX12_replayed_2 : decode cX12_replayed 2 = .ok (.putfield 33, 3) := dX12_replayed_0_k.2.2.1
theorem dX12_replayed_5 : decode cX12_replayed 5 = .ok (.iload_n 1, 1) := dX12_replayed_0_k.2.2.2.1
theorem dX12_replayed_6 : decode cX12_replayed 6 = .ok (.bipush 8, 2) := dX12_replayed_0_k.2.2.2.2.1
theorem dX12_replayed_8 : decode cX12_replayed 8 = .ok (.bipush 15, 2) := dX12_replayed_0_k.2.2.2.2.2.1
theorem dX12_replayed_10 : decode cX12_replayed 10 = .ok (.invokestatic 59, 3) := dX12_replayed_0_k.2.2.2.2.2.2.1
theorem dX12_replayed_13 : decode cX12_replayed 13 = .ok (.ifCond .eq 17, 3) := dX12_replayed_0_k.2.2.2.2.2.2.2.1
theorem dX12_replayed_16 : decode cX12_replayed 16 = .ok (.aload_n 0, 1) := dX12_replayed_0_k.2.2.2.2.2.2.2.2.1
theorem dX12_replayed_17 : decode cX12_replayed 17 = .ok (.iload_n 1, 1) := dX12_replayed_0_k.2.2.2.2.2.2.2.2.2.1
theorem dX12_replayed_18 : decode cX12_replayed 18 = .ok (.aload_n 0, 1) := dX12_replayed_0_k.2.2.2.2.2.2.2.2.2.2.1
theorem dX12_replayed_19 : decode cX12_replayed 19 = .ok (.getfield 7, 3) := dX12_replayed_0_k.2.2.2.2.2.2.2.2.2.2.2.1
theorem dX12_replayed_22 : decode cX12_replayed 22 = .ok (.iconst 1, 1) := dX12_replayed_0_k.2.2.2.2.2.2.2.2.2.2.2.2.1
theorem dX12_replayed_23 : decode cX12_replayed 23 = .ok (.iaload, 1) := dX12_replayed_0_k.2.2.2.2.2.2.2.2.2.2.2.2.2.1
theorem dX12_replayed_24 : decode cX12_replayed 24 = .ok (.invokevirtual 300, 3) := dX12_replayed_0_k.2.2.2.2.2.2.2.2.2.2.2.2.2.2.1
theorem dX12_replayed_27 : decode cX12_replayed 27 = .ok (.goto 4, 3) := dX12_replayed_0_k.2.2.2.2.2.2.2.2.2.2.2.2.2.2.2
theorem dX12_replayed_30_k : decode cX12_replayed 30 = .ok (.iconst (-1), 1) ∧ decode cX12_replayed 31 = .ok (.ireturn, 1) := by decide +kernel
theorem dX12_replayed_30 : decode cX12_replayed 30 = .ok (.iconst (-1), 1) := dX12_replayed_30_k.1
theorem dX12_replayed_31 : decode cX12_replayed 31 = .ok (.ireturn, 1) := dX12_replayed_30_k.2
theorem dX12_fit_0_k : decode cX12_fit 0 = .ok (.aload_n 0, 1) ∧ decode cX12_fit 1 = .ok (.iconst 0, 1) ∧ decode cX12_fit 2 = .ok (.putfield 33, 3) ∧ decode cX12_fit 5 = .ok (.bipush 8, 2) ∧ decode cX12_fit 7 = .ok (.istore_n 1, 1) ∧ decode cX12_fit 8 = .ok (.iload_n 1, 1) ∧ decode cX12_fit 9 = .ok (.bipush 16, 2) ∧ decode cX12_fit 11 = .ok (.if_icmp .ge 25, 3) ∧ decode cX12_fit 14 = .ok (.aload_n 0, 1) ∧ decode cX12_fit 15 = .ok (.iload_n 1, 1) ∧ decode cX12_fit 16 = .ok (.aload_n 0, 1) ∧ decode cX12_fit 17 = .ok (.getfield 7, 3) ∧ decode cX12_fit 20 = .ok (.iconst 1, 1) ∧ decode cX12_fit 21 = .ok (.iaload, 1) ∧ decode cX12_fit 22 = .ok (.invokevirtual 300, 3) ∧ decode cX12_fit 25 = .ok (.ifCond .ne 5, 3) := by decide +kernel
theorem dX12_fit_0 : decode cX12_fit 0 = .ok (.aload_n 0, 1) := dX12_fit_0_k.1
theorem dX12_fit_1 : decode cX12_fit 1 = .ok (.iconst 0, 1) := dX12_fit_0_k.2.1
theorem dX12_fit_2 : decode cX12_fit 2 = .ok (.putfield 33, 3) := dX12_fit_0_k.2.2.1
theorem dX12_fit_5 : decode cX12_fit 5 = .ok (.bipush 8, 2) := dX12_fit_0_k.2.2.2.1
theorem dX12_fit_7 : decode cX12_fit 7 = .ok (.istore_n 1, 1) := dX12_fit_0_k.2.2.2.2.1
theorem dX12_fit_8 : decode cX12_fit 8 = .ok (.iload_n 1, 1) := dX12_fit_0_k.2.2.2.2.2.1
theorem dX12_fit_9 : decode cX12_fit 9 = .ok (.bipush 16, 2) := dX12_fit_0_k.2.2.2.2.2.2.1
theorem dX12_fit_11 : decode cX12_fit 11 = .ok (.if_icmp .ge 25, 3) := dX12_fit_0_k.2.2.2.2.2.2.2.1
theorem dX12_fit_14 : decode cX12_fit 14 = .ok (.aload_n 0, 1) := dX12_fit_0_k.2.2.2.2.2.2.2.2.1
theorem dX12_fit_15 : decode cX12_fit 15 = .ok (.iload_n 1, 1) := dX12_fit_0_k.2.2.2.2.2.2.2.2.2.1
theorem dX12_fit_16 : decode cX12_fit 16 = .ok (.aload_n 0, 1) := dX12_fit_0_k.2.2.2.2.2.2.2.2.2.2.1
theorem dX12_fit_17 : decode cX12_fit 17 = .ok (.getfield 7, 3) := dX12_fit_0_k.2.2.2.2.2.2.2.2.2.2.2.1
theorem dX12_fit_20 : decode cX12_fit 20 = .ok (.iconst 1, 1) := dX12_fit_0_k.2.2.2.2.2.2.2.2.2.2.2.2.1
theorem dX12_fit_21 : decode cX12_fit 21 = .ok (.iaload, 1) := dX12_fit_0_k.2.2.2.2.2.2.2.2.2.2.2.2.2.1
theorem dX12_fit_22 : decode cX12_fit 22 = .ok (.invokevirtual 300, 3) := dX12_fit_0_k.2.2.2.2.2.2.2.2.2.2.2.2.2.2.1
theorem dX12_fit_25 : decode cX12_fit 25 = .ok (.ifCond .ne 5, 3) := dX12_fit_0_k.2.2.2.2.2.2.2.2.2.2.2.2.2.2.2
theorem dX12_fit_28_k : decode cX12_fit 28 = .ok (.iload_n 1, 1) ∧ decode cX12_fit 29 = .ok (.ireturn, 1) ∧ decode cX12_fit 30 = .ok (.iinc 1 1, 3) ∧ decode cX12_fit 33 = .ok (.goto (-25), 3) ∧ decode cX12_fit 36 = .ok (.iconst (-1), 1) ∧ decode cX12_fit 37 = .ok (.ireturn, 1) := by decide +kernel
theorem dX12_fit_28 : decode cX12_fit 28 = .ok (.iload_n 1, 1) := dX12_fit_28_k.1
theorem dX12_fit_29 : decode cX12_fit 29 = .ok (.ireturn, 1) := dX12_fit_28_k.2.1
theorem dX12_fit_30 : decode cX12_fit 30 = .ok (.iinc 1 1, 3) := dX12_fit_28_k.2.2.1
theorem dX12_fit_33 : decode cX12_fit 33 = .ok (.goto (-25), 3) := dX12_fit_28_k.2.2.2.1
theorem dX12_fit_36 : decode cX12_fit 36 = .ok (.iconst (-1), 1) := dX12_fit_28_k.2.2.2.2.1
theorem dX12_fit_37 : decode cX12_fit 37 = .ok (.ireturn, 1) := dX12_fit_28_k.2.2.2.2.2
theorem dX12_keen_0_k : decode cX12_keen 0 = .ok (.aload_n 0, 1) ∧ decode cX12_keen 1 = .ok (.iconst 0, 1) ∧ decode cX12_keen 2 = .ok (.putfield 33, 3) ∧ decode cX12_keen 5 = .ok (.iconst 1, 1) ∧ decode cX12_keen 6 = .ok (.istore_n 1, 1) ∧ decode cX12_keen 7 = .ok (.iload_n 1, 1) ∧ decode cX12_keen 8 = .ok (.bipush 40, 2) ∧ decode cX12_keen 10 = .ok (.if_icmp .gt 25, 3) ∧ decode cX12_keen 13 = .ok (.aload_n 0, 1) ∧ decode cX12_keen 14 = .ok (.aload_n 0, 1) ∧ decode cX12_keen 15 = .ok (.getfield 7, 3) ∧ decode cX12_keen 18 = .ok (.iconst 0, 1) ∧ decode cX12_keen 19 = .ok (.iaload, 1) ∧ decode cX12_keen 20 = .ok (.iload_n 1, 1) ∧ decode cX12_keen 21 = .ok (.invokevirtual 300, 3) ∧ decode cX12_keen 24 = .ok (.ifCond .ne 5, 3) := by decide +kernel
theorem dX12_keen_0 : decode cX12_keen 0 = .ok (.aload_n 0, 1) := dX12_keen_0_k.1
theorem dX12_keen_1 : decode cX12_keen 1 = .ok (.iconst 0, 1) := dX12_keen_0_k.2.1
theorem dX12_keen_2 : decode cX12_keen 2 = .ok (.putfield 33, 3) := dX12_keen_0_k.2.2.1
theorem dX12_keen_5 : decode cX12_keen 5 = .ok (.iconst 1, 1) := dX12_keen_0_k.2.2.2.1
theorem dX12_keen_6 : decode cX12_keen 6 = .ok (.istore_n 1, 1) := dX12_keen_0_k.2.2.2.2.1
theorem dX12_keen_7 : decode cX12_keen 7 = .ok (.iload_n 1, 1) := dX12_keen_0_k.2.2.2.2.2.1
theorem dX12_keen_8 : decode cX12_keen 8 = .ok (.bipush 40, 2) := dX12_keen_0_k.2.2.2.2.2.2.1
theorem dX12_keen_10 : decode cX12_keen 10 = .ok (.if_icmp .gt 25, 3) := dX12_keen_0_k.2.2.2.2.2.2.2.1
theorem dX12_keen_13 : decode cX12_keen 13 = .ok (.aload_n 0, 1) := dX12_keen_0_k.2.2.2.2.2.2.2.2.1
theorem dX12_keen_14 : decode cX12_keen 14 = .ok (.aload_n 0, 1) := dX12_keen_0_k.2.2.2.2.2.2.2.2.2.1
theorem dX12_keen_15 : decode cX12_keen 15 = .ok (.getfield 7, 3) := dX12_keen_0_k.2.2.2.2.2.2.2.2.2.2.1
theorem dX12_keen_18 : decode cX12_keen 18 = .ok (.iconst 0, 1) := dX12_keen_0_k.2.2.2.2.2.2.2.2.2.2.2.1
theorem dX12_keen_19 : decode cX12_keen 19 = .ok (.iaload, 1) := dX12_keen_0_k.2.2.2.2.2.2.2.2.2.2.2.2.1
theorem dX12_keen_20 : decode cX12_keen 20 = .ok (.iload_n 1, 1) := dX12_keen_0_k.2.2.2.2.2.2.2.2.2.2.2.2.2.1
theorem dX12_keen_21 : decode cX12_keen 21 = .ok (.invokevirtual 300, 3) := dX12_keen_0_k.2.2.2.2.2.2.2.2.2.2.2.2.2.2.1
theorem dX12_keen_24 : decode cX12_keen 24 = .ok (.ifCond .ne 5, 3) := dX12_keen_0_k.2.2.2.2.2.2.2.2.2.2.2.2.2.2.2
theorem dX12_keen_27_k : decode cX12_keen 27 = .ok (.iload_n 1, 1) ∧ decode cX12_keen 28 = .ok (.ireturn, 1) ∧ decode cX12_keen 29 = .ok (.iinc 1 1, 3) ∧ decode cX12_keen 32 = .ok (.goto (-25), 3) ∧ decode cX12_keen 35 = .ok (.iconst (-1), 1) ∧ decode cX12_keen 36 = .ok (.ireturn, 1) := by decide +kernel
theorem dX12_keen_27 : decode cX12_keen 27 = .ok (.iload_n 1, 1) := dX12_keen_27_k.1
theorem dX12_keen_28 : decode cX12_keen 28 = .ok (.ireturn, 1) := dX12_keen_27_k.2.1
theorem dX12_keen_29 : decode cX12_keen 29 = .ok (.iinc 1 1, 3) := dX12_keen_27_k.2.2.1
theorem dX12_keen_32 : decode cX12_keen 32 = .ok (.goto (-25), 3) := dX12_keen_27_k.2.2.2.1
theorem dX12_keen_35 : decode cX12_keen 35 = .ok (.iconst (-1), 1) := dX12_keen_27_k.2.2.2.2.1
theorem dX12_keen_36 : decode cX12_keen 36 = .ok (.ireturn, 1) := dX12_keen_27_k.2.2.2.2.2
theorem dX12_copiesText_0_k : decode cX12_copiesText 0 = .ok (.aload_n 0, 1) ∧ decode cX12_copiesText 1 = .ok (.iload_n 1, 1) ∧ decode cX12_copiesText 2 = .ok (.iload_n 2, 1) ∧ decode cX12_copiesText 3 = .ok (.invokevirtual 294, 3) ∧ decode cX12_copiesText 6 = .ok (.iconst 0, 1) ∧ decode cX12_copiesText 7 = .ok (.istore_n 3, 1) ∧ decode cX12_copiesText 8 = .ok (.iload_n 3, 1) ∧ decode cX12_copiesText 9 = .ok (.sipush 300, 3) ∧ decode cX12_copiesText 12 = .ok (.if_icmp .ge 33, 3) ∧ decode cX12_copiesText 15 = .ok (.aload_n 0, 1) ∧ decode cX12_copiesText 16 = .ok (.getfield 13, 3) ∧ decode cX12_copiesText 19 = .ok (.sipush 300, 3) ∧ decode cX12_copiesText 22 = .ok (.iload_n 2, 1) ∧ decode cX12_copiesText 23 = .ok (.imul, 1) ∧ decode cX12_copiesText 24 = .ok (.iload_n 3, 1) ∧ decode cX12_copiesText 25 = .ok (.iadd, 1) := by decide +kernel
theorem dX12_copiesText_0 : decode cX12_copiesText 0 = .ok (.aload_n 0, 1) := dX12_copiesText_0_k.1
theorem dX12_copiesText_1 : decode cX12_copiesText 1 = .ok (.iload_n 1, 1) := dX12_copiesText_0_k.2.1
theorem dX12_copiesText_2 : decode cX12_copiesText 2 = .ok (.iload_n 2, 1) := dX12_copiesText_0_k.2.2.1
theorem dX12_copiesText_3 : decode cX12_copiesText 3 = .ok (.invokevirtual 294, 3) := dX12_copiesText_0_k.2.2.2.1
theorem dX12_copiesText_6 : decode cX12_copiesText 6 = .ok (.iconst 0, 1) := dX12_copiesText_0_k.2.2.2.2.1
theorem dX12_copiesText_7 : decode cX12_copiesText 7 = .ok (.istore_n 3, 1) := dX12_copiesText_0_k.2.2.2.2.2.1
theorem dX12_copiesText_8 : decode cX12_copiesText 8 = .ok (.iload_n 3, 1) := dX12_copiesText_0_k.2.2.2.2.2.2.1
theorem dX12_copiesText_9 : decode cX12_copiesText 9 = .ok (.sipush 300, 3) := dX12_copiesText_0_k.2.2.2.2.2.2.2.1
theorem dX12_copiesText_12 : decode cX12_copiesText 12 = .ok (.if_icmp .ge 33, 3) := dX12_copiesText_0_k.2.2.2.2.2.2.2.2.1
theorem dX12_copiesText_15 : decode cX12_copiesText 15 = .ok (.aload_n 0, 1) := dX12_copiesText_0_k.2.2.2.2.2.2.2.2.2.1
theorem dX12_copiesText_16 : decode cX12_copiesText 16 = .ok (.getfield 13, 3) := dX12_copiesText_0_k.2.2.2.2.2.2.2.2.2.2.1
theorem dX12_copiesText_19 : decode cX12_copiesText 19 = .ok (.sipush 300, 3) := dX12_copiesText_0_k.2.2.2.2.2.2.2.2.2.2.2.1
theorem dX12_copiesText_22 : decode cX12_copiesText 22 = .ok (.iload_n 2, 1) := dX12_copiesText_0_k.2.2.2.2.2.2.2.2.2.2.2.2.1
theorem dX12_copiesText_23 : decode cX12_copiesText 23 = .ok (.imul, 1) := dX12_copiesText_0_k.2.2.2.2.2.2.2.2.2.2.2.2.2.1
theorem dX12_copiesText_24 : decode cX12_copiesText 24 = .ok (.iload_n 3, 1) := dX12_copiesText_0_k.2.2.2.2.2.2.2.2.2.2.2.2.2.2.1
theorem dX12_copiesText_25 : decode cX12_copiesText 25 = .ok (.iadd, 1) := dX12_copiesText_0_k.2.2.2.2.2.2.2.2.2.2.2.2.2.2.2
theorem dX12_copiesText_26_k : decode cX12_copiesText 26 = .ok (.aload_n 0, 1) ∧ decode cX12_copiesText 27 = .ok (.getfield 13, 3) ∧ decode cX12_copiesText 30 = .ok (.sipush 300, 3) ∧ decode cX12_copiesText 33 = .ok (.iload_n 1, 1) ∧ decode cX12_copiesText 34 = .ok (.imul, 1) ∧ decode cX12_copiesText 35 = .ok (.iload_n 3, 1) ∧ decode cX12_copiesText 36 = .ok (.iadd, 1) ∧ decode cX12_copiesText 37 = .ok (.baload, 1) ∧ decode cX12_copiesText 38 = .ok (.bastore, 1) ∧ decode cX12_copiesText 39 = .ok (.iinc 3 1, 3) ∧ decode cX12_copiesText 42 = .ok (.goto (-34), 3) ∧ decode cX12_copiesText 45 = .ok (.return_, 1) := by decide +kernel
theorem dX12_copiesText_26 : decode cX12_copiesText 26 = .ok (.aload_n 0, 1) := dX12_copiesText_26_k.1
theorem dX12_copiesText_27 : decode cX12_copiesText 27 = .ok (.getfield 13, 3) := dX12_copiesText_26_k.2.1
theorem dX12_copiesText_30 : decode cX12_copiesText 30 = .ok (.sipush 300, 3) := dX12_copiesText_26_k.2.2.1
theorem dX12_copiesText_33 : decode cX12_copiesText 33 = .ok (.iload_n 1, 1) := dX12_copiesText_26_k.2.2.2.1
theorem dX12_copiesText_34 : decode cX12_copiesText 34 = .ok (.imul, 1) := dX12_copiesText_26_k.2.2.2.2.1
theorem dX12_copiesText_35 : decode cX12_copiesText 35 = .ok (.iload_n 3, 1) := dX12_copiesText_26_k.2.2.2.2.2.1
theorem dX12_copiesText_36 : decode cX12_copiesText 36 = .ok (.iadd, 1) := dX12_copiesText_26_k.2.2.2.2.2.2.1
theorem dX12_copiesText_37 : decode cX12_copiesText 37 = .ok (.baload, 1) := dX12_copiesText_26_k.2.2.2.2.2.2.2.1
theorem dX12_copiesText_38 : decode cX12_copiesText 38 = .ok (.bastore, 1) := dX12_copiesText_26_k.2.2.2.2.2.2.2.2.1
theorem dX12_copiesText_39 : decode cX12_copiesText 39 = .ok (.iinc 3 1, 3) := dX12_copiesText_26_k.2.2.2.2.2.2.2.2.2.1
theorem dX12_copiesText_42 : decode cX12_copiesText 42 = .ok (.goto (-34), 3) := dX12_copiesText_26_k.2.2.2.2.2.2.2.2.2.2.1
theorem dX12_copiesText_45 : decode cX12_copiesText 45 = .ok (.return_, 1) := dX12_copiesText_26_k.2.2.2.2.2.2.2.2.2.2.2
theorem dX12_image_0_k : decode cX12_image 0 = .ok (.aload_n 0, 1) ∧ decode cX12_image 1 = .ok (.iconst 0, 1) ∧ decode cX12_image 2 = .ok (.putfield 33, 3) ∧ decode cX12_image 5 = .ok (.iload_n 1, 1) ∧ decode cX12_image 6 = .ok (.iconst 0, 1) ∧ decode cX12_image 7 = .ok (.iconst 2, 1) ∧ decode cX12_image 8 = .ok (.invokestatic 59, 3) ∧ decode cX12_image 11 = .ok (.ifCond .ne 5, 3) ∧ decode cX12_image 14 = .ok (.iconst 0, 1) ∧ decode cX12_image 15 = .ok (.ireturn, 1) ∧ decode cX12_image 16 = .ok (.aload_n 0, 1) ∧ decode cX12_image 17 = .ok (.iconst 0, 1) ∧ decode cX12_image 18 = .ok (.iload_n 1, 1) ∧ decode cX12_image 19 = .ok (.iconst 1, 1) ∧ decode cX12_image 20 = .ok (.iadd, 1) ∧ decode cX12_image 21 = .ok (.invokevirtual 303, 3) := by decide +kernel
theorem dX12_image_0 : decode cX12_image 0 = .ok (.aload_n 0, 1) := dX12_image_0_k.1
theorem dX12_image_1 : decode cX12_image 1 = .ok (.iconst 0, 1) := dX12_image_0_k.2.1
theorem dX12_image_2 : decode cX12_image 2 = .ok (.putfield 33, 3) := dX12_image_0_k.2.2.1
theorem dX12_image_5 : decode cX12_image 5 = .ok (.iload_n 1, 1) := dX12_image_0_k.2.2.2.1
theorem dX12_image_6 : decode cX12_image 6 = .ok (.iconst 0, 1) := dX12_image_0_k.2.2.2.2.1
theorem dX12_image_7 : decode cX12_image 7 = .ok (.iconst 2, 1) := dX12_image_0_k.2.2.2.2.2.1
theorem dX12_image_8 : decode cX12_image 8 = .ok (.invokestatic 59, 3) := dX12_image_0_k.2.2.2.2.2.2.1
theorem dX12_image_11 : decode cX12_image 11 = .ok (.ifCond .ne 5, 3) := dX12_image_0_k.2.2.2.2.2.2.2.1
theorem dX12_image_14 : decode cX12_image 14 = .ok (.iconst 0, 1) := dX12_image_0_k.2.2.2.2.2.2.2.2.1
theorem dX12_image_15 : decode cX12_image 15 = .ok (.ireturn, 1) := dX12_image_0_k.2.2.2.2.2.2.2.2.2.1
theorem dX12_image_16 : decode cX12_image 16 = .ok (.aload_n 0, 1) := dX12_image_0_k.2.2.2.2.2.2.2.2.2.2.1
theorem dX12_image_17 : decode cX12_image 17 = .ok (.iconst 0, 1) := dX12_image_0_k.2.2.2.2.2.2.2.2.2.2.2.1
theorem dX12_image_18 : decode cX12_image 18 = .ok (.iload_n 1, 1) := dX12_image_0_k.2.2.2.2.2.2.2.2.2.2.2.2.1
theorem dX12_image_19 : decode cX12_image 19 = .ok (.iconst 1, 1) := dX12_image_0_k.2.2.2.2.2.2.2.2.2.2.2.2.2.1
theorem dX12_image_20 : decode cX12_image 20 = .ok (.iadd, 1) := dX12_image_0_k.2.2.2.2.2.2.2.2.2.2.2.2.2.2.1
theorem dX12_image_21 : decode cX12_image 21 = .ok (.invokevirtual 303, 3) := dX12_image_0_k.2.2.2.2.2.2.2.2.2.2.2.2.2.2.2
theorem dX12_image_24_k : decode cX12_image 24 = .ok (.aload_n 0, 1) ∧ decode cX12_image 25 = .ok (.getfield 17, 3) ∧ decode cX12_image 28 = .ok (.iload_n 1, 1) ∧ decode cX12_image 29 = .ok (.iconst 1, 1) ∧ decode cX12_image 30 = .ok (.bastore, 1) ∧ decode cX12_image 31 = .ok (.iconst 1, 1) ∧ decode cX12_image 32 = .ok (.ireturn, 1) := by decide +kernel
theorem dX12_image_24 : decode cX12_image 24 = .ok (.aload_n 0, 1) := dX12_image_24_k.1
theorem dX12_image_25 : decode cX12_image 25 = .ok (.getfield 17, 3) := dX12_image_24_k.2.1
theorem dX12_image_28 : decode cX12_image 28 = .ok (.iload_n 1, 1) := dX12_image_24_k.2.2.1
theorem dX12_image_29 : decode cX12_image 29 = .ok (.iconst 1, 1) := dX12_image_24_k.2.2.2.1
theorem dX12_image_30 : decode cX12_image 30 = .ok (.bastore, 1) := dX12_image_24_k.2.2.2.2.1
theorem dX12_image_31 : decode cX12_image 31 = .ok (.iconst 1, 1) := dX12_image_24_k.2.2.2.2.2.1
theorem dX12_image_32 : decode cX12_image 32 = .ok (.ireturn, 1) := dX12_image_24_k.2.2.2.2.2.2
theorem dX12_again_0_k : decode cX12_again 0 = .ok (.aload_n 0, 1) ∧ decode cX12_again 1 = .ok (.iconst 0, 1) ∧ decode cX12_again 2 = .ok (.putfield 33, 3) ∧ decode cX12_again 5 = .ok (.iload_n 1, 1) ∧ decode cX12_again 6 = .ok (.iconst 0, 1) ∧ decode cX12_again 7 = .ok (.iconst 2, 1) ∧ decode cX12_again 8 = .ok (.invokestatic 59, 3) ∧ decode cX12_again 11 = .ok (.ifCond .eq 12, 3) ∧ decode cX12_again 14 = .ok (.aload_n 0, 1) ∧ decode cX12_again 15 = .ok (.getfield 17, 3) ∧ decode cX12_again 18 = .ok (.iload_n 1, 1) ∧ decode cX12_again 19 = .ok (.baload, 1) ∧ decode cX12_again 20 = .ok (.ifCond .ne 5, 3) ∧ decode cX12_again 23 = .ok (.iconst 0, 1) ∧ decode cX12_again 24 = .ok (.ireturn, 1) ∧ decode cX12_again 25 = .ok (.aload_n 0, 1) := by decide +kernel
theorem dX12_again_0 : decode cX12_again 0 = .ok (.aload_n 0, 1) := dX12_again_0_k.1
theorem dX12_again_1 : decode cX12_again 1 = .ok (.iconst 0, 1) := dX12_again_0_k.2.1
theorem dX12_again_2 : decode cX12_again 2 = .ok (.putfield 33, 3) := dX12_again_0_k.2.2.1
theorem dX12_again_5 : decode cX12_again 5 = .ok (.iload_n 1, 1) := dX12_again_0_k.2.2.2.1
theorem dX12_again_6 : decode cX12_again 6 = .ok (.iconst 0, 1) := dX12_again_0_k.2.2.2.2.1
theorem dX12_again_7 : decode cX12_again 7 = .ok (.iconst 2, 1) := dX12_again_0_k.2.2.2.2.2.1
theorem dX12_again_8 : decode cX12_again 8 = .ok (.invokestatic 59, 3) := dX12_again_0_k.2.2.2.2.2.2.1
theorem dX12_again_11 : decode cX12_again 11 = .ok (.ifCond .eq 12, 3) := dX12_again_0_k.2.2.2.2.2.2.2.1
theorem dX12_again_14 : decode cX12_again 14 = .ok (.aload_n 0, 1) := dX12_again_0_k.2.2.2.2.2.2.2.2.1
theorem dX12_again_15 : decode cX12_again 15 = .ok (.getfield 17, 3) := dX12_again_0_k.2.2.2.2.2.2.2.2.2.1
theorem dX12_again_18 : decode cX12_again 18 = .ok (.iload_n 1, 1) := dX12_again_0_k.2.2.2.2.2.2.2.2.2.2.1
theorem dX12_again_19 : decode cX12_again 19 = .ok (.baload, 1) := dX12_again_0_k.2.2.2.2.2.2.2.2.2.2.2.1
theorem dX12_again_20 : decode cX12_again 20 = .ok (.ifCond .ne 5, 3) := dX12_again_0_k.2.2.2.2.2.2.2.2.2.2.2.2.1
theorem dX12_again_23 : decode cX12_again 23 = .ok (.iconst 0, 1) := dX12_again_0_k.2.2.2.2.2.2.2.2.2.2.2.2.2.1
theorem dX12_again_24 : decode cX12_again 24 = .ok (.ireturn, 1) := dX12_again_0_k.2.2.2.2.2.2.2.2.2.2.2.2.2.2.1
theorem dX12_again_25 : decode cX12_again 25 = .ok (.aload_n 0, 1) := dX12_again_0_k.2.2.2.2.2.2.2.2.2.2.2.2.2.2.2
theorem dX12_again_26_k : decode cX12_again 26 = .ok (.iload_n 1, 1) ∧ decode cX12_again 27 = .ok (.iconst 1, 1) ∧ decode cX12_again 28 = .ok (.iadd, 1) ∧ decode cX12_again 29 = .ok (.iconst 0, 1) ∧ decode cX12_again 30 = .ok (.invokevirtual 303, 3) ∧ decode cX12_again 33 = .ok (.iconst 1, 1) ∧ decode cX12_again 34 = .ok (.ireturn, 1) := by decide +kernel
theorem dX12_again_26 : decode cX12_again 26 = .ok (.iload_n 1, 1) := dX12_again_26_k.1
theorem dX12_again_27 : decode cX12_again 27 = .ok (.iconst 1, 1) := dX12_again_26_k.2.1
theorem dX12_again_28 : decode cX12_again 28 = .ok (.iadd, 1) := dX12_again_26_k.2.2.1
theorem dX12_again_29 : decode cX12_again 29 = .ok (.iconst 0, 1) := dX12_again_26_k.2.2.2.1
theorem dX12_again_30 : decode cX12_again 30 = .ok (.invokevirtual 303, 3) := dX12_again_26_k.2.2.2.2.1
theorem dX12_again_33 : decode cX12_again 33 = .ok (.iconst 1, 1) := dX12_again_26_k.2.2.2.2.2.1
theorem dX12_again_34 : decode cX12_again 34 = .ok (.ireturn, 1) := dX12_again_26_k.2.2.2.2.2.2
