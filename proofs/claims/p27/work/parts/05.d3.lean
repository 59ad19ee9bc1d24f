theorem dX3_init_0 : decode cX3_init 0 = .ok (.aload_n 0, 1) := by decide +kernel
theorem dX3_init_1 : decode cX3_init 1 = .ok (.invokespecial 1, 3) := by decide +kernel
theorem dX3_init_4 : decode cX3_init 4 = .ok (.aload_n 0, 1) := by decide +kernel
theorem dX3_init_5 : decode cX3_init 5 = .ok (.new 7, 3) := by decide +kernel
theorem dX3_init_8 : decode cX3_init 8 = .ok (.dup, 1) := by decide +kernel
theorem dX3_init_9 : decode cX3_init 9 = .ok (.invokespecial 9, 3) := by decide +kernel
theorem dX3_init_12 : decode cX3_init 12 = .ok (.putfield 10, 3) := by decide +kernel
theorem dX3_init_15 : decode cX3_init 15 = .ok (.aload_n 0, 1) := by decide +kernel
theorem dX3_init_16 : decode cX3_init 16 = .ok (.new 7, 3) := by decide +kernel
theorem dX3_init_19 : decode cX3_init 19 = .ok (.dup, 1) := by decide +kernel
theorem dX3_init_20 : decode cX3_init 20 = .ok (.invokespecial 9, 3) := by decide +kernel
theorem dX3_init_23 : decode cX3_init 23 = .ok (.putfield 16, 3) := by decide +kernel
theorem dX3_init_26 : decode cX3_init 26 = .ok (.aload_n 0, 1) := by decide +kernel
theorem dX3_init_27 : decode cX3_init 27 = .ok (.iconst 3, 1) := by decide +kernel
theorem dX3_init_28 : decode cX3_init 28 = .ok (.newarray .int, 2) := by decide +kernel
theorem dX3_init_30 : decode cX3_init 30 = .ok (.putfield 19, 3) := by decide +kernel
theorem dX3_init_33 : decode cX3_init 33 = .ok (.aload_n 0, 1) := by decide +kernel
theorem dX3_init_34 : decode cX3_init 34 = .ok (.iconst 4, 1) := by decide +kernel
theorem dX3_init_35 : decode cX3_init 35 = .ok (.newarray .int, 2) := by decide +kernel
theorem dX3_init_37 : decode cX3_init 37 = .ok (.putfield 23, 3) := by decide +kernel
theorem dX3_init_40 : decode cX3_init 40 = .ok (.aload_n 0, 1) := by decide +kernel
theorem dX3_init_41 : decode cX3_init 41 = .ok (.bipush 8, 2) := by decide +kernel
theorem dX3_init_43 : decode cX3_init 43 = .ok (.newarray .int, 2) := by decide +kernel
theorem dX3_init_45 : decode cX3_init 45 = .ok (.putfield 26, 3) := by decide +kernel
theorem dX3_init_48 : decode cX3_init 48 = .ok (.aload_n 0, 1) := by decide +kernel
theorem dX3_init_49 : decode cX3_init 49 = .ok (.new 29, 3) := by decide +kernel
theorem dX3_init_52 : decode cX3_init 52 = .ok (.dup, 1) := by decide +kernel
theorem dX3_init_53 : decode cX3_init 53 = .ok (.invokespecial 31, 3) := by decide +kernel
theorem dX3_init_56 : decode cX3_init 56 = .ok (.putfield 32, 3) := by decide +kernel
theorem dX3_init_59 : decode cX3_init 59 = .ok (.aload_n 0, 1) := by decide +kernel
theorem dX3_init_60 : decode cX3_init 60 = .ok (.new 36, 3) := by decide +kernel
theorem dX3_init_63 : decode cX3_init 63 = .ok (.dup, 1) := by decide +kernel
theorem dX3_init_64 : decode cX3_init 64 = .ok (.invokespecial 38, 3) := by decide +kernel
theorem dX3_init_67 : decode cX3_init 67 = .ok (.putfield 39, 3) := by decide +kernel
theorem dX3_init_70 : decode cX3_init 70 = .ok (.return_, 1) := by decide +kernel
theorem dX3_ask_0 : decode cX3_ask 0 = .ok (.iload_n 1, 1) := by decide +kernel
theorem dX3_ask_1 : decode cX3_ask 1 = .ok (.invokestatic 43, 3) := by decide +kernel
theorem dX3_ask_4 : decode cX3_ask 4 = .ok (.aload_n 0, 1) := by decide +kernel
theorem dX3_ask_5 : decode cX3_ask 5 = .ok (.getfield 10, 3) := by decide +kernel
theorem dX3_ask_8 : decode cX3_ask 8 = .ok (.iload_n 1, 1) := by decide +kernel
theorem dX3_ask_9 : decode cX3_ask 9 = .ok (.invokevirtual 47, 3) := by decide +kernel
theorem dX3_ask_12 : decode cX3_ask 12 = .ok (.ifCond .ne 13, 3) := by decide +kernel
theorem dX3_ask_15 : decode cX3_ask 15 = .ok (.new 51, 3) := by decide +kernel
theorem dX3_ask_18 : decode cX3_ask 18 = .ok (.dup, 1) := by decide +kernel
theorem dX3_ask_19 : decode cX3_ask 19 = .ok (.ldc 53, 2) := by decide +kernel
theorem dX3_ask_21 : decode cX3_ask 21 = .ok (.invokespecial 55, 3) := by decide +kernel
theorem dX3_ask_24 : decode cX3_ask 24 = .ok (.athrow, 1) := by decide +kernel
theorem dX3_ask_25 : decode cX3_ask 25 = .ok (.aload_n 0, 1) := by decide +kernel
theorem dX3_ask_26 : decode cX3_ask 26 = .ok (.getfield 32, 3) := by decide +kernel
theorem dX3_ask_29 : decode cX3_ask 29 = .ok (.aload_n 0, 1) := by decide +kernel
theorem dX3_ask_30 : decode cX3_ask 30 = .ok (.getfield 10, 3) := by decide +kernel
theorem dX3_ask_33 : decode cX3_ask 33 = .ok (.invokevirtual 58, 3) := by decide +kernel
theorem dX3_ask_36 : decode cX3_ask 36 = .ok (.aload_n 0, 1) := by decide +kernel
theorem dX3_ask_37 : decode cX3_ask 37 = .ok (.getfield 10, 3) := by decide +kernel
theorem dX3_ask_40 : decode cX3_ask 40 = .ok (.iload_n 1, 1) := by decide +kernel
theorem dX3_ask_41 : decode cX3_ask 41 = .ok (.invokevirtual 62, 3) := by decide +kernel
theorem dX3_ask_44 : decode cX3_ask 44 = .ok (.ireturn, 1) := by decide +kernel
theorem dX3_give_0 : decode cX3_give 0 = .ok (.iload_n 1, 1) := by decide +kernel
theorem dX3_give_1 : decode cX3_give 1 = .ok (.invokestatic 66, 3) := by decide +kernel
theorem dX3_give_4 : decode cX3_give 4 = .ok (.aload_n 0, 1) := by decide +kernel
theorem dX3_give_5 : decode cX3_give 5 = .ok (.getfield 10, 3) := by decide +kernel
theorem dX3_give_8 : decode cX3_give 8 = .ok (.iload_n 1, 1) := by decide +kernel
theorem dX3_give_9 : decode cX3_give 9 = .ok (.invokevirtual 69, 3) := by decide +kernel
theorem dX3_give_12 : decode cX3_give 12 = .ok (.ifCond .ne 13, 3) := by decide +kernel
theorem dX3_give_15 : decode cX3_give 15 = .ok (.new 51, 3) := by decide +kernel
theorem dX3_give_18 : decode cX3_give 18 = .ok (.dup, 1) := by decide +kernel
theorem dX3_give_19 : decode cX3_give 19 = .ok (.ldc 72, 2) := by decide +kernel
theorem dX3_give_21 : decode cX3_give 21 = .ok (.invokespecial 55, 3) := by decide +kernel
theorem dX3_give_24 : decode cX3_give 24 = .ok (.athrow, 1) := by decide +kernel
theorem dX3_give_25 : decode cX3_give 25 = .ok (.aload_n 0, 1) := by decide +kernel
theorem dX3_give_26 : decode cX3_give 26 = .ok (.getfield 32, 3) := by decide +kernel
theorem dX3_give_29 : decode cX3_give 29 = .ok (.aload_n 0, 1) := by decide +kernel
theorem dX3_give_30 : decode cX3_give 30 = .ok (.getfield 10, 3) := by decide +kernel
theorem dX3_give_33 : decode cX3_give 33 = .ok (.invokevirtual 58, 3) := by decide +kernel
theorem dX3_give_36 : decode cX3_give 36 = .ok (.aload_n 0, 1) := by decide +kernel
theorem dX3_give_37 : decode cX3_give 37 = .ok (.getfield 10, 3) := by decide +kernel
theorem dX3_give_40 : decode cX3_give 40 = .ok (.iload_n 1, 1) := by decide +kernel
theorem dX3_give_41 : decode cX3_give 41 = .ok (.invokevirtual 74, 3) := by decide +kernel
theorem dX3_give_44 : decode cX3_give 44 = .ok (.aload_n 0, 1) := by decide +kernel
theorem dX3_give_45 : decode cX3_give 45 = .ok (.getfield 10, 3) := by decide +kernel
theorem dX3_give_48 : decode cX3_give 48 = .ok (.iload_n 1, 1) := by decide +kernel
theorem dX3_give_49 : decode cX3_give 49 = .ok (.invokevirtual 77, 3) := by decide +kernel
theorem dX3_give_52 : decode cX3_give 52 = .ok (.ireturn, 1) := by decide +kernel
theorem dX3_giveUp_0 : decode cX3_giveUp 0 = .ok (.iload_n 1, 1) := by decide +kernel
theorem dX3_giveUp_1 : decode cX3_giveUp 1 = .ok (.invokestatic 43, 3) := by decide +kernel
theorem dX3_giveUp_4 : decode cX3_giveUp 4 = .ok (.aload_n 0, 1) := by decide +kernel
theorem dX3_giveUp_5 : decode cX3_giveUp 5 = .ok (.getfield 10, 3) := by decide +kernel
theorem dX3_giveUp_8 : decode cX3_giveUp 8 = .ok (.iload_n 1, 1) := by decide +kernel
theorem dX3_giveUp_9 : decode cX3_giveUp 9 = .ok (.invokevirtual 80, 3) := by decide +kernel
theorem dX3_giveUp_12 : decode cX3_giveUp 12 = .ok (.iconst (-1), 1) := by decide +kernel
theorem dX3_giveUp_13 : decode cX3_giveUp 13 = .ok (.if_icmp .ne 13, 3) := by decide +kernel
theorem dX3_giveUp_16 : decode cX3_giveUp 16 = .ok (.new 51, 3) := by decide +kernel
theorem dX3_giveUp_19 : decode cX3_giveUp 19 = .ok (.dup, 1) := by decide +kernel
theorem dX3_giveUp_20 : decode cX3_giveUp 20 = .ok (.ldc 83, 2) := by decide +kernel
theorem dX3_giveUp_22 : decode cX3_giveUp 22 = .ok (.invokespecial 55, 3) := by decide +kernel
theorem dX3_giveUp_25 : decode cX3_giveUp 25 = .ok (.athrow, 1) := by decide +kernel
theorem dX3_giveUp_26 : decode cX3_giveUp 26 = .ok (.aload_n 0, 1) := by decide +kernel
theorem dX3_giveUp_27 : decode cX3_giveUp 27 = .ok (.getfield 32, 3) := by decide +kernel
theorem dX3_giveUp_30 : decode cX3_giveUp 30 = .ok (.aload_n 0, 1) := by decide +kernel
theorem dX3_giveUp_31 : decode cX3_giveUp 31 = .ok (.getfield 10, 3) := by decide +kernel
theorem dX3_giveUp_34 : decode cX3_giveUp 34 = .ok (.invokevirtual 58, 3) := by decide +kernel
theorem dX3_giveUp_37 : decode cX3_giveUp 37 = .ok (.aload_n 0, 1) := by decide +kernel
theorem dX3_giveUp_38 : decode cX3_giveUp 38 = .ok (.getfield 10, 3) := by decide +kernel
theorem dX3_giveUp_41 : decode cX3_giveUp 41 = .ok (.iload_n 1, 1) := by decide +kernel
theorem dX3_giveUp_42 : decode cX3_giveUp 42 = .ok (.invokevirtual 85, 3) := by decide +kernel
theorem dX3_giveUp_45 : decode cX3_giveUp 45 = .ok (.istore_n 2, 1) := by decide +kernel
theorem dX3_giveUp_46 : decode cX3_giveUp 46 = .ok (.aload_n 0, 1) := by decide +kernel
theorem dX3_giveUp_47 : decode cX3_giveUp 47 = .ok (.getfield 10, 3) := by decide +kernel
theorem dX3_giveUp_50 : decode cX3_giveUp 50 = .ok (.iload_n 1, 1) := by decide +kernel
theorem dX3_giveUp_51 : decode cX3_giveUp 51 = .ok (.invokevirtual 88, 3) := by decide +kernel
theorem dX3_giveUp_54 : decode cX3_giveUp 54 = .ok (.iload_n 2, 1) := by decide +kernel
theorem dX3_giveUp_55 : decode cX3_giveUp 55 = .ok (.ireturn, 1) := by decide +kernel
theorem dX3_appear_0 : decode cX3_appear 0 = .ok (.iload_n 1, 1) := by decide +kernel
theorem dX3_appear_1 : decode cX3_appear 1 = .ok (.invokestatic 43, 3) := by decide +kernel
theorem dX3_appear_4 : decode cX3_appear 4 = .ok (.aload_n 0, 1) := by decide +kernel
theorem dX3_appear_5 : decode cX3_appear 5 = .ok (.getfield 10, 3) := by decide +kernel
theorem dX3_appear_8 : decode cX3_appear 8 = .ok (.iload_n 1, 1) := by decide +kernel
theorem dX3_appear_9 : decode cX3_appear 9 = .ok (.invokevirtual 91, 3) := by decide +kernel
theorem dX3_appear_12 : decode cX3_appear 12 = .ok (.iload_n 2, 1) := by decide +kernel
theorem dX3_appear_13 : decode cX3_appear 13 = .ok (.if_icmp .ne 13, 3) := by decide +kernel
theorem dX3_appear_16 : decode cX3_appear 16 = .ok (.new 51, 3) := by decide +kernel
theorem dX3_appear_19 : decode cX3_appear 19 = .ok (.dup, 1) := by decide +kernel
theorem dX3_appear_20 : decode cX3_appear 20 = .ok (.ldc 94, 2) := by decide +kernel
theorem dX3_appear_22 : decode cX3_appear 22 = .ok (.invokespecial 55, 3) := by decide +kernel
theorem dX3_appear_25 : decode cX3_appear 25 = .ok (.athrow, 1) := by decide +kernel
theorem dX3_appear_26 : decode cX3_appear 26 = .ok (.aload_n 0, 1) := by decide +kernel
theorem dX3_appear_27 : decode cX3_appear 27 = .ok (.getfield 32, 3) := by decide +kernel
theorem dX3_appear_30 : decode cX3_appear 30 = .ok (.aload_n 0, 1) := by decide +kernel
theorem dX3_appear_31 : decode cX3_appear 31 = .ok (.getfield 10, 3) := by decide +kernel
theorem dX3_appear_34 : decode cX3_appear 34 = .ok (.invokevirtual 58, 3) := by decide +kernel
theorem dX3_appear_37 : decode cX3_appear 37 = .ok (.aload_n 0, 1) := by decide +kernel
theorem dX3_appear_38 : decode cX3_appear 38 = .ok (.getfield 10, 3) := by decide +kernel
theorem dX3_appear_41 : decode cX3_appear 41 = .ok (.iload_n 1, 1) := by decide +kernel
theorem dX3_appear_42 : decode cX3_appear 42 = .ok (.iload_n 2, 1) := by decide +kernel
theorem dX3_appear_43 : decode cX3_appear 43 = .ok (.invokevirtual 96, 3) := by decide +kernel
theorem dX3_appear_46 : decode cX3_appear 46 = .ok (.aload_n 0, 1) := by decide +kernel
theorem dX3_appear_47 : decode cX3_appear 47 = .ok (.getfield 10, 3) := by decide +kernel
theorem dX3_appear_50 : decode cX3_appear 50 = .ok (.iload_n 1, 1) := by decide +kernel
theorem dX3_appear_51 : decode cX3_appear 51 = .ok (.invokevirtual 100, 3) := by decide +kernel
theorem dX3_appear_54 : decode cX3_appear 54 = .ok (.ireturn, 1) := by decide +kernel
theorem dX3_sicken_0 : decode cX3_sicken 0 = .ok (.iload_n 1, 1) := by decide +kernel
theorem dX3_sicken_1 : decode cX3_sicken 1 = .ok (.invokestatic 66, 3) := by decide +kernel
theorem dX3_sicken_4 : decode cX3_sicken 4 = .ok (.aload_n 0, 1) := by decide +kernel
theorem dX3_sicken_5 : decode cX3_sicken 5 = .ok (.getfield 10, 3) := by decide +kernel
theorem dX3_sicken_8 : decode cX3_sicken 8 = .ok (.iload_n 1, 1) := by decide +kernel
theorem dX3_sicken_9 : decode cX3_sicken 9 = .ok (.invokevirtual 103, 3) := by decide +kernel
theorem dX3_sicken_12 : decode cX3_sicken 12 = .ok (.ifCond .eq 13, 3) := by decide +kernel
theorem dX3_sicken_15 : decode cX3_sicken 15 = .ok (.new 51, 3) := by decide +kernel
theorem dX3_sicken_18 : decode cX3_sicken 18 = .ok (.dup, 1) := by decide +kernel
theorem dX3_sicken_19 : decode cX3_sicken 19 = .ok (.ldc 106, 2) := by decide +kernel
theorem dX3_sicken_21 : decode cX3_sicken 21 = .ok (.invokespecial 55, 3) := by decide +kernel
theorem dX3_sicken_24 : decode cX3_sicken 24 = .ok (.athrow, 1) := by decide +kernel
theorem dX3_sicken_25 : decode cX3_sicken 25 = .ok (.aload_n 0, 1) := by decide +kernel
theorem dX3_sicken_26 : decode cX3_sicken 26 = .ok (.getfield 32, 3) := by decide +kernel
theorem dX3_sicken_29 : decode cX3_sicken 29 = .ok (.aload_n 0, 1) := by decide +kernel
theorem dX3_sicken_30 : decode cX3_sicken 30 = .ok (.getfield 10, 3) := by decide +kernel
theorem dX3_sicken_33 : decode cX3_sicken 33 = .ok (.invokevirtual 58, 3) := by decide +kernel
theorem dX3_sicken_36 : decode cX3_sicken 36 = .ok (.aload_n 0, 1) := by decide +kernel
theorem dX3_sicken_37 : decode cX3_sicken 37 = .ok (.getfield 10, 3) := by decide +kernel
theorem dX3_sicken_40 : decode cX3_sicken 40 = .ok (.iload_n 1, 1) := by decide +kernel
theorem dX3_sicken_41 : decode cX3_sicken 41 = .ok (.invokevirtual 108, 3) := by decide +kernel
theorem dX3_sicken_44 : decode cX3_sicken 44 = .ok (.ifCond .eq 7, 3) := by decide +kernel
theorem dX3_sicken_47 : decode cX3_sicken 47 = .ok (.iconst 1, 1) := by decide +kernel
theorem dX3_sicken_48 : decode cX3_sicken 48 = .ok (.goto 4, 3) := by decide +kernel
theorem dX3_sicken_51 : decode cX3_sicken 51 = .ok (.iconst 0, 1) := by decide +kernel
theorem dX3_sicken_52 : decode cX3_sicken 52 = .ok (.ireturn, 1) := by decide +kernel
theorem dX3_check_0 : decode cX3_check 0 = .ok (.aload_n 0, 1) := by decide +kernel
theorem dX3_check_1 : decode cX3_check 1 = .ok (.getfield 32, 3) := by decide +kernel
theorem dX3_check_4 : decode cX3_check 4 = .ok (.aload_n 0, 1) := by decide +kernel
theorem dX3_check_5 : decode cX3_check 5 = .ok (.getfield 10, 3) := by decide +kernel
theorem dX3_check_8 : decode cX3_check 8 = .ok (.invokevirtual 58, 3) := by decide +kernel
theorem dX3_check_11 : decode cX3_check 11 = .ok (.aload_n 0, 1) := by decide +kernel
theorem dX3_check_12 : decode cX3_check 12 = .ok (.getfield 10, 3) := by decide +kernel
theorem dX3_check_15 : decode cX3_check 15 = .ok (.invokevirtual 111, 3) := by decide +kernel
theorem dX3_check_18 : decode cX3_check 18 = .ok (.istore_n 1, 1) := by decide +kernel
theorem dX3_check_19 : decode cX3_check 19 = .ok (.aload_n 0, 1) := by decide +kernel
theorem dX3_check_20 : decode cX3_check 20 = .ok (.getfield 10, 3) := by decide +kernel
theorem dX3_check_23 : decode cX3_check 23 = .ok (.iconst (-1), 1) := by decide +kernel
theorem dX3_check_24 : decode cX3_check 24 = .ok (.invokevirtual 115, 3) := by decide +kernel
theorem dX3_check_27 : decode cX3_check 27 = .ok (.pop, 1) := by decide +kernel
theorem dX3_check_28 : decode cX3_check 28 = .ok (.iload_n 1, 1) := by decide +kernel
theorem dX3_check_29 : decode cX3_check 29 = .ok (.ireturn, 1) := by decide +kernel
theorem dX3_drain_0 : decode cX3_drain 0 = .ok (.aload_n 0, 1) := by decide +kernel
theorem dX3_drain_1 : decode cX3_drain 1 = .ok (.getfield 32, 3) := by decide +kernel
theorem dX3_drain_4 : decode cX3_drain 4 = .ok (.aload_n 0, 1) := by decide +kernel
theorem dX3_drain_5 : decode cX3_drain 5 = .ok (.getfield 10, 3) := by decide +kernel
theorem dX3_drain_8 : decode cX3_drain 8 = .ok (.invokevirtual 58, 3) := by decide +kernel
theorem dX3_drain_11 : decode cX3_drain 11 = .ok (.aload_n 0, 1) := by decide +kernel
theorem dX3_drain_12 : decode cX3_drain 12 = .ok (.getfield 10, 3) := by decide +kernel
theorem dX3_drain_15 : decode cX3_drain 15 = .ok (.invokevirtual 118, 3) := by decide +kernel
theorem dX3_drain_18 : decode cX3_drain 18 = .ok (.istore_n 1, 1) := by decide +kernel
theorem dX3_drain_19 : decode cX3_drain 19 = .ok (.aload_n 0, 1) := by decide +kernel
theorem dX3_drain_20 : decode cX3_drain 20 = .ok (.getfield 10, 3) := by decide +kernel
theorem dX3_drain_23 : decode cX3_drain 23 = .ok (.iconst (-1), 1) := by decide +kernel
theorem dX3_drain_24 : decode cX3_drain 24 = .ok (.invokevirtual 115, 3) := by decide +kernel
theorem dX3_drain_27 : decode cX3_drain 27 = .ok (.pop, 1) := by decide +kernel
theorem dX3_drain_28 : decode cX3_drain 28 = .ok (.iload_n 1, 1) := by decide +kernel
theorem dX3_drain_29 : decode cX3_drain 29 = .ok (.ireturn, 1) := by decide +kernel
theorem dX3_set_0 : decode cX3_set 0 = .ok (.iload_n 1, 1) := by decide +kernel
theorem dX3_set_1 : decode cX3_set 1 = .ok (.invokestatic 121, 3) := by decide +kernel
theorem dX3_set_4 : decode cX3_set 4 = .ok (.iload_n 2, 1) := by decide +kernel
theorem dX3_set_5 : decode cX3_set 5 = .ok (.getstatic 124, 3) := by decide +kernel
theorem dX3_set_8 : decode cX3_set 8 = .ok (.iload_n 1, 1) := by decide +kernel
theorem dX3_set_9 : decode cX3_set 9 = .ok (.iaload, 1) := by decide +kernel
theorem dX3_set_10 : decode cX3_set 10 = .ok (.if_icmp .lt 12, 3) := by decide +kernel
theorem dX3_set_13 : decode cX3_set 13 = .ok (.iload_n 2, 1) := by decide +kernel
theorem dX3_set_14 : decode cX3_set 14 = .ok (.getstatic 127, 3) := by decide +kernel
theorem dX3_set_17 : decode cX3_set 17 = .ok (.iload_n 1, 1) := by decide +kernel
theorem dX3_set_18 : decode cX3_set 18 = .ok (.iaload, 1) := by decide +kernel
theorem dX3_set_19 : decode cX3_set 19 = .ok (.if_icmp .le 13, 3) := by decide +kernel
theorem dX3_set_22 : decode cX3_set 22 = .ok (.new 130, 3) := by decide +kernel
theorem dX3_set_25 : decode cX3_set 25 = .ok (.dup, 1) := by decide +kernel
theorem dX3_set_26 : decode cX3_set 26 = .ok (.ldc 132, 2) := by decide +kernel
theorem dX3_set_28 : decode cX3_set 28 = .ok (.invokespecial 134, 3) := by decide +kernel
theorem dX3_set_31 : decode cX3_set 31 = .ok (.athrow, 1) := by decide +kernel
theorem dX3_set_32 : decode cX3_set 32 = .ok (.aload_n 0, 1) := by decide +kernel
theorem dX3_set_33 : decode cX3_set 33 = .ok (.getfield 32, 3) := by decide +kernel
theorem dX3_set_36 : decode cX3_set 36 = .ok (.aload_n 0, 1) := by decide +kernel
theorem dX3_set_37 : decode cX3_set 37 = .ok (.getfield 10, 3) := by decide +kernel
theorem dX3_set_40 : decode cX3_set 40 = .ok (.invokevirtual 58, 3) := by decide +kernel
theorem dX3_set_43 : decode cX3_set 43 = .ok (.aload_n 0, 1) := by decide +kernel
theorem dX3_set_44 : decode cX3_set 44 = .ok (.getfield 10, 3) := by decide +kernel
theorem dX3_set_47 : decode cX3_set 47 = .ok (.iload_n 1, 1) := by decide +kernel
theorem dX3_set_48 : decode cX3_set 48 = .ok (.iload_n 2, 1) := by decide +kernel
theorem dX3_set_49 : decode cX3_set 49 = .ok (.invokevirtual 135, 3) := by decide +kernel
theorem dX3_set_52 : decode cX3_set 52 = .ok (.ireturn, 1) := by decide +kernel
theorem dX3_pass_0 : decode cX3_pass 0 = .ok (.iload_n 1, 1) := by decide +kernel
theorem dX3_pass_1 : decode cX3_pass 1 = .ok (.iconst 1, 1) := by decide +kernel
theorem dX3_pass_2 : decode cX3_pass 2 = .ok (.if_icmp .lt 9, 3) := by decide +kernel
theorem dX3_pass_5 : decode cX3_pass 5 = .ok (.iload_n 1, 1) := by decide +kernel
theorem dX3_pass_6 : decode cX3_pass 6 = .ok (.bipush 99, 2) := by decide +kernel
theorem dX3_pass_8 : decode cX3_pass 8 = .ok (.if_icmp .le 13, 3) := by decide +kernel
theorem dX3_pass_11 : decode cX3_pass 11 = .ok (.new 130, 3) := by decide +kernel
theorem dX3_pass_14 : decode cX3_pass 14 = .ok (.dup, 1) := by decide +kernel
theorem dX3_pass_15 : decode cX3_pass 15 = .ok (.ldc 139, 2) := by decide +kernel
theorem dX3_pass_17 : decode cX3_pass 17 = .ok (.invokespecial 134, 3) := by decide +kernel
theorem dX3_pass_20 : decode cX3_pass 20 = .ok (.athrow, 1) := by decide +kernel
theorem dX3_pass_21 : decode cX3_pass 21 = .ok (.aload_n 0, 1) := by decide +kernel
theorem dX3_pass_22 : decode cX3_pass 22 = .ok (.getfield 10, 3) := by decide +kernel
theorem dX3_pass_25 : decode cX3_pass 25 = .ok (.iload_n 1, 1) := by decide +kernel
theorem dX3_pass_26 : decode cX3_pass 26 = .ok (.invokevirtual 141, 3) := by decide +kernel
theorem dX3_pass_29 : decode cX3_pass 29 = .ok (.ifCond .ne 13, 3) := by decide +kernel
theorem dX3_pass_32 : decode cX3_pass 32 = .ok (.new 51, 3) := by decide +kernel
theorem dX3_pass_35 : decode cX3_pass 35 = .ok (.dup, 1) := by decide +kernel
theorem dX3_pass_36 : decode cX3_pass 36 = .ok (.ldc 144, 2) := by decide +kernel
theorem dX3_pass_38 : decode cX3_pass 38 = .ok (.invokespecial 55, 3) := by decide +kernel
theorem dX3_pass_41 : decode cX3_pass 41 = .ok (.athrow, 1) := by decide +kernel
theorem dX3_pass_42 : decode cX3_pass 42 = .ok (.aload_n 0, 1) := by decide +kernel
theorem dX3_pass_43 : decode cX3_pass 43 = .ok (.getfield 32, 3) := by decide +kernel
theorem dX3_pass_46 : decode cX3_pass 46 = .ok (.aload_n 0, 1) := by decide +kernel
theorem dX3_pass_47 : decode cX3_pass 47 = .ok (.getfield 10, 3) := by decide +kernel
theorem dX3_pass_50 : decode cX3_pass 50 = .ok (.invokevirtual 58, 3) := by decide +kernel
theorem dX3_pass_53 : decode cX3_pass 53 = .ok (.aload_n 0, 1) := by decide +kernel
theorem dX3_pass_54 : decode cX3_pass 54 = .ok (.getfield 10, 3) := by decide +kernel
theorem dX3_pass_57 : decode cX3_pass 57 = .ok (.iload_n 1, 1) := by decide +kernel
theorem dX3_pass_58 : decode cX3_pass 58 = .ok (.invokevirtual 146, 3) := by decide +kernel
theorem dX3_pass_61 : decode cX3_pass 61 = .ok (.ireturn, 1) := by decide +kernel
theorem dX3_place_0 : decode cX3_place 0 = .ok (.iload_n 1, 1) := by decide +kernel
theorem dX3_place_1 : decode cX3_place 1 = .ok (.invokestatic 66, 3) := by decide +kernel
theorem dX3_place_4 : decode cX3_place 4 = .ok (.iload_n 2, 1) := by decide +kernel
theorem dX3_place_5 : decode cX3_place 5 = .ok (.bipush 6, 2) := by decide +kernel
theorem dX3_place_7 : decode cX3_place 7 = .ok (.invokestatic 193, 3) := by decide +kernel
theorem dX3_place_10 : decode cX3_place 10 = .ok (.aload_n 0, 1) := by decide +kernel
theorem dX3_place_11 : decode cX3_place 11 = .ok (.getfield 10, 3) := by decide +kernel
theorem dX3_place_14 : decode cX3_place 14 = .ok (.iload_n 1, 1) := by decide +kernel
theorem dX3_place_15 : decode cX3_place 15 = .ok (.iload_n 2, 1) := by decide +kernel
theorem dX3_place_16 : decode cX3_place 16 = .ok (.invokevirtual 197, 3) := by decide +kernel
theorem dX3_place_19 : decode cX3_place 19 = .ok (.ireturn, 1) := by decide +kernel
theorem dX3_owner_0 : decode cX3_owner 0 = .ok (.iload_n 1, 1) := by decide +kernel
theorem dX3_owner_1 : decode cX3_owner 1 = .ok (.invokestatic 43, 3) := by decide +kernel
theorem dX3_owner_4 : decode cX3_owner 4 = .ok (.iload_n 2, 1) := by decide +kernel
theorem dX3_owner_5 : decode cX3_owner 5 = .ok (.bipush 7, 2) := by decide +kernel
theorem dX3_owner_7 : decode cX3_owner 7 = .ok (.invokestatic 193, 3) := by decide +kernel
theorem dX3_owner_10 : decode cX3_owner 10 = .ok (.aload_n 0, 1) := by decide +kernel
theorem dX3_owner_11 : decode cX3_owner 11 = .ok (.getfield 10, 3) := by decide +kernel
theorem dX3_owner_14 : decode cX3_owner 14 = .ok (.iload_n 1, 1) := by decide +kernel
theorem dX3_owner_15 : decode cX3_owner 15 = .ok (.iload_n 2, 1) := by decide +kernel
theorem dX3_owner_16 : decode cX3_owner 16 = .ok (.invokevirtual 200, 3) := by decide +kernel
theorem dX3_owner_19 : decode cX3_owner 19 = .ok (.ireturn, 1) := by decide +kernel
theorem dX3_count_0 : decode cX3_count 0 = .ok (.iload_n 1, 1) := by decide +kernel
theorem dX3_count_1 : decode cX3_count 1 = .ok (.bipush 14, 2) := by decide +kernel
theorem dX3_count_3 : decode cX3_count 3 = .ok (.invokestatic 193, 3) := by decide +kernel
theorem dX3_count_6 : decode cX3_count 6 = .ok (.iload_n 1, 1) := by decide +kernel
theorem dX3_count_7 : decode cX3_count 7 = .ok (.bipush 13, 2) := by decide +kernel
theorem dX3_count_9 : decode cX3_count 9 = .ok (.if_icmp .ne 13, 3) := by decide +kernel
theorem dX3_count_12 : decode cX3_count 12 = .ok (.aload_n 0, 1) := by decide +kernel
theorem dX3_count_13 : decode cX3_count 13 = .ok (.getfield 32, 3) := by decide +kernel
theorem dX3_count_16 : decode cX3_count 16 = .ok (.getfield 185, 3) := by decide +kernel
theorem dX3_count_19 : decode cX3_count 19 = .ok (.goto 11, 3) := by decide +kernel
theorem dX3_count_22 : decode cX3_count 22 = .ok (.aload_n 0, 1) := by decide +kernel
theorem dX3_count_23 : decode cX3_count 23 = .ok (.getfield 10, 3) := by decide +kernel
theorem dX3_count_26 : decode cX3_count 26 = .ok (.iload_n 1, 1) := by decide +kernel
theorem dX3_count_27 : decode cX3_count 27 = .ok (.invokevirtual 203, 3) := by decide +kernel
theorem dX3_count_30 : decode cX3_count 30 = .ok (.ireturn, 1) := by decide +kernel
theorem dX3_setting_0 : decode cX3_setting 0 = .ok (.iload_n 1, 1) := by decide +kernel
theorem dX3_setting_1 : decode cX3_setting 1 = .ok (.invokestatic 121, 3) := by decide +kernel
theorem dX3_setting_4 : decode cX3_setting 4 = .ok (.aload_n 0, 1) := by decide +kernel
theorem dX3_setting_5 : decode cX3_setting 5 = .ok (.getfield 10, 3) := by decide +kernel
theorem dX3_setting_8 : decode cX3_setting 8 = .ok (.getfield 206, 3) := by decide +kernel
theorem dX3_setting_11 : decode cX3_setting 11 = .ok (.iload_n 1, 1) := by decide +kernel
theorem dX3_setting_12 : decode cX3_setting 12 = .ok (.iaload, 1) := by decide +kernel
theorem dX3_setting_13 : decode cX3_setting 13 = .ok (.ireturn, 1) := by decide +kernel
theorem dX3_ifAsked_0 : decode cX3_ifAsked 0 = .ok (.iload_n 1, 1) := by decide +kernel
theorem dX3_ifAsked_1 : decode cX3_ifAsked 1 = .ok (.invokestatic 43, 3) := by decide +kernel
theorem dX3_ifAsked_4 : decode cX3_ifAsked 4 = .ok (.iload_n 2, 1) := by decide +kernel
theorem dX3_ifAsked_5 : decode cX3_ifAsked 5 = .ok (.iconst 3, 1) := by decide +kernel
theorem dX3_ifAsked_6 : decode cX3_ifAsked 6 = .ok (.invokestatic 193, 3) := by decide +kernel
theorem dX3_ifAsked_9 : decode cX3_ifAsked 9 = .ok (.aload_n 0, 1) := by decide +kernel
theorem dX3_ifAsked_10 : decode cX3_ifAsked 10 = .ok (.iload_n 1, 1) := by decide +kernel
theorem dX3_ifAsked_11 : decode cX3_ifAsked 11 = .ok (.invokevirtual 209, 3) := by decide +kernel
theorem dX3_ifAsked_14 : decode cX3_ifAsked 14 = .ok (.aload_n 0, 1) := by decide +kernel
theorem dX3_ifAsked_15 : decode cX3_ifAsked 15 = .ok (.getfield 19, 3) := by decide +kernel
theorem dX3_ifAsked_18 : decode cX3_ifAsked 18 = .ok (.iload_n 2, 1) := by decide +kernel
theorem dX3_ifAsked_19 : decode cX3_ifAsked 19 = .ok (.iaload, 1) := by decide +kernel
theorem dX3_ifAsked_20 : decode cX3_ifAsked 20 = .ok (.ireturn, 1) := by decide +kernel
theorem dX3_ifPassed_0 : decode cX3_ifPassed 0 = .ok (.iload_n 1, 1) := by decide +kernel
theorem dX3_ifPassed_1 : decode cX3_ifPassed 1 = .ok (.ifCond .lt 10, 3) := by decide +kernel
theorem dX3_ifPassed_4 : decode cX3_ifPassed 4 = .ok (.iload_n 1, 1) := by decide +kernel
theorem dX3_ifPassed_5 : decode cX3_ifPassed 5 = .ok (.sipush 200, 3) := by decide +kernel
theorem dX3_ifPassed_8 : decode cX3_ifPassed 8 = .ok (.if_icmp .le 13, 3) := by decide +kernel
theorem dX3_ifPassed_11 : decode cX3_ifPassed 11 = .ok (.new 130, 3) := by decide +kernel
theorem dX3_ifPassed_14 : decode cX3_ifPassed 14 = .ok (.dup, 1) := by decide +kernel
theorem dX3_ifPassed_15 : decode cX3_ifPassed 15 = .ok (.ldc 212, 2) := by decide +kernel
theorem dX3_ifPassed_17 : decode cX3_ifPassed 17 = .ok (.invokespecial 134, 3) := by decide +kernel
theorem dX3_ifPassed_20 : decode cX3_ifPassed 20 = .ok (.athrow, 1) := by decide +kernel
theorem dX3_ifPassed_21 : decode cX3_ifPassed 21 = .ok (.iload_n 2, 1) := by decide +kernel
theorem dX3_ifPassed_22 : decode cX3_ifPassed 22 = .ok (.iconst 4, 1) := by decide +kernel
theorem dX3_ifPassed_23 : decode cX3_ifPassed 23 = .ok (.invokestatic 193, 3) := by decide +kernel
theorem dX3_ifPassed_26 : decode cX3_ifPassed 26 = .ok (.aload_n 0, 1) := by decide +kernel
theorem dX3_ifPassed_27 : decode cX3_ifPassed 27 = .ok (.iload_n 1, 1) := by decide +kernel
theorem dX3_ifPassed_28 : decode cX3_ifPassed 28 = .ok (.invokevirtual 214, 3) := by decide +kernel
theorem dX3_ifPassed_31 : decode cX3_ifPassed 31 = .ok (.aload_n 0, 1) := by decide +kernel
theorem dX3_ifPassed_32 : decode cX3_ifPassed 32 = .ok (.getfield 23, 3) := by decide +kernel
theorem dX3_ifPassed_35 : decode cX3_ifPassed 35 = .ok (.iload_n 2, 1) := by decide +kernel
theorem dX3_ifPassed_36 : decode cX3_ifPassed 36 = .ok (.iaload, 1) := by decide +kernel
theorem dX3_ifPassed_37 : decode cX3_ifPassed 37 = .ok (.ireturn, 1) := by decide +kernel
theorem dX3_waitsFor_0 : decode cX3_waitsFor 0 = .ok (.iload_n 1, 1) := by decide +kernel
theorem dX3_waitsFor_1 : decode cX3_waitsFor 1 = .ok (.invokestatic 43, 3) := by decide +kernel
theorem dX3_waitsFor_4 : decode cX3_waitsFor 4 = .ok (.aload_n 0, 1) := by decide +kernel
theorem dX3_waitsFor_5 : decode cX3_waitsFor 5 = .ok (.invokevirtual 217, 3) := by decide +kernel
theorem dX3_waitsFor_8 : decode cX3_waitsFor 8 = .ok (.aload_n 0, 1) := by decide +kernel
theorem dX3_waitsFor_9 : decode cX3_waitsFor 9 = .ok (.getfield 26, 3) := by decide +kernel
theorem dX3_waitsFor_12 : decode cX3_waitsFor 12 = .ok (.iload_n 1, 1) := by decide +kernel
theorem dX3_waitsFor_13 : decode cX3_waitsFor 13 = .ok (.iaload, 1) := by decide +kernel
theorem dX3_waitsFor_14 : decode cX3_waitsFor 14 = .ok (.ireturn, 1) := by decide +kernel
theorem dX3_blocker_0 : decode cX3_blocker 0 = .ok (.aload_n 0, 1) := by decide +kernel
theorem dX3_blocker_1 : decode cX3_blocker 1 = .ok (.getfield 10, 3) := by decide +kernel
theorem dX3_blocker_4 : decode cX3_blocker 4 = .ok (.getfield 220, 3) := by decide +kernel
theorem dX3_blocker_7 : decode cX3_blocker 7 = .ok (.ifCond .ne 5, 3) := by decide +kernel
theorem dX3_blocker_10 : decode cX3_blocker 10 = .ok (.iconst (-1), 1) := by decide +kernel
theorem dX3_blocker_11 : decode cX3_blocker 11 = .ok (.ireturn, 1) := by decide +kernel
theorem dX3_blocker_12 : decode cX3_blocker 12 = .ok (.iconst 0, 1) := by decide +kernel
theorem dX3_blocker_13 : decode cX3_blocker 13 = .ok (.istore_n 1, 1) := by decide +kernel
theorem dX3_blocker_14 : decode cX3_blocker 14 = .ok (.iconst (-1), 1) := by decide +kernel
theorem dX3_blocker_15 : decode cX3_blocker 15 = .ok (.istore_n 2, 1) := by decide +kernel
theorem dX3_blocker_16 : decode cX3_blocker 16 = .ok (.iconst 0, 1) := by decide +kernel
theorem dX3_blocker_17 : decode cX3_blocker 17 = .ok (.istore_n 3, 1) := by decide +kernel
theorem dX3_blocker_18 : decode cX3_blocker 18 = .ok (.iload_n 3, 1) := by decide +kernel
theorem dX3_blocker_19 : decode cX3_blocker 19 = .ok (.bipush 8, 2) := by decide +kernel
theorem dX3_blocker_21 : decode cX3_blocker 21 = .ok (.if_icmp .ge 30, 3) := by decide +kernel
theorem dX3_blocker_24 : decode cX3_blocker 24 = .ok (.aload_n 0, 1) := by decide +kernel
theorem dX3_blocker_25 : decode cX3_blocker 25 = .ok (.getfield 10, 3) := by decide +kernel
theorem dX3_blocker_28 : decode cX3_blocker 28 = .ok (.iload_n 3, 1) := by decide +kernel
theorem dX3_blocker_29 : decode cX3_blocker 29 = .ok (.invokevirtual 100, 3) := by decide +kernel
theorem dX3_blocker_32 : decode cX3_blocker 32 = .ok (.istore 4, 2) := by decide +kernel
theorem dX3_blocker_34 : decode cX3_blocker 34 = .ok (.iload 4, 2) := by decide +kernel
theorem dX3_blocker_36 : decode cX3_blocker 36 = .ok (.iload_n 1, 1) := by decide +kernel
theorem dX3_blocker_37 : decode cX3_blocker 37 = .ok (.if_icmp .le 8, 3) := by decide +kernel
theorem dX3_blocker_40 : decode cX3_blocker 40 = .ok (.iload 4, 2) := by decide +kernel
theorem dX3_blocker_42 : decode cX3_blocker 42 = .ok (.istore_n 1, 1) := by decide +kernel
theorem dX3_blocker_43 : decode cX3_blocker 43 = .ok (.iload_n 3, 1) := by decide +kernel
theorem dX3_blocker_44 : decode cX3_blocker 44 = .ok (.istore_n 2, 1) := by decide +kernel
theorem dX3_blocker_45 : decode cX3_blocker 45 = .ok (.iinc 3 1, 3) := by decide +kernel
theorem dX3_blocker_48 : decode cX3_blocker 48 = .ok (.goto (-30), 3) := by decide +kernel
theorem dX3_blocker_51 : decode cX3_blocker 51 = .ok (.iload_n 2, 1) := by decide +kernel
theorem dX3_blocker_52 : decode cX3_blocker 52 = .ok (.ireturn, 1) := by decide +kernel
theorem dX3_fairness_0 : decode cX3_fairness 0 = .ok (.iconst 0, 1) := by decide +kernel
theorem dX3_fairness_1 : decode cX3_fairness 1 = .ok (.istore_n 1, 1) := by decide +kernel
theorem dX3_fairness_2 : decode cX3_fairness 2 = .ok (.iconst 0, 1) := by decide +kernel
theorem dX3_fairness_3 : decode cX3_fairness 3 = .ok (.istore_n 2, 1) := by decide +kernel
theorem dX3_fairness_4 : decode cX3_fairness 4 = .ok (.iconst 0, 1) := by decide +kernel
theorem dX3_fairness_5 : decode cX3_fairness 5 = .ok (.istore_n 3, 1) := by decide +kernel
theorem dX3_fairness_6 : decode cX3_fairness 6 = .ok (.iload_n 3, 1) := by decide +kernel
theorem dX3_fairness_7 : decode cX3_fairness 7 = .ok (.bipush 8, 2) := by decide +kernel
theorem dX3_fairness_9 : decode cX3_fairness 9 = .ok (.if_icmp .ge 45, 3) := by decide +kernel
theorem dX3_fairness_12 : decode cX3_fairness 12 = .ok (.aload_n 0, 1) := by decide +kernel
theorem dX3_fairness_13 : decode cX3_fairness 13 = .ok (.getfield 10, 3) := by decide +kernel
theorem dX3_fairness_16 : decode cX3_fairness 16 = .ok (.getfield 223, 3) := by decide +kernel
theorem dX3_fairness_19 : decode cX3_fairness 19 = .ok (.iload_n 3, 1) := by decide +kernel
theorem dX3_fairness_20 : decode cX3_fairness 20 = .ok (.iaload, 1) := by decide +kernel
theorem dX3_fairness_21 : decode cX3_fairness 21 = .ok (.istore 4, 2) := by decide +kernel
theorem dX3_fairness_23 : decode cX3_fairness 23 = .ok (.iload 4, 2) := by decide +kernel
theorem dX3_fairness_25 : decode cX3_fairness 25 = .ok (.ifCond .le 16, 3) := by decide +kernel
theorem dX3_fairness_28 : decode cX3_fairness 28 = .ok (.iload_n 1, 1) := by decide +kernel
theorem dX3_fairness_29 : decode cX3_fairness 29 = .ok (.ifCond .eq 9, 3) := by decide +kernel
theorem dX3_fairness_32 : decode cX3_fairness 32 = .ok (.iload 4, 2) := by decide +kernel
theorem dX3_fairness_34 : decode cX3_fairness 34 = .ok (.iload_n 1, 1) := by decide +kernel
theorem dX3_fairness_35 : decode cX3_fairness 35 = .ok (.if_icmp .ge 6, 3) := by decide +kernel
theorem dX3_fairness_38 : decode cX3_fairness 38 = .ok (.iload 4, 2) := by decide +kernel
theorem dX3_fairness_40 : decode cX3_fairness 40 = .ok (.istore_n 1, 1) := by decide +kernel
theorem dX3_fairness_41 : decode cX3_fairness 41 = .ok (.iload_n 2, 1) := by decide +kernel
theorem dX3_fairness_42 : decode cX3_fairness 42 = .ok (.iload 4, 2) := by decide +kernel
theorem dX3_fairness_44 : decode cX3_fairness 44 = .ok (.invokestatic 226, 3) := by decide +kernel
theorem dX3_fairness_47 : decode cX3_fairness 47 = .ok (.istore_n 2, 1) := by decide +kernel
theorem dX3_fairness_48 : decode cX3_fairness 48 = .ok (.iinc 3 1, 3) := by decide +kernel
theorem dX3_fairness_51 : decode cX3_fairness 51 = .ok (.goto (-45), 3) := by decide +kernel
theorem dX3_fairness_54 : decode cX3_fairness 54 = .ok (.iload_n 2, 1) := by decide +kernel
theorem dX3_fairness_55 : decode cX3_fairness 55 = .ok (.ifCond .ne 7, 3) := by decide +kernel
theorem dX3_fairness_58 : decode cX3_fairness 58 = .ok (.dconst 1, 1) := by decide +kernel
theorem dX3_fairness_59 : decode cX3_fairness 59 = .ok (.goto 8, 3) := by decide +kernel
theorem dX3_fairness_62 : decode cX3_fairness 62 = .ok (.iload_n 1, 1) := by decide +kernel
theorem dX3_fairness_63 : decode cX3_fairness 63 = .ok (.i2d, 1) := by decide +kernel
theorem dX3_fairness_64 : decode cX3_fairness 64 = .ok (.iload_n 2, 1) := by decide +kernel
theorem dX3_fairness_65 : decode cX3_fairness 65 = .ok (.i2d, 1) := by decide +kernel
theorem dX3_fairness_66 : decode cX3_fairness 66 = .ok (.ddiv, 1) := by decide +kernel
theorem dX3_fairness_67 : decode cX3_fairness 67 = .ok (.dreturn, 1) := by decide +kernel
theorem dX3_requireOwner_0 : decode cX3_requireOwner 0 = .ok (.iload_n 0, 1) := by decide +kernel
theorem dX3_requireOwner_1 : decode cX3_requireOwner 1 = .ok (.ifCond .lt 9, 3) := by decide +kernel
theorem dX3_requireOwner_4 : decode cX3_requireOwner 4 = .ok (.iload_n 0, 1) := by decide +kernel
theorem dX3_requireOwner_5 : decode cX3_requireOwner 5 = .ok (.bipush 8, 2) := by decide +kernel
theorem dX3_requireOwner_7 : decode cX3_requireOwner 7 = .ok (.if_icmp .lt 14, 3) := by decide +kernel
theorem dX3_requireOwner_10 : decode cX3_requireOwner 10 = .ok (.new 262, 3) := by decide +kernel
theorem dX3_requireOwner_13 : decode cX3_requireOwner 13 = .ok (.dup, 1) := by decide +kernel
theorem dX3_requireOwner_14 : decode cX3_requireOwner 14 = .ok (.ldc_w 264, 3) := by decide +kernel
theorem dX3_requireOwner_17 : decode cX3_requireOwner 17 = .ok (.invokespecial 266, 3) := by decide +kernel
theorem dX3_requireOwner_20 : decode cX3_requireOwner 20 = .ok (.athrow, 1) := by decide +kernel
theorem dX3_requireOwner_21 : decode cX3_requireOwner 21 = .ok (.return_, 1) := by decide +kernel
theorem dX3_requirePlace_0 : decode cX3_requirePlace 0 = .ok (.iload_n 0, 1) := by decide +kernel
theorem dX3_requirePlace_1 : decode cX3_requirePlace 1 = .ok (.ifCond .lt 9, 3) := by decide +kernel
theorem dX3_requirePlace_4 : decode cX3_requirePlace 4 = .ok (.iload_n 0, 1) := by decide +kernel
theorem dX3_requirePlace_5 : decode cX3_requirePlace 5 = .ok (.bipush 8, 2) := by decide +kernel
theorem dX3_requirePlace_7 : decode cX3_requirePlace 7 = .ok (.if_icmp .lt 14, 3) := by decide +kernel
theorem dX3_requirePlace_10 : decode cX3_requirePlace 10 = .ok (.new 262, 3) := by decide +kernel
theorem dX3_requirePlace_13 : decode cX3_requirePlace 13 = .ok (.dup, 1) := by decide +kernel
theorem dX3_requirePlace_14 : decode cX3_requirePlace 14 = .ok (.ldc_w 267, 3) := by decide +kernel
theorem dX3_requirePlace_17 : decode cX3_requirePlace 17 = .ok (.invokespecial 266, 3) := by decide +kernel
theorem dX3_requirePlace_20 : decode cX3_requirePlace 20 = .ok (.athrow, 1) := by decide +kernel
theorem dX3_requirePlace_21 : decode cX3_requirePlace 21 = .ok (.return_, 1) := by decide +kernel
theorem dX3_requireSetting_0 : decode cX3_requireSetting 0 = .ok (.iload_n 0, 1) := by decide +kernel
theorem dX3_requireSetting_1 : decode cX3_requireSetting 1 = .ok (.ifCond .lt 9, 3) := by decide +kernel
theorem dX3_requireSetting_4 : decode cX3_requireSetting 4 = .ok (.iload_n 0, 1) := by decide +kernel
theorem dX3_requireSetting_5 : decode cX3_requireSetting 5 = .ok (.bipush 9, 2) := by decide +kernel
theorem dX3_requireSetting_7 : decode cX3_requireSetting 7 = .ok (.if_icmp .lt 14, 3) := by decide +kernel
theorem dX3_requireSetting_10 : decode cX3_requireSetting 10 = .ok (.new 262, 3) := by decide +kernel
theorem dX3_requireSetting_13 : decode cX3_requireSetting 13 = .ok (.dup, 1) := by decide +kernel
theorem dX3_requireSetting_14 : decode cX3_requireSetting 14 = .ok (.ldc_w 269, 3) := by decide +kernel
theorem dX3_requireSetting_17 : decode cX3_requireSetting 17 = .ok (.invokespecial 266, 3) := by decide +kernel
theorem dX3_requireSetting_20 : decode cX3_requireSetting 20 = .ok (.athrow, 1) := by decide +kernel
theorem dX3_requireSetting_21 : decode cX3_requireSetting 21 = .ok (.return_, 1) := by decide +kernel
theorem dX3_requireKind_0 : decode cX3_requireKind 0 = .ok (.iload_n 0, 1) := by decide +kernel
theorem dX3_requireKind_1 : decode cX3_requireKind 1 = .ok (.ifCond .lt 8, 3) := by decide +kernel
theorem dX3_requireKind_4 : decode cX3_requireKind 4 = .ok (.iload_n 0, 1) := by decide +kernel
theorem dX3_requireKind_5 : decode cX3_requireKind 5 = .ok (.iload_n 1, 1) := by decide +kernel
theorem dX3_requireKind_6 : decode cX3_requireKind 6 = .ok (.if_icmp .lt 14, 3) := by decide +kernel
theorem dX3_requireKind_9 : decode cX3_requireKind 9 = .ok (.new 130, 3) := by decide +kernel
theorem dX3_requireKind_12 : decode cX3_requireKind 12 = .ok (.dup, 1) := by decide +kernel
theorem dX3_requireKind_13 : decode cX3_requireKind 13 = .ok (.ldc_w 271, 3) := by decide +kernel
theorem dX3_requireKind_16 : decode cX3_requireKind 16 = .ok (.invokespecial 134, 3) := by decide +kernel
theorem dX3_requireKind_19 : decode cX3_requireKind 19 = .ok (.athrow, 1) := by decide +kernel
theorem dX3_requireKind_20 : decode cX3_requireKind 20 = .ok (.return_, 1) := by decide +kernel
theorem dX3_tryAsking_0 : decode cX3_tryAsking 0 = .ok (.aload_n 0, 1) := by decide +kernel
theorem dX3_tryAsking_1 : decode cX3_tryAsking 1 = .ok (.getfield 19, 3) := by decide +kernel
theorem dX3_tryAsking_4 : decode cX3_tryAsking 4 = .ok (.iconst 0, 1) := by decide +kernel
theorem dX3_tryAsking_5 : decode cX3_tryAsking 5 = .ok (.iconst (-1), 1) := by decide +kernel
theorem dX3_tryAsking_6 : decode cX3_tryAsking 6 = .ok (.iastore, 1) := by decide +kernel
theorem dX3_tryAsking_7 : decode cX3_tryAsking 7 = .ok (.aload_n 0, 1) := by decide +kernel
theorem dX3_tryAsking_8 : decode cX3_tryAsking 8 = .ok (.getfield 19, 3) := by decide +kernel
theorem dX3_tryAsking_11 : decode cX3_tryAsking 11 = .ok (.iconst 1, 1) := by decide +kernel
theorem dX3_tryAsking_12 : decode cX3_tryAsking 12 = .ok (.iconst 0, 1) := by decide +kernel
theorem dX3_tryAsking_13 : decode cX3_tryAsking 13 = .ok (.iastore, 1) := by decide +kernel
theorem dX3_tryAsking_14 : decode cX3_tryAsking 14 = .ok (.aload_n 0, 1) := by decide +kernel
theorem dX3_tryAsking_15 : decode cX3_tryAsking 15 = .ok (.getfield 19, 3) := by decide +kernel
theorem dX3_tryAsking_18 : decode cX3_tryAsking 18 = .ok (.iconst 2, 1) := by decide +kernel
theorem dX3_tryAsking_19 : decode cX3_tryAsking 19 = .ok (.iconst 0, 1) := by decide +kernel
theorem dX3_tryAsking_20 : decode cX3_tryAsking 20 = .ok (.iastore, 1) := by decide +kernel
theorem dX3_tryAsking_21 : decode cX3_tryAsking 21 = .ok (.aload_n 0, 1) := by decide +kernel
theorem dX3_tryAsking_22 : decode cX3_tryAsking 22 = .ok (.getfield 10, 3) := by decide +kernel
theorem dX3_tryAsking_25 : decode cX3_tryAsking 25 = .ok (.iload_n 1, 1) := by decide +kernel
theorem dX3_tryAsking_26 : decode cX3_tryAsking 26 = .ok (.invokevirtual 47, 3) := by decide +kernel
theorem dX3_tryAsking_29 : decode cX3_tryAsking 29 = .ok (.ifCond .ne 4, 3) := by decide +kernel
theorem dX3_tryAsking_32 : decode cX3_tryAsking 32 = .ok (.return_, 1) := by decide +kernel
theorem dX3_tryAsking_33 : decode cX3_tryAsking 33 = .ok (.aload_n 0, 1) := by decide +kernel
theorem dX3_tryAsking_34 : decode cX3_tryAsking 34 = .ok (.getfield 16, 3) := by decide +kernel
theorem dX3_tryAsking_37 : decode cX3_tryAsking 37 = .ok (.aload_n 0, 1) := by decide +kernel
theorem dX3_tryAsking_38 : decode cX3_tryAsking 38 = .ok (.getfield 10, 3) := by decide +kernel
theorem dX3_tryAsking_41 : decode cX3_tryAsking 41 = .ok (.invokevirtual 273, 3) := by decide +kernel
theorem dX3_tryAsking_44 : decode cX3_tryAsking 44 = .ok (.aload_n 0, 1) := by decide +kernel
theorem dX3_tryAsking_45 : decode cX3_tryAsking 45 = .ok (.getfield 16, 3) := by decide +kernel
theorem dX3_tryAsking_48 : decode cX3_tryAsking 48 = .ok (.iload_n 1, 1) := by decide +kernel
theorem dX3_tryAsking_49 : decode cX3_tryAsking 49 = .ok (.invokevirtual 62, 3) := by decide +kernel
theorem dX3_tryAsking_52 : decode cX3_tryAsking 52 = .ok (.istore_n 2, 1) := by decide +kernel
theorem dX3_tryAsking_53 : decode cX3_tryAsking 53 = .ok (.aload_n 0, 1) := by decide +kernel
theorem dX3_tryAsking_54 : decode cX3_tryAsking 54 = .ok (.getfield 19, 3) := by decide +kernel
theorem dX3_tryAsking_57 : decode cX3_tryAsking 57 = .ok (.iconst 0, 1) := by decide +kernel
theorem dX3_tryAsking_58 : decode cX3_tryAsking 58 = .ok (.iload_n 2, 1) := by decide +kernel
theorem dX3_tryAsking_59 : decode cX3_tryAsking 59 = .ok (.iastore, 1) := by decide +kernel
theorem dX3_tryAsking_60 : decode cX3_tryAsking 60 = .ok (.aload_n 0, 1) := by decide +kernel
theorem dX3_tryAsking_61 : decode cX3_tryAsking 61 = .ok (.getfield 19, 3) := by decide +kernel
theorem dX3_tryAsking_64 : decode cX3_tryAsking 64 = .ok (.iconst 1, 1) := by decide +kernel
theorem dX3_tryAsking_65 : decode cX3_tryAsking 65 = .ok (.iload_n 2, 1) := by decide +kernel
theorem dX3_tryAsking_66 : decode cX3_tryAsking 66 = .ok (.iconst (-1), 1) := by decide +kernel
theorem dX3_tryAsking_67 : decode cX3_tryAsking 67 = .ok (.if_icmp .eq 28, 3) := by decide +kernel
theorem dX3_tryAsking_70 : decode cX3_tryAsking 70 = .ok (.aload_n 0, 1) := by decide +kernel
theorem dX3_tryAsking_71 : decode cX3_tryAsking 71 = .ok (.getfield 16, 3) := by decide +kernel
theorem dX3_tryAsking_74 : decode cX3_tryAsking 74 = .ok (.getfield 276, 3) := by decide +kernel
theorem dX3_tryAsking_77 : decode cX3_tryAsking 77 = .ok (.iload_n 2, 1) := by decide +kernel
theorem dX3_tryAsking_78 : decode cX3_tryAsking 78 = .ok (.iaload, 1) := by decide +kernel
theorem dX3_tryAsking_79 : decode cX3_tryAsking 79 = .ok (.aload_n 0, 1) := by decide +kernel
theorem dX3_tryAsking_80 : decode cX3_tryAsking 80 = .ok (.getfield 10, 3) := by decide +kernel
theorem dX3_tryAsking_83 : decode cX3_tryAsking 83 = .ok (.getfield 276, 3) := by decide +kernel
theorem dX3_tryAsking_86 : decode cX3_tryAsking 86 = .ok (.iload_n 2, 1) := by decide +kernel
theorem dX3_tryAsking_87 : decode cX3_tryAsking 87 = .ok (.iaload, 1) := by decide +kernel
theorem dX3_tryAsking_88 : decode cX3_tryAsking 88 = .ok (.if_icmp .le 7, 3) := by decide +kernel
theorem dX3_tryAsking_91 : decode cX3_tryAsking 91 = .ok (.iconst 1, 1) := by decide +kernel
theorem dX3_tryAsking_92 : decode cX3_tryAsking 92 = .ok (.goto 4, 3) := by decide +kernel
theorem dX3_tryAsking_95 : decode cX3_tryAsking 95 = .ok (.iconst 0, 1) := by decide +kernel
theorem dX3_tryAsking_96 : decode cX3_tryAsking 96 = .ok (.iastore, 1) := by decide +kernel
theorem dX3_tryAsking_97 : decode cX3_tryAsking 97 = .ok (.aload_n 0, 1) := by decide +kernel
theorem dX3_tryAsking_98 : decode cX3_tryAsking 98 = .ok (.getfield 19, 3) := by decide +kernel
theorem dX3_tryAsking_101 : decode cX3_tryAsking 101 = .ok (.iconst 2, 1) := by decide +kernel
theorem dX3_tryAsking_102 : decode cX3_tryAsking 102 = .ok (.aload_n 0, 1) := by decide +kernel
theorem dX3_tryAsking_103 : decode cX3_tryAsking 103 = .ok (.getfield 16, 3) := by decide +kernel
theorem dX3_tryAsking_106 : decode cX3_tryAsking 106 = .ok (.getfield 279, 3) := by decide +kernel
theorem dX3_tryAsking_109 : decode cX3_tryAsking 109 = .ok (.iconst 1, 1) := by decide +kernel
theorem dX3_tryAsking_110 : decode cX3_tryAsking 110 = .ok (.iaload, 1) := by decide +kernel
theorem dX3_tryAsking_111 : decode cX3_tryAsking 111 = .ok (.aload_n 0, 1) := by decide +kernel
theorem dX3_tryAsking_112 : decode cX3_tryAsking 112 = .ok (.getfield 10, 3) := by decide +kernel
theorem dX3_tryAsking_115 : decode cX3_tryAsking 115 = .ok (.getfield 279, 3) := by decide +kernel
theorem dX3_tryAsking_118 : decode cX3_tryAsking 118 = .ok (.iconst 1, 1) := by decide +kernel
theorem dX3_tryAsking_119 : decode cX3_tryAsking 119 = .ok (.iaload, 1) := by decide +kernel
theorem dX3_tryAsking_120 : decode cX3_tryAsking 120 = .ok (.isub, 1) := by decide +kernel
theorem dX3_tryAsking_121 : decode cX3_tryAsking 121 = .ok (.iastore, 1) := by decide +kernel
theorem dX3_tryAsking_122 : decode cX3_tryAsking 122 = .ok (.return_, 1) := by decide +kernel
theorem dX3_tryPassing_0 : decode cX3_tryPassing 0 = .ok (.aload_n 0, 1) := by decide +kernel
theorem dX3_tryPassing_1 : decode cX3_tryPassing 1 = .ok (.getfield 16, 3) := by decide +kernel
theorem dX3_tryPassing_4 : decode cX3_tryPassing 4 = .ok (.aload_n 0, 1) := by decide +kernel
theorem dX3_tryPassing_5 : decode cX3_tryPassing 5 = .ok (.getfield 10, 3) := by decide +kernel
theorem dX3_tryPassing_8 : decode cX3_tryPassing 8 = .ok (.invokevirtual 273, 3) := by decide +kernel
theorem dX3_tryPassing_11 : decode cX3_tryPassing 11 = .ok (.aload_n 0, 1) := by decide +kernel
theorem dX3_tryPassing_12 : decode cX3_tryPassing 12 = .ok (.getfield 23, 3) := by decide +kernel
theorem dX3_tryPassing_15 : decode cX3_tryPassing 15 = .ok (.iconst 0, 1) := by decide +kernel
theorem dX3_tryPassing_16 : decode cX3_tryPassing 16 = .ok (.aload_n 0, 1) := by decide +kernel
theorem dX3_tryPassing_17 : decode cX3_tryPassing 17 = .ok (.getfield 16, 3) := by decide +kernel
theorem dX3_tryPassing_20 : decode cX3_tryPassing 20 = .ok (.iload_n 1, 1) := by decide +kernel
theorem dX3_tryPassing_21 : decode cX3_tryPassing 21 = .ok (.invokevirtual 146, 3) := by decide +kernel
theorem dX3_tryPassing_24 : decode cX3_tryPassing 24 = .ok (.iastore, 1) := by decide +kernel
theorem dX3_tryPassing_25 : decode cX3_tryPassing 25 = .ok (.aload_n 0, 1) := by decide +kernel
theorem dX3_tryPassing_26 : decode cX3_tryPassing 26 = .ok (.getfield 23, 3) := by decide +kernel
theorem dX3_tryPassing_29 : decode cX3_tryPassing 29 = .ok (.iconst 1, 1) := by decide +kernel
theorem dX3_tryPassing_30 : decode cX3_tryPassing 30 = .ok (.aload_n 0, 1) := by decide +kernel
theorem dX3_tryPassing_31 : decode cX3_tryPassing 31 = .ok (.getfield 16, 3) := by decide +kernel
theorem dX3_tryPassing_34 : decode cX3_tryPassing 34 = .ok (.getfield 279, 3) := by decide +kernel
theorem dX3_tryPassing_37 : decode cX3_tryPassing 37 = .ok (.iconst 1, 1) := by decide +kernel
theorem dX3_tryPassing_38 : decode cX3_tryPassing 38 = .ok (.iaload, 1) := by decide +kernel
theorem dX3_tryPassing_39 : decode cX3_tryPassing 39 = .ok (.aload_n 0, 1) := by decide +kernel
theorem dX3_tryPassing_40 : decode cX3_tryPassing 40 = .ok (.getfield 10, 3) := by decide +kernel
theorem dX3_tryPassing_43 : decode cX3_tryPassing 43 = .ok (.getfield 279, 3) := by decide +kernel
theorem dX3_tryPassing_46 : decode cX3_tryPassing 46 = .ok (.iconst 1, 1) := by decide +kernel
theorem dX3_tryPassing_47 : decode cX3_tryPassing 47 = .ok (.iaload, 1) := by decide +kernel
theorem dX3_tryPassing_48 : decode cX3_tryPassing 48 = .ok (.isub, 1) := by decide +kernel
theorem dX3_tryPassing_49 : decode cX3_tryPassing 49 = .ok (.iastore, 1) := by decide +kernel
theorem dX3_tryPassing_50 : decode cX3_tryPassing 50 = .ok (.aload_n 0, 1) := by decide +kernel
theorem dX3_tryPassing_51 : decode cX3_tryPassing 51 = .ok (.getfield 23, 3) := by decide +kernel
theorem dX3_tryPassing_54 : decode cX3_tryPassing 54 = .ok (.iconst 2, 1) := by decide +kernel
theorem dX3_tryPassing_55 : decode cX3_tryPassing 55 = .ok (.aload_n 0, 1) := by decide +kernel
theorem dX3_tryPassing_56 : decode cX3_tryPassing 56 = .ok (.getfield 16, 3) := by decide +kernel
theorem dX3_tryPassing_59 : decode cX3_tryPassing 59 = .ok (.invokevirtual 282, 3) := by decide +kernel
theorem dX3_tryPassing_62 : decode cX3_tryPassing 62 = .ok (.iastore, 1) := by decide +kernel
theorem dX3_tryPassing_63 : decode cX3_tryPassing 63 = .ok (.aload_n 0, 1) := by decide +kernel
theorem dX3_tryPassing_64 : decode cX3_tryPassing 64 = .ok (.getfield 23, 3) := by decide +kernel
theorem dX3_tryPassing_67 : decode cX3_tryPassing 67 = .ok (.iconst 3, 1) := by decide +kernel
theorem dX3_tryPassing_68 : decode cX3_tryPassing 68 = .ok (.aload_n 0, 1) := by decide +kernel
theorem dX3_tryPassing_69 : decode cX3_tryPassing 69 = .ok (.getfield 16, 3) := by decide +kernel
theorem dX3_tryPassing_72 : decode cX3_tryPassing 72 = .ok (.getfield 220, 3) := by decide +kernel
theorem dX3_tryPassing_75 : decode cX3_tryPassing 75 = .ok (.iastore, 1) := by decide +kernel
theorem dX3_tryPassing_76 : decode cX3_tryPassing 76 = .ok (.return_, 1) := by decide +kernel
theorem dX3_tryWaiting_0 : decode cX3_tryWaiting 0 = .ok (.iconst 0, 1) := by decide +kernel
theorem dX3_tryWaiting_1 : decode cX3_tryWaiting 1 = .ok (.istore_n 1, 1) := by decide +kernel
theorem dX3_tryWaiting_2 : decode cX3_tryWaiting 2 = .ok (.iload_n 1, 1) := by decide +kernel
theorem dX3_tryWaiting_3 : decode cX3_tryWaiting 3 = .ok (.bipush 8, 2) := by decide +kernel
theorem dX3_tryWaiting_5 : decode cX3_tryWaiting 5 = .ok (.if_icmp .ge 16, 3) := by decide +kernel
theorem dX3_tryWaiting_8 : decode cX3_tryWaiting 8 = .ok (.aload_n 0, 1) := by decide +kernel
theorem dX3_tryWaiting_9 : decode cX3_tryWaiting 9 = .ok (.getfield 26, 3) := by decide +kernel
theorem dX3_tryWaiting_12 : decode cX3_tryWaiting 12 = .ok (.iload_n 1, 1) := by decide +kernel
theorem dX3_tryWaiting_13 : decode cX3_tryWaiting 13 = .ok (.iconst (-1), 1) := by decide +kernel
theorem dX3_tryWaiting_14 : decode cX3_tryWaiting 14 = .ok (.iastore, 1) := by decide +kernel
theorem dX3_tryWaiting_15 : decode cX3_tryWaiting 15 = .ok (.iinc 1 1, 3) := by decide +kernel
theorem dX3_tryWaiting_18 : decode cX3_tryWaiting 18 = .ok (.goto (-16), 3) := by decide +kernel
theorem dX3_tryWaiting_21 : decode cX3_tryWaiting 21 = .ok (.aload_n 0, 1) := by decide +kernel
theorem dX3_tryWaiting_22 : decode cX3_tryWaiting 22 = .ok (.getfield 16, 3) := by decide +kernel
theorem dX3_tryWaiting_25 : decode cX3_tryWaiting 25 = .ok (.aload_n 0, 1) := by decide +kernel
theorem dX3_tryWaiting_26 : decode cX3_tryWaiting 26 = .ok (.getfield 10, 3) := by decide +kernel
theorem dX3_tryWaiting_29 : decode cX3_tryWaiting 29 = .ok (.invokevirtual 273, 3) := by decide +kernel
theorem dX3_tryWaiting_32 : decode cX3_tryWaiting 32 = .ok (.iconst 1, 1) := by decide +kernel
theorem dX3_tryWaiting_33 : decode cX3_tryWaiting 33 = .ok (.istore_n 1, 1) := by decide +kernel
theorem dX3_tryWaiting_34 : decode cX3_tryWaiting 34 = .ok (.iload_n 1, 1) := by decide +kernel
theorem dX3_tryWaiting_35 : decode cX3_tryWaiting 35 = .ok (.bipush 99, 2) := by decide +kernel
theorem dX3_tryWaiting_37 : decode cX3_tryWaiting 37 = .ok (.if_icmp .gt 80, 3) := by decide +kernel
theorem dX3_tryWaiting_40 : decode cX3_tryWaiting 40 = .ok (.aload_n 0, 1) := by decide +kernel
theorem dX3_tryWaiting_41 : decode cX3_tryWaiting 41 = .ok (.getfield 16, 3) := by decide +kernel
theorem dX3_tryWaiting_44 : decode cX3_tryWaiting 44 = .ok (.getfield 220, 3) := by decide +kernel
theorem dX3_tryWaiting_47 : decode cX3_tryWaiting 47 = .ok (.ifCond .le 70, 3) := by decide +kernel
theorem dX3_tryWaiting_50 : decode cX3_tryWaiting 50 = .ok (.aload_n 0, 1) := by decide +kernel
theorem dX3_tryWaiting_51 : decode cX3_tryWaiting 51 = .ok (.getfield 16, 3) := by decide +kernel
theorem dX3_tryWaiting_54 : decode cX3_tryWaiting 54 = .ok (.iconst 1, 1) := by decide +kernel
theorem dX3_tryWaiting_55 : decode cX3_tryWaiting 55 = .ok (.invokevirtual 146, 3) := by decide +kernel
theorem dX3_tryWaiting_58 : decode cX3_tryWaiting 58 = .ok (.pop, 1) := by decide +kernel
theorem dX3_tryWaiting_59 : decode cX3_tryWaiting 59 = .ok (.iconst 0, 1) := by decide +kernel
theorem dX3_tryWaiting_60 : decode cX3_tryWaiting 60 = .ok (.istore_n 2, 1) := by decide +kernel
theorem dX3_tryWaiting_61 : decode cX3_tryWaiting 61 = .ok (.iload_n 2, 1) := by decide +kernel
theorem dX3_tryWaiting_62 : decode cX3_tryWaiting 62 = .ok (.bipush 8, 2) := by decide +kernel
theorem dX3_tryWaiting_64 : decode cX3_tryWaiting 64 = .ok (.if_icmp .ge 47, 3) := by decide +kernel
theorem dX3_tryWaiting_67 : decode cX3_tryWaiting 67 = .ok (.aload_n 0, 1) := by decide +kernel
theorem dX3_tryWaiting_68 : decode cX3_tryWaiting 68 = .ok (.getfield 26, 3) := by decide +kernel
theorem dX3_tryWaiting_71 : decode cX3_tryWaiting 71 = .ok (.iload_n 2, 1) := by decide +kernel
theorem dX3_tryWaiting_72 : decode cX3_tryWaiting 72 = .ok (.iaload, 1) := by decide +kernel
theorem dX3_tryWaiting_73 : decode cX3_tryWaiting 73 = .ok (.iconst (-1), 1) := by decide +kernel
theorem dX3_tryWaiting_74 : decode cX3_tryWaiting 74 = .ok (.if_icmp .ne 31, 3) := by decide +kernel
theorem dX3_tryWaiting_77 : decode cX3_tryWaiting 77 = .ok (.aload_n 0, 1) := by decide +kernel
theorem dX3_tryWaiting_78 : decode cX3_tryWaiting 78 = .ok (.getfield 16, 3) := by decide +kernel
theorem dX3_tryWaiting_81 : decode cX3_tryWaiting 81 = .ok (.getfield 223, 3) := by decide +kernel
theorem dX3_tryWaiting_84 : decode cX3_tryWaiting 84 = .ok (.iload_n 2, 1) := by decide +kernel
theorem dX3_tryWaiting_85 : decode cX3_tryWaiting 85 = .ok (.iaload, 1) := by decide +kernel
theorem dX3_tryWaiting_86 : decode cX3_tryWaiting 86 = .ok (.aload_n 0, 1) := by decide +kernel
theorem dX3_tryWaiting_87 : decode cX3_tryWaiting 87 = .ok (.getfield 10, 3) := by decide +kernel
theorem dX3_tryWaiting_90 : decode cX3_tryWaiting 90 = .ok (.getfield 223, 3) := by decide +kernel
theorem dX3_tryWaiting_93 : decode cX3_tryWaiting 93 = .ok (.iload_n 2, 1) := by decide +kernel
theorem dX3_tryWaiting_94 : decode cX3_tryWaiting 94 = .ok (.iaload, 1) := by decide +kernel
theorem dX3_tryWaiting_95 : decode cX3_tryWaiting 95 = .ok (.if_icmp .le 10, 3) := by decide +kernel
theorem dX3_tryWaiting_98 : decode cX3_tryWaiting 98 = .ok (.aload_n 0, 1) := by decide +kernel
theorem dX3_tryWaiting_99 : decode cX3_tryWaiting 99 = .ok (.getfield 26, 3) := by decide +kernel
theorem dX3_tryWaiting_102 : decode cX3_tryWaiting 102 = .ok (.iload_n 2, 1) := by decide +kernel
theorem dX3_tryWaiting_103 : decode cX3_tryWaiting 103 = .ok (.iload_n 1, 1) := by decide +kernel
theorem dX3_tryWaiting_104 : decode cX3_tryWaiting 104 = .ok (.iastore, 1) := by decide +kernel
theorem dX3_tryWaiting_105 : decode cX3_tryWaiting 105 = .ok (.iinc 2 1, 3) := by decide +kernel
theorem dX3_tryWaiting_108 : decode cX3_tryWaiting 108 = .ok (.goto (-47), 3) := by decide +kernel
theorem dX3_tryWaiting_111 : decode cX3_tryWaiting 111 = .ok (.iinc 1 1, 3) := by decide +kernel
theorem dX3_tryWaiting_114 : decode cX3_tryWaiting 114 = .ok (.goto (-80), 3) := by decide +kernel
theorem dX3_tryWaiting_117 : decode cX3_tryWaiting 117 = .ok (.return_, 1) := by decide +kernel
theorem dJ9_max_7cf53_0 : decode cJ9_max_7cf53 0 = .ok (.iload_n 0, 1) := by decide +kernel
theorem dJ9_max_7cf53_1 : decode cJ9_max_7cf53 1 = .ok (.iload_n 1, 1) := by decide +kernel
theorem dJ9_max_7cf53_2 : decode cJ9_max_7cf53 2 = .ok (.if_icmp .lt 7, 3) := by decide +kernel
theorem dJ9_max_7cf53_5 : decode cJ9_max_7cf53 5 = .ok (.iload_n 0, 1) := by decide +kernel
theorem dJ9_max_7cf53_6 : decode cJ9_max_7cf53 6 = .ok (.goto 4, 3) := by decide +kernel
theorem dJ9_max_7cf53_9 : decode cJ9_max_7cf53 9 = .ok (.iload_n 1, 1) := by decide +kernel
theorem dJ9_max_7cf53_10 : decode cJ9_max_7cf53 10 = .ok (.ireturn, 1) := by decide +kernel
theorem dJ9_min_7cf53_0 : decode cJ9_min_7cf53 0 = .ok (.iload_n 0, 1) := by decide +kernel
theorem dJ9_min_7cf53_1 : decode cJ9_min_7cf53 1 = .ok (.iload_n 1, 1) := by decide +kernel
theorem dJ9_min_7cf53_2 : decode cJ9_min_7cf53 2 = .ok (.if_icmp .gt 7, 3) := by decide +kernel
theorem dJ9_min_7cf53_5 : decode cJ9_min_7cf53 5 = .ok (.iload_n 0, 1) := by decide +kernel
theorem dJ9_min_7cf53_6 : decode cJ9_min_7cf53 6 = .ok (.goto 4, 3) := by decide +kernel
theorem dJ9_min_7cf53_9 : decode cJ9_min_7cf53 9 = .ok (.iload_n 1, 1) := by decide +kernel
theorem dJ9_min_7cf53_10 : decode cJ9_min_7cf53 10 = .ok (.ireturn, 1) := by decide +kernel
