theorem dX4_init_0 : decode cX4_init 0 = .ok (.aload_n 0, 1) := by decide +kernel
theorem dX4_init_1 : decode cX4_init 1 = .ok (.invokespecial 1, 3) := by decide +kernel
theorem dX4_init_4 : decode cX4_init 4 = .ok (.aload_n 0, 1) := by decide +kernel
theorem dX4_init_5 : decode cX4_init 5 = .ok (.bipush 114, 2) := by decide +kernel
theorem dX4_init_7 : decode cX4_init 7 = .ok (.newarray .int, 2) := by decide +kernel
theorem dX4_init_9 : decode cX4_init 9 = .ok (.putfield 7, 3) := by decide +kernel
theorem dX4_init_12 : decode cX4_init 12 = .ok (.aload_n 0, 1) := by decide +kernel
theorem dX4_init_13 : decode cX4_init 13 = .ok (.sipush 684, 3) := by decide +kernel
theorem dX4_init_16 : decode cX4_init 16 = .ok (.newarray .int, 2) := by decide +kernel
theorem dX4_init_18 : decode cX4_init 18 = .ok (.putfield 13, 3) := by decide +kernel
theorem dX4_init_21 : decode cX4_init 21 = .ok (.aload_n 0, 1) := by decide +kernel
theorem dX4_init_22 : decode cX4_init 22 = .ok (.bipush 114, 2) := by decide +kernel
theorem dX4_init_24 : decode cX4_init 24 = .ok (.newarray .int, 2) := by decide +kernel
theorem dX4_init_26 : decode cX4_init 26 = .ok (.putfield 16, 3) := by decide +kernel
theorem dX4_init_29 : decode cX4_init 29 = .ok (.aload_n 0, 1) := by decide +kernel
theorem dX4_init_30 : decode cX4_init 30 = .ok (.bipush 60, 2) := by decide +kernel
theorem dX4_init_32 : decode cX4_init 32 = .ok (.newarray .int, 2) := by decide +kernel
theorem dX4_init_34 : decode cX4_init 34 = .ok (.putfield 19, 3) := by decide +kernel
theorem dX4_init_37 : decode cX4_init 37 = .ok (.aload_n 0, 1) := by decide +kernel
theorem dX4_init_38 : decode cX4_init 38 = .ok (.bipush 8, 2) := by decide +kernel
theorem dX4_init_40 : decode cX4_init 40 = .ok (.newarray .int, 2) := by decide +kernel
theorem dX4_init_42 : decode cX4_init 42 = .ok (.putfield 22, 3) := by decide +kernel
theorem dX4_init_45 : decode cX4_init 45 = .ok (.aload_n 0, 1) := by decide +kernel
theorem dX4_init_46 : decode cX4_init 46 = .ok (.getfield 7, 3) := by decide +kernel
theorem dX4_init_49 : decode cX4_init 49 = .ok (.iconst 0, 1) := by decide +kernel
theorem dX4_init_50 : decode cX4_init 50 = .ok (.iconst 4, 1) := by decide +kernel
theorem dX4_init_51 : decode cX4_init 51 = .ok (.iastore, 1) := by decide +kernel
theorem dX4_init_52 : decode cX4_init 52 = .ok (.aload_n 0, 1) := by decide +kernel
theorem dX4_init_53 : decode cX4_init 53 = .ok (.getfield 7, 3) := by decide +kernel
theorem dX4_init_56 : decode cX4_init 56 = .ok (.iconst 1, 1) := by decide +kernel
theorem dX4_init_57 : decode cX4_init 57 = .ok (.iconst 2, 1) := by decide +kernel
theorem dX4_init_58 : decode cX4_init 58 = .ok (.iastore, 1) := by decide +kernel
theorem dX4_init_59 : decode cX4_init 59 = .ok (.aload_n 0, 1) := by decide +kernel
theorem dX4_init_60 : decode cX4_init 60 = .ok (.getfield 7, 3) := by decide +kernel
theorem dX4_init_63 : decode cX4_init 63 = .ok (.iconst 2, 1) := by decide +kernel
theorem dX4_init_64 : decode cX4_init 64 = .ok (.iconst 1, 1) := by decide +kernel
theorem dX4_init_65 : decode cX4_init 65 = .ok (.iastore, 1) := by decide +kernel
theorem dX4_init_66 : decode cX4_init 66 = .ok (.aload_n 0, 1) := by decide +kernel
theorem dX4_init_67 : decode cX4_init 67 = .ok (.getfield 7, 3) := by decide +kernel
theorem dX4_init_70 : decode cX4_init 70 = .ok (.iconst 4, 1) := by decide +kernel
theorem dX4_init_71 : decode cX4_init 71 = .ok (.iconst 1, 1) := by decide +kernel
theorem dX4_init_72 : decode cX4_init 72 = .ok (.iastore, 1) := by decide +kernel
theorem dX4_init_73 : decode cX4_init 73 = .ok (.aload_n 0, 1) := by decide +kernel
theorem dX4_init_74 : decode cX4_init 74 = .ok (.getfield 7, 3) := by decide +kernel
theorem dX4_init_77 : decode cX4_init 77 = .ok (.iconst 5, 1) := by decide +kernel
theorem dX4_init_78 : decode cX4_init 78 = .ok (.bipush 10, 2) := by decide +kernel
theorem dX4_init_80 : decode cX4_init 80 = .ok (.iastore, 1) := by decide +kernel
theorem dX4_init_81 : decode cX4_init 81 = .ok (.aload_n 0, 1) := by decide +kernel
theorem dX4_init_82 : decode cX4_init 82 = .ok (.getfield 7, 3) := by decide +kernel
theorem dX4_init_85 : decode cX4_init 85 = .ok (.bipush 6, 2) := by decide +kernel
theorem dX4_init_87 : decode cX4_init 87 = .ok (.iconst 5, 1) := by decide +kernel
theorem dX4_init_88 : decode cX4_init 88 = .ok (.iastore, 1) := by decide +kernel
theorem dX4_init_89 : decode cX4_init 89 = .ok (.aload_n 0, 1) := by decide +kernel
theorem dX4_init_90 : decode cX4_init 90 = .ok (.getfield 7, 3) := by decide +kernel
theorem dX4_init_93 : decode cX4_init 93 = .ok (.bipush 7, 2) := by decide +kernel
theorem dX4_init_95 : decode cX4_init 95 = .ok (.bipush 20, 2) := by decide +kernel
theorem dX4_init_97 : decode cX4_init 97 = .ok (.iastore, 1) := by decide +kernel
theorem dX4_init_98 : decode cX4_init 98 = .ok (.aload_n 0, 1) := by decide +kernel
theorem dX4_init_99 : decode cX4_init 99 = .ok (.getfield 7, 3) := by decide +kernel
theorem dX4_init_102 : decode cX4_init 102 = .ok (.bipush 8, 2) := by decide +kernel
theorem dX4_init_104 : decode cX4_init 104 = .ok (.bipush 15, 2) := by decide +kernel
theorem dX4_init_106 : decode cX4_init 106 = .ok (.iastore, 1) := by decide +kernel
theorem dX4_init_107 : decode cX4_init 107 = .ok (.iconst 0, 1) := by decide +kernel
theorem dX4_init_108 : decode cX4_init 108 = .ok (.istore_n 1, 1) := by decide +kernel
theorem dX4_init_109 : decode cX4_init 109 = .ok (.iload_n 1, 1) := by decide +kernel
theorem dX4_init_110 : decode cX4_init 110 = .ok (.bipush 8, 2) := by decide +kernel
theorem dX4_init_112 : decode cX4_init 112 = .ok (.if_icmp .ge 16, 3) := by decide +kernel
theorem dX4_init_115 : decode cX4_init 115 = .ok (.aload_n 0, 1) := by decide +kernel
theorem dX4_init_116 : decode cX4_init 116 = .ok (.iload_n 1, 1) := by decide +kernel
theorem dX4_init_117 : decode cX4_init 117 = .ok (.iconst 1, 1) := by decide +kernel
theorem dX4_init_118 : decode cX4_init 118 = .ok (.iconst (-1), 1) := by decide +kernel
theorem dX4_init_119 : decode cX4_init 119 = .ok (.invokevirtual 25, 3) := by decide +kernel
theorem dX4_init_122 : decode cX4_init 122 = .ok (.iinc 1 1, 3) := by decide +kernel
theorem dX4_init_125 : decode cX4_init 125 = .ok (.goto (-16), 3) := by decide +kernel
theorem dX4_init_128 : decode cX4_init 128 = .ok (.iconst 0, 1) := by decide +kernel
theorem dX4_init_129 : decode cX4_init 129 = .ok (.istore_n 1, 1) := by decide +kernel
theorem dX4_init_130 : decode cX4_init 130 = .ok (.iload_n 1, 1) := by decide +kernel
theorem dX4_init_131 : decode cX4_init 131 = .ok (.bipush 8, 2) := by decide +kernel
theorem dX4_init_133 : decode cX4_init 133 = .ok (.if_icmp .ge 16, 3) := by decide +kernel
theorem dX4_init_136 : decode cX4_init 136 = .ok (.aload_n 0, 1) := by decide +kernel
theorem dX4_init_137 : decode cX4_init 137 = .ok (.iload_n 1, 1) := by decide +kernel
theorem dX4_init_138 : decode cX4_init 138 = .ok (.iconst 0, 1) := by decide +kernel
theorem dX4_init_139 : decode cX4_init 139 = .ok (.iconst 1, 1) := by decide +kernel
theorem dX4_init_140 : decode cX4_init 140 = .ok (.invokevirtual 29, 3) := by decide +kernel
theorem dX4_init_143 : decode cX4_init 143 = .ok (.iinc 1 1, 3) := by decide +kernel
theorem dX4_init_146 : decode cX4_init 146 = .ok (.goto (-16), 3) := by decide +kernel
theorem dX4_init_149 : decode cX4_init 149 = .ok (.return_, 1) := by decide +kernel
theorem dX4_thrown_0 : decode cX4_thrown 0 = .ok (.aload_n 0, 1) := by decide +kernel
theorem dX4_thrown_1 : decode cX4_thrown 1 = .ok (.getfield 32, 3) := by decide +kernel
theorem dX4_thrown_4 : decode cX4_thrown 4 = .ok (.ireturn, 1) := by decide +kernel
theorem dX4_in_0 : decode cX4_in 0 = .ok (.iload_n 0, 1) := by decide +kernel
theorem dX4_in_1 : decode cX4_in 1 = .ok (.iload_n 1, 1) := by decide +kernel
theorem dX4_in_2 : decode cX4_in 2 = .ok (.if_icmp .lt 12, 3) := by decide +kernel
theorem dX4_in_5 : decode cX4_in 5 = .ok (.iload_n 0, 1) := by decide +kernel
theorem dX4_in_6 : decode cX4_in 6 = .ok (.iload_n 2, 1) := by decide +kernel
theorem dX4_in_7 : decode cX4_in 7 = .ok (.if_icmp .gt 7, 3) := by decide +kernel
theorem dX4_in_10 : decode cX4_in 10 = .ok (.iconst 1, 1) := by decide +kernel
theorem dX4_in_11 : decode cX4_in 11 = .ok (.goto 4, 3) := by decide +kernel
theorem dX4_in_14 : decode cX4_in 14 = .ok (.iconst 0, 1) := by decide +kernel
theorem dX4_in_15 : decode cX4_in 15 = .ok (.ireturn, 1) := by decide +kernel
theorem dX4_isPlace_0 : decode cX4_isPlace 0 = .ok (.iload_n 0, 1) := by decide +kernel
theorem dX4_isPlace_1 : decode cX4_isPlace 1 = .ok (.iconst 0, 1) := by decide +kernel
theorem dX4_isPlace_2 : decode cX4_isPlace 2 = .ok (.bipush 7, 2) := by decide +kernel
theorem dX4_isPlace_4 : decode cX4_isPlace 4 = .ok (.invokestatic 36, 3) := by decide +kernel
theorem dX4_isPlace_7 : decode cX4_isPlace 7 = .ok (.ireturn, 1) := by decide +kernel
theorem dX4_isOwner_0 : decode cX4_isOwner 0 = .ok (.iload_n 0, 1) := by decide +kernel
theorem dX4_isOwner_1 : decode cX4_isOwner 1 = .ok (.iconst 0, 1) := by decide +kernel
theorem dX4_isOwner_2 : decode cX4_isOwner 2 = .ok (.bipush 7, 2) := by decide +kernel
theorem dX4_isOwner_4 : decode cX4_isOwner 4 = .ok (.invokestatic 36, 3) := by decide +kernel
theorem dX4_isOwner_7 : decode cX4_isOwner 7 = .ok (.ireturn, 1) := by decide +kernel
theorem dX4_of_0 : decode cX4_of 0 = .ok (.aload_n 0, 1) := by decide +kernel
theorem dX4_of_1 : decode cX4_of 1 = .ok (.getfield 7, 3) := by decide +kernel
theorem dX4_of_4 : decode cX4_of 4 = .ok (.bipush 26, 2) := by decide +kernel
theorem dX4_of_6 : decode cX4_of 6 = .ok (.bipush 6, 2) := by decide +kernel
theorem dX4_of_8 : decode cX4_of 8 = .ok (.iload_n 1, 1) := by decide +kernel
theorem dX4_of_9 : decode cX4_of 9 = .ok (.imul, 1) := by decide +kernel
theorem dX4_of_10 : decode cX4_of 10 = .ok (.iadd, 1) := by decide +kernel
theorem dX4_of_11 : decode cX4_of 11 = .ok (.iload_n 2, 1) := by decide +kernel
theorem dX4_of_12 : decode cX4_of 12 = .ok (.iadd, 1) := by decide +kernel
theorem dX4_of_13 : decode cX4_of 13 = .ok (.iaload, 1) := by decide +kernel
theorem dX4_of_14 : decode cX4_of 14 = .ok (.ireturn, 1) := by decide +kernel
theorem dX4_put_0 : decode cX4_put 0 = .ok (.aload_n 0, 1) := by decide +kernel
theorem dX4_put_1 : decode cX4_put 1 = .ok (.getfield 7, 3) := by decide +kernel
theorem dX4_put_4 : decode cX4_put 4 = .ok (.bipush 26, 2) := by decide +kernel
theorem dX4_put_6 : decode cX4_put 6 = .ok (.bipush 6, 2) := by decide +kernel
theorem dX4_put_8 : decode cX4_put 8 = .ok (.iload_n 1, 1) := by decide +kernel
theorem dX4_put_9 : decode cX4_put 9 = .ok (.imul, 1) := by decide +kernel
theorem dX4_put_10 : decode cX4_put 10 = .ok (.iadd, 1) := by decide +kernel
theorem dX4_put_11 : decode cX4_put 11 = .ok (.iload_n 2, 1) := by decide +kernel
theorem dX4_put_12 : decode cX4_put 12 = .ok (.iadd, 1) := by decide +kernel
theorem dX4_put_13 : decode cX4_put 13 = .ok (.iload_n 3, 1) := by decide +kernel
theorem dX4_put_14 : decode cX4_put 14 = .ok (.iastore, 1) := by decide +kernel
theorem dX4_put_15 : decode cX4_put 15 = .ok (.return_, 1) := by decide +kernel
theorem dX4_its_0 : decode cX4_its 0 = .ok (.aload_n 0, 1) := by decide +kernel
theorem dX4_its_1 : decode cX4_its 1 = .ok (.getfield 7, 3) := by decide +kernel
theorem dX4_its_4 : decode cX4_its 4 = .ok (.bipush 74, 2) := by decide +kernel
theorem dX4_its_6 : decode cX4_its 6 = .ok (.iconst 5, 1) := by decide +kernel
theorem dX4_its_7 : decode cX4_its 7 = .ok (.iload_n 1, 1) := by decide +kernel
theorem dX4_its_8 : decode cX4_its 8 = .ok (.imul, 1) := by decide +kernel
theorem dX4_its_9 : decode cX4_its 9 = .ok (.iadd, 1) := by decide +kernel
theorem dX4_its_10 : decode cX4_its 10 = .ok (.iload_n 2, 1) := by decide +kernel
theorem dX4_its_11 : decode cX4_its 11 = .ok (.iadd, 1) := by decide +kernel
theorem dX4_its_12 : decode cX4_its 12 = .ok (.iaload, 1) := by decide +kernel
theorem dX4_its_13 : decode cX4_its 13 = .ok (.ireturn, 1) := by decide +kernel
theorem dX4_lay_0 : decode cX4_lay 0 = .ok (.aload_n 0, 1) := by decide +kernel
theorem dX4_lay_1 : decode cX4_lay 1 = .ok (.getfield 7, 3) := by decide +kernel
theorem dX4_lay_4 : decode cX4_lay 4 = .ok (.bipush 74, 2) := by decide +kernel
theorem dX4_lay_6 : decode cX4_lay 6 = .ok (.iconst 5, 1) := by decide +kernel
theorem dX4_lay_7 : decode cX4_lay 7 = .ok (.iload_n 1, 1) := by decide +kernel
theorem dX4_lay_8 : decode cX4_lay 8 = .ok (.imul, 1) := by decide +kernel
theorem dX4_lay_9 : decode cX4_lay 9 = .ok (.iadd, 1) := by decide +kernel
theorem dX4_lay_10 : decode cX4_lay 10 = .ok (.iload_n 2, 1) := by decide +kernel
theorem dX4_lay_11 : decode cX4_lay 11 = .ok (.iadd, 1) := by decide +kernel
theorem dX4_lay_12 : decode cX4_lay 12 = .ok (.iload_n 3, 1) := by decide +kernel
theorem dX4_lay_13 : decode cX4_lay 13 = .ok (.iastore, 1) := by decide +kernel
theorem dX4_lay_14 : decode cX4_lay 14 = .ok (.return_, 1) := by decide +kernel
theorem dX4_isIn_0 : decode cX4_isIn 0 = .ok (.aload_n 0, 1) := by decide +kernel
theorem dX4_isIn_1 : decode cX4_isIn 1 = .ok (.iload_n 1, 1) := by decide +kernel
theorem dX4_isIn_2 : decode cX4_isIn 2 = .ok (.iconst 0, 1) := by decide +kernel
theorem dX4_isIn_3 : decode cX4_isIn 3 = .ok (.invokevirtual 40, 3) := by decide +kernel
theorem dX4_isIn_6 : decode cX4_isIn 6 = .ok (.iload_n 2, 1) := by decide +kernel
theorem dX4_isIn_7 : decode cX4_isIn 7 = .ok (.if_icmp .ne 7, 3) := by decide +kernel
theorem dX4_isIn_10 : decode cX4_isIn 10 = .ok (.iconst 1, 1) := by decide +kernel
theorem dX4_isIn_11 : decode cX4_isIn 11 = .ok (.goto 4, 3) := by decide +kernel
theorem dX4_isIn_14 : decode cX4_isIn 14 = .ok (.iconst 0, 1) := by decide +kernel
theorem dX4_isIn_15 : decode cX4_isIn 15 = .ok (.ireturn, 1) := by decide +kernel
theorem dX4_isThere_0 : decode cX4_isThere 0 = .ok (.aload_n 0, 1) := by decide +kernel
theorem dX4_isThere_1 : decode cX4_isThere 1 = .ok (.iload_n 1, 1) := by decide +kernel
theorem dX4_isThere_2 : decode cX4_isThere 2 = .ok (.iconst 0, 1) := by decide +kernel
theorem dX4_isThere_3 : decode cX4_isThere 3 = .ok (.invokevirtual 44, 3) := by decide +kernel
theorem dX4_isThere_6 : decode cX4_isThere 6 = .ok (.iconst 1, 1) := by decide +kernel
theorem dX4_isThere_7 : decode cX4_isThere 7 = .ok (.if_icmp .ne 7, 3) := by decide +kernel
theorem dX4_isThere_10 : decode cX4_isThere 10 = .ok (.iconst 1, 1) := by decide +kernel
theorem dX4_isThere_11 : decode cX4_isThere 11 = .ok (.goto 4, 3) := by decide +kernel
theorem dX4_isThere_14 : decode cX4_isThere 14 = .ok (.iconst 0, 1) := by decide +kernel
theorem dX4_isThere_15 : decode cX4_isThere 15 = .ok (.ireturn, 1) := by decide +kernel
theorem dX4_save_0 : decode cX4_save 0 = .ok (.aload_n 0, 1) := by decide +kernel
theorem dX4_save_1 : decode cX4_save 1 = .ok (.getfield 47, 3) := by decide +kernel
theorem dX4_save_4 : decode cX4_save 4 = .ok (.bipush 6, 2) := by decide +kernel
theorem dX4_save_6 : decode cX4_save 6 = .ok (.if_icmp .ne 43, 3) := by decide +kernel
theorem dX4_save_9 : decode cX4_save 9 = .ok (.iconst 0, 1) := by decide +kernel
theorem dX4_save_10 : decode cX4_save 10 = .ok (.istore_n 1, 1) := by decide +kernel
theorem dX4_save_11 : decode cX4_save 11 = .ok (.iload_n 1, 1) := by decide +kernel
theorem dX4_save_12 : decode cX4_save 12 = .ok (.sipush 570, 3) := by decide +kernel
theorem dX4_save_15 : decode cX4_save 15 = .ok (.if_icmp .ge 24, 3) := by decide +kernel
theorem dX4_save_18 : decode cX4_save 18 = .ok (.aload_n 0, 1) := by decide +kernel
theorem dX4_save_19 : decode cX4_save 19 = .ok (.getfield 13, 3) := by decide +kernel
theorem dX4_save_22 : decode cX4_save 22 = .ok (.iload_n 1, 1) := by decide +kernel
theorem dX4_save_23 : decode cX4_save 23 = .ok (.aload_n 0, 1) := by decide +kernel
theorem dX4_save_24 : decode cX4_save 24 = .ok (.getfield 13, 3) := by decide +kernel
theorem dX4_save_27 : decode cX4_save 27 = .ok (.iload_n 1, 1) := by decide +kernel
theorem dX4_save_28 : decode cX4_save 28 = .ok (.bipush 114, 2) := by decide +kernel
theorem dX4_save_30 : decode cX4_save 30 = .ok (.iadd, 1) := by decide +kernel
theorem dX4_save_31 : decode cX4_save 31 = .ok (.iaload, 1) := by decide +kernel
theorem dX4_save_32 : decode cX4_save 32 = .ok (.iastore, 1) := by decide +kernel
theorem dX4_save_33 : decode cX4_save 33 = .ok (.iinc 1 1, 3) := by decide +kernel
theorem dX4_save_36 : decode cX4_save 36 = .ok (.goto (-25), 3) := by decide +kernel
theorem dX4_save_39 : decode cX4_save 39 = .ok (.aload_n 0, 1) := by decide +kernel
theorem dX4_save_40 : decode cX4_save 40 = .ok (.dup, 1) := by decide +kernel
theorem dX4_save_41 : decode cX4_save 41 = .ok (.getfield 47, 3) := by decide +kernel
theorem dX4_save_44 : decode cX4_save 44 = .ok (.iconst 1, 1) := by decide +kernel
theorem dX4_save_45 : decode cX4_save 45 = .ok (.isub, 1) := by decide +kernel
theorem dX4_save_46 : decode cX4_save 46 = .ok (.putfield 47, 3) := by decide +kernel
theorem dX4_save_49 : decode cX4_save 49 = .ok (.iconst 0, 1) := by decide +kernel
theorem dX4_save_50 : decode cX4_save 50 = .ok (.istore_n 1, 1) := by decide +kernel
theorem dX4_save_51 : decode cX4_save 51 = .ok (.iload_n 1, 1) := by decide +kernel
theorem dX4_save_52 : decode cX4_save 52 = .ok (.bipush 114, 2) := by decide +kernel
theorem dX4_save_54 : decode cX4_save 54 = .ok (.if_icmp .ge 29, 3) := by decide +kernel
theorem dX4_save_57 : decode cX4_save 57 = .ok (.aload_n 0, 1) := by decide +kernel
theorem dX4_save_58 : decode cX4_save 58 = .ok (.getfield 13, 3) := by decide +kernel
theorem dX4_save_61 : decode cX4_save 61 = .ok (.aload_n 0, 1) := by decide +kernel
theorem dX4_save_62 : decode cX4_save 62 = .ok (.getfield 47, 3) := by decide +kernel
theorem dX4_save_65 : decode cX4_save 65 = .ok (.bipush 114, 2) := by decide +kernel
theorem dX4_save_67 : decode cX4_save 67 = .ok (.imul, 1) := by decide +kernel
theorem dX4_save_68 : decode cX4_save 68 = .ok (.iload_n 1, 1) := by decide +kernel
theorem dX4_save_69 : decode cX4_save 69 = .ok (.iadd, 1) := by decide +kernel
theorem dX4_save_70 : decode cX4_save 70 = .ok (.aload_n 0, 1) := by decide +kernel
theorem dX4_save_71 : decode cX4_save 71 = .ok (.getfield 7, 3) := by decide +kernel
theorem dX4_save_74 : decode cX4_save 74 = .ok (.iload_n 1, 1) := by decide +kernel
theorem dX4_save_75 : decode cX4_save 75 = .ok (.iaload, 1) := by decide +kernel
theorem dX4_save_76 : decode cX4_save 76 = .ok (.iastore, 1) := by decide +kernel
theorem dX4_save_77 : decode cX4_save 77 = .ok (.iinc 1 1, 3) := by decide +kernel
theorem dX4_save_80 : decode cX4_save 80 = .ok (.goto (-29), 3) := by decide +kernel
theorem dX4_save_83 : decode cX4_save 83 = .ok (.aload_n 0, 1) := by decide +kernel
theorem dX4_save_84 : decode cX4_save 84 = .ok (.dup, 1) := by decide +kernel
theorem dX4_save_85 : decode cX4_save 85 = .ok (.getfield 47, 3) := by decide +kernel
theorem dX4_save_88 : decode cX4_save 88 = .ok (.iconst 1, 1) := by decide +kernel
theorem dX4_save_89 : decode cX4_save 89 = .ok (.iadd, 1) := by decide +kernel
theorem dX4_save_90 : decode cX4_save 90 = .ok (.putfield 47, 3) := by decide +kernel
theorem dX4_save_93 : decode cX4_save 93 = .ok (.return_, 1) := by decide +kernel
theorem dX4_undo_0 : decode cX4_undo 0 = .ok (.aload_n 0, 1) := by decide +kernel
theorem dX4_undo_1 : decode cX4_undo 1 = .ok (.aload_n 0, 1) := by decide +kernel
theorem dX4_undo_2 : decode cX4_undo 2 = .ok (.getfield 47, 3) := by decide +kernel
theorem dX4_undo_5 : decode cX4_undo 5 = .ok (.ifCond .ne 7, 3) := by decide +kernel
theorem dX4_undo_8 : decode cX4_undo 8 = .ok (.iconst 1, 1) := by decide +kernel
theorem dX4_undo_9 : decode cX4_undo 9 = .ok (.goto 4, 3) := by decide +kernel
theorem dX4_undo_12 : decode cX4_undo 12 = .ok (.iconst 0, 1) := by decide +kernel
theorem dX4_undo_13 : decode cX4_undo 13 = .ok (.putfield 32, 3) := by decide +kernel
theorem dX4_undo_16 : decode cX4_undo 16 = .ok (.aload_n 0, 1) := by decide +kernel
theorem dX4_undo_17 : decode cX4_undo 17 = .ok (.getfield 32, 3) := by decide +kernel
theorem dX4_undo_20 : decode cX4_undo 20 = .ok (.ifCond .le 5, 3) := by decide +kernel
theorem dX4_undo_23 : decode cX4_undo 23 = .ok (.iconst 0, 1) := by decide +kernel
theorem dX4_undo_24 : decode cX4_undo 24 = .ok (.ireturn, 1) := by decide +kernel
theorem dX4_undo_25 : decode cX4_undo 25 = .ok (.aload_n 0, 1) := by decide +kernel
theorem dX4_undo_26 : decode cX4_undo 26 = .ok (.dup, 1) := by decide +kernel
theorem dX4_undo_27 : decode cX4_undo 27 = .ok (.getfield 47, 3) := by decide +kernel
theorem dX4_undo_30 : decode cX4_undo 30 = .ok (.iconst 1, 1) := by decide +kernel
theorem dX4_undo_31 : decode cX4_undo 31 = .ok (.isub, 1) := by decide +kernel
theorem dX4_undo_32 : decode cX4_undo 32 = .ok (.putfield 47, 3) := by decide +kernel
theorem dX4_undo_35 : decode cX4_undo 35 = .ok (.iconst 0, 1) := by decide +kernel
theorem dX4_undo_36 : decode cX4_undo 36 = .ok (.istore_n 1, 1) := by decide +kernel
theorem dX4_undo_37 : decode cX4_undo 37 = .ok (.iload_n 1, 1) := by decide +kernel
theorem dX4_undo_38 : decode cX4_undo 38 = .ok (.bipush 114, 2) := by decide +kernel
theorem dX4_undo_40 : decode cX4_undo 40 = .ok (.if_icmp .ge 29, 3) := by decide +kernel
theorem dX4_undo_43 : decode cX4_undo 43 = .ok (.aload_n 0, 1) := by decide +kernel
theorem dX4_undo_44 : decode cX4_undo 44 = .ok (.getfield 7, 3) := by decide +kernel
theorem dX4_undo_47 : decode cX4_undo 47 = .ok (.iload_n 1, 1) := by decide +kernel
theorem dX4_undo_48 : decode cX4_undo 48 = .ok (.aload_n 0, 1) := by decide +kernel
theorem dX4_undo_49 : decode cX4_undo 49 = .ok (.getfield 13, 3) := by decide +kernel
theorem dX4_undo_52 : decode cX4_undo 52 = .ok (.aload_n 0, 1) := by decide +kernel
theorem dX4_undo_53 : decode cX4_undo 53 = .ok (.getfield 47, 3) := by decide +kernel
theorem dX4_undo_56 : decode cX4_undo 56 = .ok (.bipush 114, 2) := by decide +kernel
theorem dX4_undo_58 : decode cX4_undo 58 = .ok (.imul, 1) := by decide +kernel
theorem dX4_undo_59 : decode cX4_undo 59 = .ok (.iload_n 1, 1) := by decide +kernel
theorem dX4_undo_60 : decode cX4_undo 60 = .ok (.iadd, 1) := by decide +kernel
theorem dX4_undo_61 : decode cX4_undo 61 = .ok (.iaload, 1) := by decide +kernel
theorem dX4_undo_62 : decode cX4_undo 62 = .ok (.iastore, 1) := by decide +kernel
theorem dX4_undo_63 : decode cX4_undo 63 = .ok (.iinc 1 1, 3) := by decide +kernel
theorem dX4_undo_66 : decode cX4_undo 66 = .ok (.goto (-29), 3) := by decide +kernel
theorem dX4_undo_69 : decode cX4_undo 69 = .ok (.aload_n 0, 1) := by decide +kernel
theorem dX4_undo_70 : decode cX4_undo 70 = .ok (.getfield 47, 3) := by decide +kernel
theorem dX4_undo_73 : decode cX4_undo 73 = .ok (.ireturn, 1) := by decide +kernel
theorem dX4_putAside_0 : decode cX4_putAside 0 = .ok (.iconst 0, 1) := by decide +kernel
theorem dX4_putAside_1 : decode cX4_putAside 1 = .ok (.istore_n 1, 1) := by decide +kernel
theorem dX4_putAside_2 : decode cX4_putAside 2 = .ok (.iload_n 1, 1) := by decide +kernel
theorem dX4_putAside_3 : decode cX4_putAside 3 = .ok (.bipush 114, 2) := by decide +kernel
theorem dX4_putAside_5 : decode cX4_putAside 5 = .ok (.if_icmp .ge 21, 3) := by decide +kernel
theorem dX4_putAside_8 : decode cX4_putAside 8 = .ok (.aload_n 0, 1) := by decide +kernel
theorem dX4_putAside_9 : decode cX4_putAside 9 = .ok (.getfield 16, 3) := by decide +kernel
theorem dX4_putAside_12 : decode cX4_putAside 12 = .ok (.iload_n 1, 1) := by decide +kernel
theorem dX4_putAside_13 : decode cX4_putAside 13 = .ok (.aload_n 0, 1) := by decide +kernel
theorem dX4_putAside_14 : decode cX4_putAside 14 = .ok (.getfield 7, 3) := by decide +kernel
theorem dX4_putAside_17 : decode cX4_putAside 17 = .ok (.iload_n 1, 1) := by decide +kernel
theorem dX4_putAside_18 : decode cX4_putAside 18 = .ok (.iaload, 1) := by decide +kernel
theorem dX4_putAside_19 : decode cX4_putAside 19 = .ok (.iastore, 1) := by decide +kernel
theorem dX4_putAside_20 : decode cX4_putAside 20 = .ok (.iinc 1 1, 3) := by decide +kernel
theorem dX4_putAside_23 : decode cX4_putAside 23 = .ok (.goto (-21), 3) := by decide +kernel
theorem dX4_putAside_26 : decode cX4_putAside 26 = .ok (.return_, 1) := by decide +kernel
theorem dX4_bringBack_0 : decode cX4_bringBack 0 = .ok (.iconst 0, 1) := by decide +kernel
theorem dX4_bringBack_1 : decode cX4_bringBack 1 = .ok (.istore_n 1, 1) := by decide +kernel
theorem dX4_bringBack_2 : decode cX4_bringBack 2 = .ok (.iload_n 1, 1) := by decide +kernel
theorem dX4_bringBack_3 : decode cX4_bringBack 3 = .ok (.bipush 114, 2) := by decide +kernel
theorem dX4_bringBack_5 : decode cX4_bringBack 5 = .ok (.if_icmp .ge 21, 3) := by decide +kernel
theorem dX4_bringBack_8 : decode cX4_bringBack 8 = .ok (.aload_n 0, 1) := by decide +kernel
theorem dX4_bringBack_9 : decode cX4_bringBack 9 = .ok (.getfield 7, 3) := by decide +kernel
theorem dX4_bringBack_12 : decode cX4_bringBack 12 = .ok (.iload_n 1, 1) := by decide +kernel
theorem dX4_bringBack_13 : decode cX4_bringBack 13 = .ok (.aload_n 0, 1) := by decide +kernel
theorem dX4_bringBack_14 : decode cX4_bringBack 14 = .ok (.getfield 16, 3) := by decide +kernel
theorem dX4_bringBack_17 : decode cX4_bringBack 17 = .ok (.iload_n 1, 1) := by decide +kernel
theorem dX4_bringBack_18 : decode cX4_bringBack 18 = .ok (.iaload, 1) := by decide +kernel
theorem dX4_bringBack_19 : decode cX4_bringBack 19 = .ok (.iastore, 1) := by decide +kernel
theorem dX4_bringBack_20 : decode cX4_bringBack 20 = .ok (.iinc 1 1, 3) := by decide +kernel
theorem dX4_bringBack_23 : decode cX4_bringBack 23 = .ok (.goto (-21), 3) := by decide +kernel
theorem dX4_bringBack_26 : decode cX4_bringBack 26 = .ok (.return_, 1) := by decide +kernel
theorem dX4_manyIn_0 : decode cX4_manyIn 0 = .ok (.iconst 0, 1) := by decide +kernel
theorem dX4_manyIn_1 : decode cX4_manyIn 1 = .ok (.istore_n 2, 1) := by decide +kernel
theorem dX4_manyIn_2 : decode cX4_manyIn 2 = .ok (.iconst 0, 1) := by decide +kernel
theorem dX4_manyIn_3 : decode cX4_manyIn 3 = .ok (.istore_n 3, 1) := by decide +kernel
theorem dX4_manyIn_4 : decode cX4_manyIn 4 = .ok (.iload_n 3, 1) := by decide +kernel
theorem dX4_manyIn_5 : decode cX4_manyIn 5 = .ok (.bipush 8, 2) := by decide +kernel
theorem dX4_manyIn_7 : decode cX4_manyIn 7 = .ok (.if_icmp .ge 26, 3) := by decide +kernel
theorem dX4_manyIn_10 : decode cX4_manyIn 10 = .ok (.iload_n 2, 1) := by decide +kernel
theorem dX4_manyIn_11 : decode cX4_manyIn 11 = .ok (.aload_n 0, 1) := by decide +kernel
theorem dX4_manyIn_12 : decode cX4_manyIn 12 = .ok (.iload_n 3, 1) := by decide +kernel
theorem dX4_manyIn_13 : decode cX4_manyIn 13 = .ok (.iload_n 1, 1) := by decide +kernel
theorem dX4_manyIn_14 : decode cX4_manyIn 14 = .ok (.invokevirtual 50, 3) := by decide +kernel
theorem dX4_manyIn_17 : decode cX4_manyIn 17 = .ok (.ifCond .eq 7, 3) := by decide +kernel
theorem dX4_manyIn_20 : decode cX4_manyIn 20 = .ok (.iconst 1, 1) := by decide +kernel
theorem dX4_manyIn_21 : decode cX4_manyIn 21 = .ok (.goto 4, 3) := by decide +kernel
theorem dX4_manyIn_24 : decode cX4_manyIn 24 = .ok (.iconst 0, 1) := by decide +kernel
theorem dX4_manyIn_25 : decode cX4_manyIn 25 = .ok (.iadd, 1) := by decide +kernel
theorem dX4_manyIn_26 : decode cX4_manyIn 26 = .ok (.istore_n 2, 1) := by decide +kernel
theorem dX4_manyIn_27 : decode cX4_manyIn 27 = .ok (.iinc 3 1, 3) := by decide +kernel
theorem dX4_manyIn_30 : decode cX4_manyIn 30 = .ok (.goto (-26), 3) := by decide +kernel
theorem dX4_manyIn_33 : decode cX4_manyIn 33 = .ok (.iload_n 2, 1) := by decide +kernel
theorem dX4_manyIn_34 : decode cX4_manyIn 34 = .ok (.ireturn, 1) := by decide +kernel
theorem dX4_connections_0 : decode cX4_connections 0 = .ok (.bipush 8, 2) := by decide +kernel
theorem dX4_connections_2 : decode cX4_connections 2 = .ok (.aload_n 0, 1) := by decide +kernel
theorem dX4_connections_3 : decode cX4_connections 3 = .ok (.iconst 0, 1) := by decide +kernel
theorem dX4_connections_4 : decode cX4_connections 4 = .ok (.invokevirtual 54, 3) := by decide +kernel
theorem dX4_connections_7 : decode cX4_connections 7 = .ok (.isub, 1) := by decide +kernel
theorem dX4_connections_8 : decode cX4_connections 8 = .ok (.ireturn, 1) := by decide +kernel
theorem dX4_lentTo_0 : decode cX4_lentTo 0 = .ok (.iconst 0, 1) := by decide +kernel
theorem dX4_lentTo_1 : decode cX4_lentTo 1 = .ok (.istore_n 2, 1) := by decide +kernel
theorem dX4_lentTo_2 : decode cX4_lentTo 2 = .ok (.iconst 0, 1) := by decide +kernel
theorem dX4_lentTo_3 : decode cX4_lentTo 3 = .ok (.istore_n 3, 1) := by decide +kernel
theorem dX4_lentTo_4 : decode cX4_lentTo 4 = .ok (.iload_n 3, 1) := by decide +kernel
theorem dX4_lentTo_5 : decode cX4_lentTo 5 = .ok (.bipush 8, 2) := by decide +kernel
theorem dX4_lentTo_7 : decode cX4_lentTo 7 = .ok (.if_icmp .ge 27, 3) := by decide +kernel
theorem dX4_lentTo_10 : decode cX4_lentTo 10 = .ok (.iload_n 2, 1) := by decide +kernel
theorem dX4_lentTo_11 : decode cX4_lentTo 11 = .ok (.aload_n 0, 1) := by decide +kernel
theorem dX4_lentTo_12 : decode cX4_lentTo 12 = .ok (.iload_n 3, 1) := by decide +kernel
theorem dX4_lentTo_13 : decode cX4_lentTo 13 = .ok (.iconst 1, 1) := by decide +kernel
theorem dX4_lentTo_14 : decode cX4_lentTo 14 = .ok (.invokevirtual 40, 3) := by decide +kernel
theorem dX4_lentTo_17 : decode cX4_lentTo 17 = .ok (.iload_n 1, 1) := by decide +kernel
theorem dX4_lentTo_18 : decode cX4_lentTo 18 = .ok (.if_icmp .ne 7, 3) := by decide +kernel
theorem dX4_lentTo_21 : decode cX4_lentTo 21 = .ok (.iconst 1, 1) := by decide +kernel
theorem dX4_lentTo_22 : decode cX4_lentTo 22 = .ok (.goto 4, 3) := by decide +kernel
theorem dX4_lentTo_25 : decode cX4_lentTo 25 = .ok (.iconst 0, 1) := by decide +kernel
theorem dX4_lentTo_26 : decode cX4_lentTo 26 = .ok (.iadd, 1) := by decide +kernel
theorem dX4_lentTo_27 : decode cX4_lentTo 27 = .ok (.istore_n 2, 1) := by decide +kernel
theorem dX4_lentTo_28 : decode cX4_lentTo 28 = .ok (.iinc 3 1, 3) := by decide +kernel
theorem dX4_lentTo_31 : decode cX4_lentTo 31 = .ok (.goto (-27), 3) := by decide +kernel
theorem dX4_lentTo_34 : decode cX4_lentTo 34 = .ok (.iload_n 2, 1) := by decide +kernel
theorem dX4_lentTo_35 : decode cX4_lentTo 35 = .ok (.ireturn, 1) := by decide +kernel
theorem dX4_mayHaveMore_0 : decode cX4_mayHaveMore 0 = .ok (.aload_n 0, 1) := by decide +kernel
theorem dX4_mayHaveMore_1 : decode cX4_mayHaveMore 1 = .ok (.iload_n 1, 1) := by decide +kernel
theorem dX4_mayHaveMore_2 : decode cX4_mayHaveMore 2 = .ok (.invokevirtual 58, 3) := by decide +kernel
theorem dX4_mayHaveMore_5 : decode cX4_mayHaveMore 5 = .ok (.aload_n 0, 1) := by decide +kernel
theorem dX4_mayHaveMore_6 : decode cX4_mayHaveMore 6 = .ok (.getfield 7, 3) := by decide +kernel
theorem dX4_mayHaveMore_9 : decode cX4_mayHaveMore 9 = .ok (.iconst 1, 1) := by decide +kernel
theorem dX4_mayHaveMore_10 : decode cX4_mayHaveMore 10 = .ok (.iaload, 1) := by decide +kernel
theorem dX4_mayHaveMore_11 : decode cX4_mayHaveMore 11 = .ok (.if_icmp .ge 7, 3) := by decide +kernel
theorem dX4_mayHaveMore_14 : decode cX4_mayHaveMore 14 = .ok (.iconst 1, 1) := by decide +kernel
theorem dX4_mayHaveMore_15 : decode cX4_mayHaveMore 15 = .ok (.goto 4, 3) := by decide +kernel
theorem dX4_mayHaveMore_18 : decode cX4_mayHaveMore 18 = .ok (.iconst 0, 1) := by decide +kernel
theorem dX4_mayHaveMore_19 : decode cX4_mayHaveMore 19 = .ok (.ireturn, 1) := by decide +kernel
theorem dX4_close_0 : decode cX4_close 0 = .ok (.aload_n 0, 1) := by decide +kernel
theorem dX4_close_1 : decode cX4_close 1 = .ok (.iload_n 1, 1) := by decide +kernel
theorem dX4_close_2 : decode cX4_close 2 = .ok (.iconst 0, 1) := by decide +kernel
theorem dX4_close_3 : decode cX4_close 3 = .ok (.iconst 0, 1) := by decide +kernel
theorem dX4_close_4 : decode cX4_close 4 = .ok (.invokevirtual 25, 3) := by decide +kernel
theorem dX4_close_7 : decode cX4_close 7 = .ok (.aload_n 0, 1) := by decide +kernel
theorem dX4_close_8 : decode cX4_close 8 = .ok (.iload_n 1, 1) := by decide +kernel
theorem dX4_close_9 : decode cX4_close 9 = .ok (.iconst 1, 1) := by decide +kernel
theorem dX4_close_10 : decode cX4_close 10 = .ok (.iconst (-1), 1) := by decide +kernel
theorem dX4_close_11 : decode cX4_close 11 = .ok (.invokevirtual 25, 3) := by decide +kernel
theorem dX4_close_14 : decode cX4_close 14 = .ok (.aload_n 0, 1) := by decide +kernel
theorem dX4_close_15 : decode cX4_close 15 = .ok (.iload_n 1, 1) := by decide +kernel
theorem dX4_close_16 : decode cX4_close 16 = .ok (.iconst 2, 1) := by decide +kernel
theorem dX4_close_17 : decode cX4_close 17 = .ok (.iconst 0, 1) := by decide +kernel
theorem dX4_close_18 : decode cX4_close 18 = .ok (.invokevirtual 25, 3) := by decide +kernel
theorem dX4_close_21 : decode cX4_close 21 = .ok (.aload_n 0, 1) := by decide +kernel
theorem dX4_close_22 : decode cX4_close 22 = .ok (.iload_n 1, 1) := by decide +kernel
theorem dX4_close_23 : decode cX4_close 23 = .ok (.iconst 3, 1) := by decide +kernel
theorem dX4_close_24 : decode cX4_close 24 = .ok (.iconst 0, 1) := by decide +kernel
theorem dX4_close_25 : decode cX4_close 25 = .ok (.invokevirtual 25, 3) := by decide +kernel
theorem dX4_close_28 : decode cX4_close 28 = .ok (.aload_n 0, 1) := by decide +kernel
theorem dX4_close_29 : decode cX4_close 29 = .ok (.iload_n 1, 1) := by decide +kernel
theorem dX4_close_30 : decode cX4_close 30 = .ok (.iconst 4, 1) := by decide +kernel
theorem dX4_close_31 : decode cX4_close 31 = .ok (.iconst 0, 1) := by decide +kernel
theorem dX4_close_32 : decode cX4_close 32 = .ok (.invokevirtual 25, 3) := by decide +kernel
theorem dX4_close_35 : decode cX4_close 35 = .ok (.aload_n 0, 1) := by decide +kernel
theorem dX4_close_36 : decode cX4_close 36 = .ok (.getfield 7, 3) := by decide +kernel
theorem dX4_close_39 : decode cX4_close 39 = .ok (.bipush 11, 2) := by decide +kernel
theorem dX4_close_41 : decode cX4_close 41 = .ok (.dup2, 1) := by decide +kernel
theorem dX4_close_42 : decode cX4_close 42 = .ok (.iaload, 1) := by decide +kernel
theorem dX4_close_43 : decode cX4_close 43 = .ok (.iconst 1, 1) := by decide +kernel
theorem dX4_close_44 : decode cX4_close 44 = .ok (.iadd, 1) := by decide +kernel
theorem dX4_close_45 : decode cX4_close 45 = .ok (.iastore, 1) := by decide +kernel
theorem dX4_close_46 : decode cX4_close 46 = .ok (.iload_n 2, 1) := by decide +kernel
theorem dX4_close_47 : decode cX4_close 47 = .ok (.iconst (-1), 1) := by decide +kernel
theorem dX4_close_48 : decode cX4_close 48 = .ok (.if_icmp .eq 13, 3) := by decide +kernel
theorem dX4_close_51 : decode cX4_close 51 = .ok (.aload_n 0, 1) := by decide +kernel
theorem dX4_close_52 : decode cX4_close 52 = .ok (.getfield 7, 3) := by decide +kernel
theorem dX4_close_55 : decode cX4_close 55 = .ok (.iload_n 2, 1) := by decide +kernel
theorem dX4_close_56 : decode cX4_close 56 = .ok (.dup2, 1) := by decide +kernel
theorem dX4_close_57 : decode cX4_close 57 = .ok (.iaload, 1) := by decide +kernel
theorem dX4_close_58 : decode cX4_close 58 = .ok (.iconst 1, 1) := by decide +kernel
theorem dX4_close_59 : decode cX4_close 59 = .ok (.iadd, 1) := by decide +kernel
theorem dX4_close_60 : decode cX4_close 60 = .ok (.iastore, 1) := by decide +kernel
theorem dX4_close_61 : decode cX4_close 61 = .ok (.return_, 1) := by decide +kernel
theorem dX4_nextIdle_0 : decode cX4_nextIdle 0 = .ok (.iconst (-1), 1) := by decide +kernel
theorem dX4_nextIdle_1 : decode cX4_nextIdle 1 = .ok (.istore_n 1, 1) := by decide +kernel
theorem dX4_nextIdle_2 : decode cX4_nextIdle 2 = .ok (.iconst 0, 1) := by decide +kernel
theorem dX4_nextIdle_3 : decode cX4_nextIdle 3 = .ok (.istore_n 2, 1) := by decide +kernel
theorem dX4_nextIdle_4 : decode cX4_nextIdle 4 = .ok (.iload_n 2, 1) := by decide +kernel
theorem dX4_nextIdle_5 : decode cX4_nextIdle 5 = .ok (.bipush 8, 2) := by decide +kernel
theorem dX4_nextIdle_7 : decode cX4_nextIdle 7 = .ok (.if_icmp .ge 81, 3) := by decide +kernel
theorem dX4_nextIdle_10 : decode cX4_nextIdle 10 = .ok (.aload_n 0, 1) := by decide +kernel
theorem dX4_nextIdle_11 : decode cX4_nextIdle 11 = .ok (.iload_n 2, 1) := by decide +kernel
theorem dX4_nextIdle_12 : decode cX4_nextIdle 12 = .ok (.iconst 1, 1) := by decide +kernel
theorem dX4_nextIdle_13 : decode cX4_nextIdle 13 = .ok (.invokevirtual 50, 3) := by decide +kernel
theorem dX4_nextIdle_16 : decode cX4_nextIdle 16 = .ok (.ifCond .eq 66, 3) := by decide +kernel
theorem dX4_nextIdle_19 : decode cX4_nextIdle 19 = .ok (.iload_n 1, 1) := by decide +kernel
theorem dX4_nextIdle_20 : decode cX4_nextIdle 20 = .ok (.iconst (-1), 1) := by decide +kernel
theorem dX4_nextIdle_21 : decode cX4_nextIdle 21 = .ok (.if_icmp .eq 45, 3) := by decide +kernel
theorem dX4_nextIdle_24 : decode cX4_nextIdle 24 = .ok (.aload_n 0, 1) := by decide +kernel
theorem dX4_nextIdle_25 : decode cX4_nextIdle 25 = .ok (.getfield 7, 3) := by decide +kernel
theorem dX4_nextIdle_28 : decode cX4_nextIdle 28 = .ok (.iconst 3, 1) := by decide +kernel
theorem dX4_nextIdle_29 : decode cX4_nextIdle 29 = .ok (.iaload, 1) := by decide +kernel
theorem dX4_nextIdle_30 : decode cX4_nextIdle 30 = .ok (.ifCond .ne 21, 3) := by decide +kernel
theorem dX4_nextIdle_33 : decode cX4_nextIdle 33 = .ok (.aload_n 0, 1) := by decide +kernel
theorem dX4_nextIdle_34 : decode cX4_nextIdle 34 = .ok (.iload_n 2, 1) := by decide +kernel
theorem dX4_nextIdle_35 : decode cX4_nextIdle 35 = .ok (.iconst 4, 1) := by decide +kernel
theorem dX4_nextIdle_36 : decode cX4_nextIdle 36 = .ok (.invokevirtual 40, 3) := by decide +kernel
theorem dX4_nextIdle_39 : decode cX4_nextIdle 39 = .ok (.aload_n 0, 1) := by decide +kernel
theorem dX4_nextIdle_40 : decode cX4_nextIdle 40 = .ok (.iload_n 1, 1) := by decide +kernel
theorem dX4_nextIdle_41 : decode cX4_nextIdle 41 = .ok (.iconst 4, 1) := by decide +kernel
theorem dX4_nextIdle_42 : decode cX4_nextIdle 42 = .ok (.invokevirtual 40, 3) := by decide +kernel
theorem dX4_nextIdle_45 : decode cX4_nextIdle 45 = .ok (.if_icmp .le 25, 3) := by decide +kernel
theorem dX4_nextIdle_48 : decode cX4_nextIdle 48 = .ok (.goto 18, 3) := by decide +kernel
theorem dX4_nextIdle_51 : decode cX4_nextIdle 51 = .ok (.aload_n 0, 1) := by decide +kernel
theorem dX4_nextIdle_52 : decode cX4_nextIdle 52 = .ok (.iload_n 2, 1) := by decide +kernel
theorem dX4_nextIdle_53 : decode cX4_nextIdle 53 = .ok (.iconst 4, 1) := by decide +kernel
theorem dX4_nextIdle_54 : decode cX4_nextIdle 54 = .ok (.invokevirtual 40, 3) := by decide +kernel
theorem dX4_nextIdle_57 : decode cX4_nextIdle 57 = .ok (.aload_n 0, 1) := by decide +kernel
theorem dX4_nextIdle_58 : decode cX4_nextIdle 58 = .ok (.iload_n 1, 1) := by decide +kernel
theorem dX4_nextIdle_59 : decode cX4_nextIdle 59 = .ok (.iconst 4, 1) := by decide +kernel
theorem dX4_nextIdle_60 : decode cX4_nextIdle 60 = .ok (.invokevirtual 40, 3) := by decide +kernel
theorem dX4_nextIdle_63 : decode cX4_nextIdle 63 = .ok (.if_icmp .ge 7, 3) := by decide +kernel
theorem dX4_nextIdle_66 : decode cX4_nextIdle 66 = .ok (.iconst 1, 1) := by decide +kernel
theorem dX4_nextIdle_67 : decode cX4_nextIdle 67 = .ok (.goto 4, 3) := by decide +kernel
theorem dX4_nextIdle_70 : decode cX4_nextIdle 70 = .ok (.iconst 0, 1) := by decide +kernel
theorem dX4_nextIdle_71 : decode cX4_nextIdle 71 = .ok (.istore_n 3, 1) := by decide +kernel
theorem dX4_nextIdle_72 : decode cX4_nextIdle 72 = .ok (.iload_n 3, 1) := by decide +kernel
theorem dX4_nextIdle_73 : decode cX4_nextIdle 73 = .ok (.ifCond .eq 7, 3) := by decide +kernel
theorem dX4_nextIdle_76 : decode cX4_nextIdle 76 = .ok (.iload_n 2, 1) := by decide +kernel
theorem dX4_nextIdle_77 : decode cX4_nextIdle 77 = .ok (.goto 4, 3) := by decide +kernel
theorem dX4_nextIdle_80 : decode cX4_nextIdle 80 = .ok (.iload_n 1, 1) := by decide +kernel
theorem dX4_nextIdle_81 : decode cX4_nextIdle 81 = .ok (.istore_n 1, 1) := by decide +kernel
theorem dX4_nextIdle_82 : decode cX4_nextIdle 82 = .ok (.iinc 2 1, 3) := by decide +kernel
theorem dX4_nextIdle_85 : decode cX4_nextIdle 85 = .ok (.goto (-81), 3) := by decide +kernel
theorem dX4_nextIdle_88 : decode cX4_nextIdle 88 = .ok (.iload_n 1, 1) := by decide +kernel
theorem dX4_nextIdle_89 : decode cX4_nextIdle 89 = .ok (.ireturn, 1) := by decide +kernel
theorem dX4_openOne_0 : decode cX4_openOne 0 = .ok (.iconst 0, 1) := by decide +kernel
theorem dX4_openOne_1 : decode cX4_openOne 1 = .ok (.istore_n 1, 1) := by decide +kernel
theorem dX4_openOne_2 : decode cX4_openOne 2 = .ok (.aload_n 0, 1) := by decide +kernel
theorem dX4_openOne_3 : decode cX4_openOne 3 = .ok (.iload_n 1, 1) := by decide +kernel
theorem dX4_openOne_4 : decode cX4_openOne 4 = .ok (.iconst 0, 1) := by decide +kernel
theorem dX4_openOne_5 : decode cX4_openOne 5 = .ok (.invokevirtual 50, 3) := by decide +kernel
theorem dX4_openOne_8 : decode cX4_openOne 8 = .ok (.ifCond .ne 9, 3) := by decide +kernel
theorem dX4_openOne_11 : decode cX4_openOne 11 = .ok (.iinc 1 1, 3) := by decide +kernel
theorem dX4_openOne_14 : decode cX4_openOne 14 = .ok (.goto (-12), 3) := by decide +kernel
theorem dX4_openOne_17 : decode cX4_openOne 17 = .ok (.aload_n 0, 1) := by decide +kernel
theorem dX4_openOne_18 : decode cX4_openOne 18 = .ok (.iload_n 1, 1) := by decide +kernel
theorem dX4_openOne_19 : decode cX4_openOne 19 = .ok (.iconst 0, 1) := by decide +kernel
theorem dX4_openOne_20 : decode cX4_openOne 20 = .ok (.iconst 1, 1) := by decide +kernel
theorem dX4_openOne_21 : decode cX4_openOne 21 = .ok (.invokevirtual 25, 3) := by decide +kernel
theorem dX4_openOne_24 : decode cX4_openOne 24 = .ok (.aload_n 0, 1) := by decide +kernel
theorem dX4_openOne_25 : decode cX4_openOne 25 = .ok (.iload_n 1, 1) := by decide +kernel
theorem dX4_openOne_26 : decode cX4_openOne 26 = .ok (.iconst 4, 1) := by decide +kernel
theorem dX4_openOne_27 : decode cX4_openOne 27 = .ok (.aload_n 0, 1) := by decide +kernel
theorem dX4_openOne_28 : decode cX4_openOne 28 = .ok (.getfield 7, 3) := by decide +kernel
theorem dX4_openOne_31 : decode cX4_openOne 31 = .ok (.bipush 9, 2) := by decide +kernel
theorem dX4_openOne_33 : decode cX4_openOne 33 = .ok (.iaload, 1) := by decide +kernel
theorem dX4_openOne_34 : decode cX4_openOne 34 = .ok (.invokevirtual 25, 3) := by decide +kernel
theorem dX4_openOne_37 : decode cX4_openOne 37 = .ok (.aload_n 0, 1) := by decide +kernel
theorem dX4_openOne_38 : decode cX4_openOne 38 = .ok (.iload_n 1, 1) := by decide +kernel
theorem dX4_openOne_39 : decode cX4_openOne 39 = .ok (.iconst 5, 1) := by decide +kernel
theorem dX4_openOne_40 : decode cX4_openOne 40 = .ok (.aload_n 0, 1) := by decide +kernel
theorem dX4_openOne_41 : decode cX4_openOne 41 = .ok (.iload_n 1, 1) := by decide +kernel
theorem dX4_openOne_42 : decode cX4_openOne 42 = .ok (.iconst 5, 1) := by decide +kernel
theorem dX4_openOne_43 : decode cX4_openOne 43 = .ok (.invokevirtual 40, 3) := by decide +kernel
theorem dX4_openOne_46 : decode cX4_openOne 46 = .ok (.iconst 1, 1) := by decide +kernel
theorem dX4_openOne_47 : decode cX4_openOne 47 = .ok (.iadd, 1) := by decide +kernel
theorem dX4_openOne_48 : decode cX4_openOne 48 = .ok (.invokevirtual 25, 3) := by decide +kernel
theorem dX4_openOne_51 : decode cX4_openOne 51 = .ok (.aload_n 0, 1) := by decide +kernel
theorem dX4_openOne_52 : decode cX4_openOne 52 = .ok (.getfield 7, 3) := by decide +kernel
theorem dX4_openOne_55 : decode cX4_openOne 55 = .ok (.bipush 10, 2) := by decide +kernel
theorem dX4_openOne_57 : decode cX4_openOne 57 = .ok (.dup2, 1) := by decide +kernel
theorem dX4_openOne_58 : decode cX4_openOne 58 = .ok (.iaload, 1) := by decide +kernel
theorem dX4_openOne_59 : decode cX4_openOne 59 = .ok (.iconst 1, 1) := by decide +kernel
theorem dX4_openOne_60 : decode cX4_openOne 60 = .ok (.iadd, 1) := by decide +kernel
theorem dX4_openOne_61 : decode cX4_openOne 61 = .ok (.iastore, 1) := by decide +kernel
theorem dX4_openOne_62 : decode cX4_openOne 62 = .ok (.iload_n 1, 1) := by decide +kernel
theorem dX4_openOne_63 : decode cX4_openOne 63 = .ok (.ireturn, 1) := by decide +kernel
theorem dX4_look_0 : decode cX4_look 0 = .ok (.aload_n 0, 1) := by decide +kernel
theorem dX4_look_1 : decode cX4_look 1 = .ok (.invokevirtual 61, 3) := by decide +kernel
theorem dX4_look_4 : decode cX4_look 4 = .ok (.istore_n 1, 1) := by decide +kernel
theorem dX4_look_5 : decode cX4_look 5 = .ok (.aload_n 0, 1) := by decide +kernel
theorem dX4_look_6 : decode cX4_look 6 = .ok (.getfield 7, 3) := by decide +kernel
theorem dX4_look_9 : decode cX4_look 9 = .ok (.iconst 4, 1) := by decide +kernel
theorem dX4_look_10 : decode cX4_look 10 = .ok (.iaload, 1) := by decide +kernel
theorem dX4_look_11 : decode cX4_look 11 = .ok (.iconst 1, 1) := by decide +kernel
theorem dX4_look_12 : decode cX4_look 12 = .ok (.if_icmp .ne 7, 3) := by decide +kernel
theorem dX4_look_15 : decode cX4_look 15 = .ok (.iconst 1, 1) := by decide +kernel
theorem dX4_look_16 : decode cX4_look 16 = .ok (.goto 4, 3) := by decide +kernel
theorem dX4_look_19 : decode cX4_look 19 = .ok (.iconst 0, 1) := by decide +kernel
theorem dX4_look_20 : decode cX4_look 20 = .ok (.istore_n 2, 1) := by decide +kernel
theorem dX4_look_21 : decode cX4_look 21 = .ok (.iload_n 1, 1) := by decide +kernel
theorem dX4_look_22 : decode cX4_look 22 = .ok (.iconst (-1), 1) := by decide +kernel
theorem dX4_look_23 : decode cX4_look 23 = .ok (.if_icmp .eq 44, 3) := by decide +kernel
theorem dX4_look_26 : decode cX4_look 26 = .ok (.iload_n 2, 1) := by decide +kernel
theorem dX4_look_27 : decode cX4_look 27 = .ok (.ifCond .eq 40, 3) := by decide +kernel
theorem dX4_look_30 : decode cX4_look 30 = .ok (.aload_n 0, 1) := by decide +kernel
theorem dX4_look_31 : decode cX4_look 31 = .ok (.getfield 7, 3) := by decide +kernel
theorem dX4_look_34 : decode cX4_look 34 = .ok (.bipush 15, 2) := by decide +kernel
theorem dX4_look_36 : decode cX4_look 36 = .ok (.dup2, 1) := by decide +kernel
theorem dX4_look_37 : decode cX4_look 37 = .ok (.iaload, 1) := by decide +kernel
theorem dX4_look_38 : decode cX4_look 38 = .ok (.iconst 1, 1) := by decide +kernel
theorem dX4_look_39 : decode cX4_look 39 = .ok (.iadd, 1) := by decide +kernel
theorem dX4_look_40 : decode cX4_look 40 = .ok (.iastore, 1) := by decide +kernel
theorem dX4_look_41 : decode cX4_look 41 = .ok (.aload_n 0, 1) := by decide +kernel
theorem dX4_look_42 : decode cX4_look 42 = .ok (.iload_n 1, 1) := by decide +kernel
theorem dX4_look_43 : decode cX4_look 43 = .ok (.iconst 2, 1) := by decide +kernel
theorem dX4_look_44 : decode cX4_look 44 = .ok (.invokevirtual 40, 3) := by decide +kernel
theorem dX4_look_47 : decode cX4_look 47 = .ok (.ifCond .ne 5, 3) := by decide +kernel
theorem dX4_look_50 : decode cX4_look 50 = .ok (.iload_n 1, 1) := by decide +kernel
theorem dX4_look_51 : decode cX4_look 51 = .ok (.ireturn, 1) := by decide +kernel
theorem dX4_look_52 : decode cX4_look 52 = .ok (.aload_n 0, 1) := by decide +kernel
theorem dX4_look_53 : decode cX4_look 53 = .ok (.iload_n 1, 1) := by decide +kernel
theorem dX4_look_54 : decode cX4_look 54 = .ok (.bipush 12, 2) := by decide +kernel
theorem dX4_look_56 : decode cX4_look 56 = .ok (.invokevirtual 65, 3) := by decide +kernel
theorem dX4_look_59 : decode cX4_look 59 = .ok (.aload_n 0, 1) := by decide +kernel
theorem dX4_look_60 : decode cX4_look 60 = .ok (.invokevirtual 61, 3) := by decide +kernel
theorem dX4_look_63 : decode cX4_look 63 = .ok (.istore_n 1, 1) := by decide +kernel
theorem dX4_look_64 : decode cX4_look 64 = .ok (.goto (-43), 3) := by decide +kernel
theorem dX4_look_67 : decode cX4_look 67 = .ok (.iload_n 1, 1) := by decide +kernel
theorem dX4_look_68 : decode cX4_look 68 = .ok (.iconst (-1), 1) := by decide +kernel
theorem dX4_look_69 : decode cX4_look 69 = .ok (.if_icmp .eq 5, 3) := by decide +kernel
theorem dX4_look_72 : decode cX4_look 72 = .ok (.iload_n 1, 1) := by decide +kernel
theorem dX4_look_73 : decode cX4_look 73 = .ok (.ireturn, 1) := by decide +kernel
theorem dX4_look_74 : decode cX4_look 74 = .ok (.aload_n 0, 1) := by decide +kernel
theorem dX4_look_75 : decode cX4_look 75 = .ok (.invokevirtual 69, 3) := by decide +kernel
theorem dX4_look_78 : decode cX4_look 78 = .ok (.aload_n 0, 1) := by decide +kernel
theorem dX4_look_79 : decode cX4_look 79 = .ok (.getfield 7, 3) := by decide +kernel
theorem dX4_look_82 : decode cX4_look 82 = .ok (.iconst 0, 1) := by decide +kernel
theorem dX4_look_83 : decode cX4_look 83 = .ok (.iaload, 1) := by decide +kernel
theorem dX4_look_84 : decode cX4_look 84 = .ok (.if_icmp .ge 10, 3) := by decide +kernel
theorem dX4_look_87 : decode cX4_look 87 = .ok (.aload_n 0, 1) := by decide +kernel
theorem dX4_look_88 : decode cX4_look 88 = .ok (.invokevirtual 72, 3) := by decide +kernel
theorem dX4_look_91 : decode cX4_look 91 = .ok (.goto 4, 3) := by decide +kernel
theorem dX4_look_94 : decode cX4_look 94 = .ok (.iconst (-1), 1) := by decide +kernel
theorem dX4_look_95 : decode cX4_look 95 = .ok (.ireturn, 1) := by decide +kernel
theorem dX4_lend_0 : decode cX4_lend 0 = .ok (.aload_n 0, 1) := by decide +kernel
theorem dX4_lend_1 : decode cX4_lend 1 = .ok (.iload_n 1, 1) := by decide +kernel
theorem dX4_lend_2 : decode cX4_lend 2 = .ok (.iconst 0, 1) := by decide +kernel
theorem dX4_lend_3 : decode cX4_lend 3 = .ok (.iconst 2, 1) := by decide +kernel
theorem dX4_lend_4 : decode cX4_lend 4 = .ok (.invokevirtual 25, 3) := by decide +kernel
theorem dX4_lend_7 : decode cX4_lend 7 = .ok (.aload_n 0, 1) := by decide +kernel
theorem dX4_lend_8 : decode cX4_lend 8 = .ok (.iload_n 1, 1) := by decide +kernel
theorem dX4_lend_9 : decode cX4_lend 9 = .ok (.iconst 1, 1) := by decide +kernel
theorem dX4_lend_10 : decode cX4_lend 10 = .ok (.iload_n 2, 1) := by decide +kernel
theorem dX4_lend_11 : decode cX4_lend 11 = .ok (.invokevirtual 25, 3) := by decide +kernel
theorem dX4_lend_14 : decode cX4_lend 14 = .ok (.aload_n 0, 1) := by decide +kernel
theorem dX4_lend_15 : decode cX4_lend 15 = .ok (.iload_n 1, 1) := by decide +kernel
theorem dX4_lend_16 : decode cX4_lend 16 = .ok (.iconst 3, 1) := by decide +kernel
theorem dX4_lend_17 : decode cX4_lend 17 = .ok (.aload_n 0, 1) := by decide +kernel
theorem dX4_lend_18 : decode cX4_lend 18 = .ok (.iload_n 1, 1) := by decide +kernel
theorem dX4_lend_19 : decode cX4_lend 19 = .ok (.iconst 3, 1) := by decide +kernel
theorem dX4_lend_20 : decode cX4_lend 20 = .ok (.invokevirtual 40, 3) := by decide +kernel
theorem dX4_lend_23 : decode cX4_lend 23 = .ok (.iconst 1, 1) := by decide +kernel
theorem dX4_lend_24 : decode cX4_lend 24 = .ok (.iadd, 1) := by decide +kernel
theorem dX4_lend_25 : decode cX4_lend 25 = .ok (.invokevirtual 25, 3) := by decide +kernel
theorem dX4_lend_28 : decode cX4_lend 28 = .ok (.aload_n 0, 1) := by decide +kernel
theorem dX4_lend_29 : decode cX4_lend 29 = .ok (.iload_n 1, 1) := by decide +kernel
theorem dX4_lend_30 : decode cX4_lend 30 = .ok (.iconst 4, 1) := by decide +kernel
theorem dX4_lend_31 : decode cX4_lend 31 = .ok (.aload_n 0, 1) := by decide +kernel
theorem dX4_lend_32 : decode cX4_lend 32 = .ok (.getfield 7, 3) := by decide +kernel
theorem dX4_lend_35 : decode cX4_lend 35 = .ok (.bipush 9, 2) := by decide +kernel
theorem dX4_lend_37 : decode cX4_lend 37 = .ok (.iaload, 1) := by decide +kernel
theorem dX4_lend_38 : decode cX4_lend 38 = .ok (.invokevirtual 25, 3) := by decide +kernel
theorem dX4_lend_41 : decode cX4_lend 41 = .ok (.aload_n 0, 1) := by decide +kernel
theorem dX4_lend_42 : decode cX4_lend 42 = .ok (.getfield 7, 3) := by decide +kernel
theorem dX4_lend_45 : decode cX4_lend 45 = .ok (.bipush 16, 2) := by decide +kernel
theorem dX4_lend_47 : decode cX4_lend 47 = .ok (.dup2, 1) := by decide +kernel
theorem dX4_lend_48 : decode cX4_lend 48 = .ok (.iaload, 1) := by decide +kernel
theorem dX4_lend_49 : decode cX4_lend 49 = .ok (.iconst 1, 1) := by decide +kernel
theorem dX4_lend_50 : decode cX4_lend 50 = .ok (.iadd, 1) := by decide +kernel
theorem dX4_lend_51 : decode cX4_lend 51 = .ok (.iastore, 1) := by decide +kernel
theorem dX4_lend_52 : decode cX4_lend 52 = .ok (.aload_n 0, 1) := by decide +kernel
theorem dX4_lend_53 : decode cX4_lend 53 = .ok (.iload_n 2, 1) := by decide +kernel
theorem dX4_lend_54 : decode cX4_lend 54 = .ok (.iconst 2, 1) := by decide +kernel
theorem dX4_lend_55 : decode cX4_lend 55 = .ok (.aload_n 0, 1) := by decide +kernel
theorem dX4_lend_56 : decode cX4_lend 56 = .ok (.iload_n 2, 1) := by decide +kernel
theorem dX4_lend_57 : decode cX4_lend 57 = .ok (.iconst 2, 1) := by decide +kernel
theorem dX4_lend_58 : decode cX4_lend 58 = .ok (.invokevirtual 44, 3) := by decide +kernel
theorem dX4_lend_61 : decode cX4_lend 61 = .ok (.iconst 1, 1) := by decide +kernel
theorem dX4_lend_62 : decode cX4_lend 62 = .ok (.iadd, 1) := by decide +kernel
theorem dX4_lend_63 : decode cX4_lend 63 = .ok (.invokevirtual 29, 3) := by decide +kernel
theorem dX4_lend_66 : decode cX4_lend 66 = .ok (.aload_n 0, 1) := by decide +kernel
theorem dX4_lend_67 : decode cX4_lend 67 = .ok (.getfield 22, 3) := by decide +kernel
theorem dX4_lend_70 : decode cX4_lend 70 = .ok (.iload_n 2, 1) := by decide +kernel
theorem dX4_lend_71 : decode cX4_lend 71 = .ok (.iload_n 1, 1) := by decide +kernel
theorem dX4_lend_72 : decode cX4_lend 72 = .ok (.iastore, 1) := by decide +kernel
theorem dX4_lend_73 : decode cX4_lend 73 = .ok (.return_, 1) := by decide +kernel
theorem dX4_placeInQueue_0 : decode cX4_placeInQueue 0 = .ok (.iconst 0, 1) := by decide +kernel
theorem dX4_placeInQueue_1 : decode cX4_placeInQueue 1 = .ok (.istore_n 2, 1) := by decide +kernel
theorem dX4_placeInQueue_2 : decode cX4_placeInQueue 2 = .ok (.iload_n 2, 1) := by decide +kernel
theorem dX4_placeInQueue_3 : decode cX4_placeInQueue 3 = .ok (.aload_n 0, 1) := by decide +kernel
theorem dX4_placeInQueue_4 : decode cX4_placeInQueue 4 = .ok (.getfield 7, 3) := by decide +kernel
theorem dX4_placeInQueue_7 : decode cX4_placeInQueue 7 = .ok (.bipush 17, 2) := by decide +kernel
theorem dX4_placeInQueue_9 : decode cX4_placeInQueue 9 = .ok (.iaload, 1) := by decide +kernel
theorem dX4_placeInQueue_10 : decode cX4_placeInQueue 10 = .ok (.if_icmp .ge 24, 3) := by decide +kernel
theorem dX4_placeInQueue_13 : decode cX4_placeInQueue 13 = .ok (.aload_n 0, 1) := by decide +kernel
theorem dX4_placeInQueue_14 : decode cX4_placeInQueue 14 = .ok (.getfield 7, 3) := by decide +kernel
theorem dX4_placeInQueue_17 : decode cX4_placeInQueue 17 = .ok (.bipush 18, 2) := by decide +kernel
theorem dX4_placeInQueue_19 : decode cX4_placeInQueue 19 = .ok (.iload_n 2, 1) := by decide +kernel
theorem dX4_placeInQueue_20 : decode cX4_placeInQueue 20 = .ok (.iadd, 1) := by decide +kernel
theorem dX4_placeInQueue_21 : decode cX4_placeInQueue 21 = .ok (.iaload, 1) := by decide +kernel
theorem dX4_placeInQueue_22 : decode cX4_placeInQueue 22 = .ok (.iload_n 1, 1) := by decide +kernel
theorem dX4_placeInQueue_23 : decode cX4_placeInQueue 23 = .ok (.if_icmp .ne 5, 3) := by decide +kernel
theorem dX4_placeInQueue_26 : decode cX4_placeInQueue 26 = .ok (.iload_n 2, 1) := by decide +kernel
theorem dX4_placeInQueue_27 : decode cX4_placeInQueue 27 = .ok (.ireturn, 1) := by decide +kernel
theorem dX4_placeInQueue_28 : decode cX4_placeInQueue 28 = .ok (.iinc 2 1, 3) := by decide +kernel
theorem dX4_placeInQueue_31 : decode cX4_placeInQueue 31 = .ok (.goto (-29), 3) := by decide +kernel
theorem dX4_placeInQueue_34 : decode cX4_placeInQueue 34 = .ok (.iconst (-1), 1) := by decide +kernel
theorem dX4_placeInQueue_35 : decode cX4_placeInQueue 35 = .ok (.ireturn, 1) := by decide +kernel
theorem dX4_waits_0 : decode cX4_waits 0 = .ok (.aload_n 0, 1) := by decide +kernel
theorem dX4_waits_1 : decode cX4_waits 1 = .ok (.iload_n 1, 1) := by decide +kernel
theorem dX4_waits_2 : decode cX4_waits 2 = .ok (.invokevirtual 75, 3) := by decide +kernel
theorem dX4_waits_5 : decode cX4_waits 5 = .ok (.iconst (-1), 1) := by decide +kernel
theorem dX4_waits_6 : decode cX4_waits 6 = .ok (.if_icmp .eq 7, 3) := by decide +kernel
theorem dX4_waits_9 : decode cX4_waits 9 = .ok (.iconst 1, 1) := by decide +kernel
theorem dX4_waits_10 : decode cX4_waits 10 = .ok (.goto 4, 3) := by decide +kernel
theorem dX4_waits_13 : decode cX4_waits 13 = .ok (.iconst 0, 1) := by decide +kernel
theorem dX4_waits_14 : decode cX4_waits 14 = .ok (.ireturn, 1) := by decide +kernel
theorem dX4_waitedFor_0 : decode cX4_waitedFor 0 = .ok (.aload_n 0, 1) := by decide +kernel
theorem dX4_waitedFor_1 : decode cX4_waitedFor 1 = .ok (.getfield 7, 3) := by decide +kernel
theorem dX4_waitedFor_4 : decode cX4_waitedFor 4 = .ok (.bipush 9, 2) := by decide +kernel
theorem dX4_waitedFor_6 : decode cX4_waitedFor 6 = .ok (.iaload, 1) := by decide +kernel
theorem dX4_waitedFor_7 : decode cX4_waitedFor 7 = .ok (.aload_n 0, 1) := by decide +kernel
theorem dX4_waitedFor_8 : decode cX4_waitedFor 8 = .ok (.iload_n 1, 1) := by decide +kernel
theorem dX4_waitedFor_9 : decode cX4_waitedFor 9 = .ok (.iconst 1, 1) := by decide +kernel
theorem dX4_waitedFor_10 : decode cX4_waitedFor 10 = .ok (.invokevirtual 44, 3) := by decide +kernel
theorem dX4_waitedFor_13 : decode cX4_waitedFor 13 = .ok (.isub, 1) := by decide +kernel
theorem dX4_waitedFor_14 : decode cX4_waitedFor 14 = .ok (.ireturn, 1) := by decide +kernel
theorem dX4_leaveQueue_0 : decode cX4_leaveQueue 0 = .ok (.aload_n 0, 1) := by decide +kernel
theorem dX4_leaveQueue_1 : decode cX4_leaveQueue 1 = .ok (.iload_n 1, 1) := by decide +kernel
theorem dX4_leaveQueue_2 : decode cX4_leaveQueue 2 = .ok (.invokevirtual 75, 3) := by decide +kernel
theorem dX4_leaveQueue_5 : decode cX4_leaveQueue 5 = .ok (.istore_n 2, 1) := by decide +kernel
theorem dX4_leaveQueue_6 : decode cX4_leaveQueue 6 = .ok (.aload_n 0, 1) := by decide +kernel
theorem dX4_leaveQueue_7 : decode cX4_leaveQueue 7 = .ok (.getfield 7, 3) := by decide +kernel
theorem dX4_leaveQueue_10 : decode cX4_leaveQueue 10 = .ok (.bipush 17, 2) := by decide +kernel
theorem dX4_leaveQueue_12 : decode cX4_leaveQueue 12 = .ok (.dup2, 1) := by decide +kernel
theorem dX4_leaveQueue_13 : decode cX4_leaveQueue 13 = .ok (.iaload, 1) := by decide +kernel
theorem dX4_leaveQueue_14 : decode cX4_leaveQueue 14 = .ok (.iconst 1, 1) := by decide +kernel
theorem dX4_leaveQueue_15 : decode cX4_leaveQueue 15 = .ok (.isub, 1) := by decide +kernel
theorem dX4_leaveQueue_16 : decode cX4_leaveQueue 16 = .ok (.iastore, 1) := by decide +kernel
theorem dX4_leaveQueue_17 : decode cX4_leaveQueue 17 = .ok (.iload_n 2, 1) := by decide +kernel
theorem dX4_leaveQueue_18 : decode cX4_leaveQueue 18 = .ok (.aload_n 0, 1) := by decide +kernel
theorem dX4_leaveQueue_19 : decode cX4_leaveQueue 19 = .ok (.getfield 7, 3) := by decide +kernel
theorem dX4_leaveQueue_22 : decode cX4_leaveQueue 22 = .ok (.bipush 17, 2) := by decide +kernel
theorem dX4_leaveQueue_24 : decode cX4_leaveQueue 24 = .ok (.iaload, 1) := by decide +kernel
theorem dX4_leaveQueue_25 : decode cX4_leaveQueue 25 = .ok (.if_icmp .ge 29, 3) := by decide +kernel
theorem dX4_leaveQueue_28 : decode cX4_leaveQueue 28 = .ok (.aload_n 0, 1) := by decide +kernel
theorem dX4_leaveQueue_29 : decode cX4_leaveQueue 29 = .ok (.getfield 7, 3) := by decide +kernel
theorem dX4_leaveQueue_32 : decode cX4_leaveQueue 32 = .ok (.bipush 18, 2) := by decide +kernel
theorem dX4_leaveQueue_34 : decode cX4_leaveQueue 34 = .ok (.iload_n 2, 1) := by decide +kernel
theorem dX4_leaveQueue_35 : decode cX4_leaveQueue 35 = .ok (.iadd, 1) := by decide +kernel
theorem dX4_leaveQueue_36 : decode cX4_leaveQueue 36 = .ok (.aload_n 0, 1) := by decide +kernel
theorem dX4_leaveQueue_37 : decode cX4_leaveQueue 37 = .ok (.getfield 7, 3) := by decide +kernel
theorem dX4_leaveQueue_40 : decode cX4_leaveQueue 40 = .ok (.bipush 18, 2) := by decide +kernel
theorem dX4_leaveQueue_42 : decode cX4_leaveQueue 42 = .ok (.iload_n 2, 1) := by decide +kernel
theorem dX4_leaveQueue_43 : decode cX4_leaveQueue 43 = .ok (.iadd, 1) := by decide +kernel
theorem dX4_leaveQueue_44 : decode cX4_leaveQueue 44 = .ok (.iconst 1, 1) := by decide +kernel
theorem dX4_leaveQueue_45 : decode cX4_leaveQueue 45 = .ok (.iadd, 1) := by decide +kernel
theorem dX4_leaveQueue_46 : decode cX4_leaveQueue 46 = .ok (.iaload, 1) := by decide +kernel
theorem dX4_leaveQueue_47 : decode cX4_leaveQueue 47 = .ok (.iastore, 1) := by decide +kernel
theorem dX4_leaveQueue_48 : decode cX4_leaveQueue 48 = .ok (.iinc 2 1, 3) := by decide +kernel
theorem dX4_leaveQueue_51 : decode cX4_leaveQueue 51 = .ok (.goto (-34), 3) := by decide +kernel
theorem dX4_leaveQueue_54 : decode cX4_leaveQueue 54 = .ok (.aload_n 0, 1) := by decide +kernel
theorem dX4_leaveQueue_55 : decode cX4_leaveQueue 55 = .ok (.getfield 7, 3) := by decide +kernel
theorem dX4_leaveQueue_58 : decode cX4_leaveQueue 58 = .ok (.bipush 18, 2) := by decide +kernel
theorem dX4_leaveQueue_60 : decode cX4_leaveQueue 60 = .ok (.aload_n 0, 1) := by decide +kernel
theorem dX4_leaveQueue_61 : decode cX4_leaveQueue 61 = .ok (.getfield 7, 3) := by decide +kernel
theorem dX4_leaveQueue_64 : decode cX4_leaveQueue 64 = .ok (.bipush 17, 2) := by decide +kernel
theorem dX4_leaveQueue_66 : decode cX4_leaveQueue 66 = .ok (.iaload, 1) := by decide +kernel
theorem dX4_leaveQueue_67 : decode cX4_leaveQueue 67 = .ok (.iadd, 1) := by decide +kernel
theorem dX4_leaveQueue_68 : decode cX4_leaveQueue 68 = .ok (.iconst 0, 1) := by decide +kernel
theorem dX4_leaveQueue_69 : decode cX4_leaveQueue 69 = .ok (.iastore, 1) := by decide +kernel
theorem dX4_leaveQueue_70 : decode cX4_leaveQueue 70 = .ok (.return_, 1) := by decide +kernel
theorem dX4_firstToServe_0 : decode cX4_firstToServe 0 = .ok (.iconst 0, 1) := by decide +kernel
theorem dX4_firstToServe_1 : decode cX4_firstToServe 1 = .ok (.istore_n 1, 1) := by decide +kernel
theorem dX4_firstToServe_2 : decode cX4_firstToServe 2 = .ok (.iload_n 1, 1) := by decide +kernel
theorem dX4_firstToServe_3 : decode cX4_firstToServe 3 = .ok (.aload_n 0, 1) := by decide +kernel
theorem dX4_firstToServe_4 : decode cX4_firstToServe 4 = .ok (.getfield 7, 3) := by decide +kernel
theorem dX4_firstToServe_7 : decode cX4_firstToServe 7 = .ok (.bipush 17, 2) := by decide +kernel
theorem dX4_firstToServe_9 : decode cX4_firstToServe 9 = .ok (.iaload, 1) := by decide +kernel
theorem dX4_firstToServe_10 : decode cX4_firstToServe 10 = .ok (.if_icmp .ge 35, 3) := by decide +kernel
theorem dX4_firstToServe_13 : decode cX4_firstToServe 13 = .ok (.aload_n 0, 1) := by decide +kernel
theorem dX4_firstToServe_14 : decode cX4_firstToServe 14 = .ok (.aload_n 0, 1) := by decide +kernel
theorem dX4_firstToServe_15 : decode cX4_firstToServe 15 = .ok (.getfield 7, 3) := by decide +kernel
theorem dX4_firstToServe_18 : decode cX4_firstToServe 18 = .ok (.bipush 18, 2) := by decide +kernel
theorem dX4_firstToServe_20 : decode cX4_firstToServe 20 = .ok (.iload_n 1, 1) := by decide +kernel
theorem dX4_firstToServe_21 : decode cX4_firstToServe 21 = .ok (.iadd, 1) := by decide +kernel
theorem dX4_firstToServe_22 : decode cX4_firstToServe 22 = .ok (.iaload, 1) := by decide +kernel
theorem dX4_firstToServe_23 : decode cX4_firstToServe 23 = .ok (.invokevirtual 78, 3) := by decide +kernel
theorem dX4_firstToServe_26 : decode cX4_firstToServe 26 = .ok (.ifCond .eq 13, 3) := by decide +kernel
theorem dX4_firstToServe_29 : decode cX4_firstToServe 29 = .ok (.aload_n 0, 1) := by decide +kernel
theorem dX4_firstToServe_30 : decode cX4_firstToServe 30 = .ok (.getfield 7, 3) := by decide +kernel
theorem dX4_firstToServe_33 : decode cX4_firstToServe 33 = .ok (.bipush 18, 2) := by decide +kernel
theorem dX4_firstToServe_35 : decode cX4_firstToServe 35 = .ok (.iload_n 1, 1) := by decide +kernel
theorem dX4_firstToServe_36 : decode cX4_firstToServe 36 = .ok (.iadd, 1) := by decide +kernel
theorem dX4_firstToServe_37 : decode cX4_firstToServe 37 = .ok (.iaload, 1) := by decide +kernel
theorem dX4_firstToServe_38 : decode cX4_firstToServe 38 = .ok (.ireturn, 1) := by decide +kernel
theorem dX4_firstToServe_39 : decode cX4_firstToServe 39 = .ok (.iinc 1 1, 3) := by decide +kernel
theorem dX4_firstToServe_42 : decode cX4_firstToServe 42 = .ok (.goto (-40), 3) := by decide +kernel
theorem dX4_firstToServe_45 : decode cX4_firstToServe 45 = .ok (.iconst (-1), 1) := by decide +kernel
theorem dX4_firstToServe_46 : decode cX4_firstToServe 46 = .ok (.ireturn, 1) := by decide +kernel
theorem dX4_serve_0 : decode cX4_serve 0 = .ok (.aload_n 0, 1) := by decide +kernel
theorem dX4_serve_1 : decode cX4_serve 1 = .ok (.invokevirtual 82, 3) := by decide +kernel
theorem dX4_serve_4 : decode cX4_serve 4 = .ok (.istore_n 1, 1) := by decide +kernel
theorem dX4_serve_5 : decode cX4_serve 5 = .ok (.iload_n 1, 1) := by decide +kernel
theorem dX4_serve_6 : decode cX4_serve 6 = .ok (.iconst (-1), 1) := by decide +kernel
theorem dX4_serve_7 : decode cX4_serve 7 = .ok (.if_icmp .ne 7, 3) := by decide +kernel
theorem dX4_serve_10 : decode cX4_serve 10 = .ok (.iconst (-1), 1) := by decide +kernel
theorem dX4_serve_11 : decode cX4_serve 11 = .ok (.goto 7, 3) := by decide +kernel
theorem dX4_serve_14 : decode cX4_serve 14 = .ok (.aload_n 0, 1) := by decide +kernel
theorem dX4_serve_15 : decode cX4_serve 15 = .ok (.invokevirtual 85, 3) := by decide +kernel
theorem dX4_serve_18 : decode cX4_serve 18 = .ok (.istore_n 2, 1) := by decide +kernel
theorem dX4_serve_19 : decode cX4_serve 19 = .ok (.iload_n 2, 1) := by decide +kernel
theorem dX4_serve_20 : decode cX4_serve 20 = .ok (.iconst (-1), 1) := by decide +kernel
theorem dX4_serve_21 : decode cX4_serve 21 = .ok (.if_icmp .eq 61, 3) := by decide +kernel
theorem dX4_serve_24 : decode cX4_serve 24 = .ok (.aload_n 0, 1) := by decide +kernel
theorem dX4_serve_25 : decode cX4_serve 25 = .ok (.iload_n 1, 1) := by decide +kernel
theorem dX4_serve_26 : decode cX4_serve 26 = .ok (.iconst 4, 1) := by decide +kernel
theorem dX4_serve_27 : decode cX4_serve 27 = .ok (.aload_n 0, 1) := by decide +kernel
theorem dX4_serve_28 : decode cX4_serve 28 = .ok (.iload_n 1, 1) := by decide +kernel
theorem dX4_serve_29 : decode cX4_serve 29 = .ok (.iconst 4, 1) := by decide +kernel
theorem dX4_serve_30 : decode cX4_serve 30 = .ok (.invokevirtual 44, 3) := by decide +kernel
theorem dX4_serve_33 : decode cX4_serve 33 = .ok (.aload_n 0, 1) := by decide +kernel
theorem dX4_serve_34 : decode cX4_serve 34 = .ok (.iload_n 1, 1) := by decide +kernel
theorem dX4_serve_35 : decode cX4_serve 35 = .ok (.invokevirtual 88, 3) := by decide +kernel
theorem dX4_serve_38 : decode cX4_serve 38 = .ok (.iadd, 1) := by decide +kernel
theorem dX4_serve_39 : decode cX4_serve 39 = .ok (.invokevirtual 29, 3) := by decide +kernel
theorem dX4_serve_42 : decode cX4_serve 42 = .ok (.aload_n 0, 1) := by decide +kernel
theorem dX4_serve_43 : decode cX4_serve 43 = .ok (.iload_n 1, 1) := by decide +kernel
theorem dX4_serve_44 : decode cX4_serve 44 = .ok (.invokevirtual 91, 3) := by decide +kernel
theorem dX4_serve_47 : decode cX4_serve 47 = .ok (.aload_n 0, 1) := by decide +kernel
theorem dX4_serve_48 : decode cX4_serve 48 = .ok (.iload_n 1, 1) := by decide +kernel
theorem dX4_serve_49 : decode cX4_serve 49 = .ok (.iconst 1, 1) := by decide +kernel
theorem dX4_serve_50 : decode cX4_serve 50 = .ok (.iconst 0, 1) := by decide +kernel
theorem dX4_serve_51 : decode cX4_serve 51 = .ok (.invokevirtual 29, 3) := by decide +kernel
theorem dX4_serve_54 : decode cX4_serve 54 = .ok (.aload_n 0, 1) := by decide +kernel
theorem dX4_serve_55 : decode cX4_serve 55 = .ok (.iload_n 2, 1) := by decide +kernel
theorem dX4_serve_56 : decode cX4_serve 56 = .ok (.iload_n 1, 1) := by decide +kernel
theorem dX4_serve_57 : decode cX4_serve 57 = .ok (.invokevirtual 95, 3) := by decide +kernel
theorem dX4_serve_60 : decode cX4_serve 60 = .ok (.aload_n 0, 1) := by decide +kernel
theorem dX4_serve_61 : decode cX4_serve 61 = .ok (.invokevirtual 82, 3) := by decide +kernel
theorem dX4_serve_64 : decode cX4_serve 64 = .ok (.istore_n 1, 1) := by decide +kernel
theorem dX4_serve_65 : decode cX4_serve 65 = .ok (.iload_n 1, 1) := by decide +kernel
theorem dX4_serve_66 : decode cX4_serve 66 = .ok (.iconst (-1), 1) := by decide +kernel
theorem dX4_serve_67 : decode cX4_serve 67 = .ok (.if_icmp .ne 7, 3) := by decide +kernel
theorem dX4_serve_70 : decode cX4_serve 70 = .ok (.iconst (-1), 1) := by decide +kernel
theorem dX4_serve_71 : decode cX4_serve 71 = .ok (.goto 7, 3) := by decide +kernel
theorem dX4_serve_74 : decode cX4_serve 74 = .ok (.aload_n 0, 1) := by decide +kernel
theorem dX4_serve_75 : decode cX4_serve 75 = .ok (.invokevirtual 85, 3) := by decide +kernel
theorem dX4_serve_78 : decode cX4_serve 78 = .ok (.istore_n 2, 1) := by decide +kernel
theorem dX4_serve_79 : decode cX4_serve 79 = .ok (.goto (-60), 3) := by decide +kernel
theorem dX4_serve_82 : decode cX4_serve 82 = .ok (.return_, 1) := by decide +kernel
theorem dX4_askIt_0 : decode cX4_askIt 0 = .ok (.iconst 0, 1) := by decide +kernel
theorem dX4_askIt_1 : decode cX4_askIt 1 = .ok (.istore_n 2, 1) := by decide +kernel
theorem dX4_askIt_2 : decode cX4_askIt 2 = .ok (.iload_n 2, 1) := by decide +kernel
theorem dX4_askIt_3 : decode cX4_askIt 3 = .ok (.bipush 8, 2) := by decide +kernel
theorem dX4_askIt_5 : decode cX4_askIt 5 = .ok (.if_icmp .ge 16, 3) := by decide +kernel
theorem dX4_askIt_8 : decode cX4_askIt 8 = .ok (.aload_n 0, 1) := by decide +kernel
theorem dX4_askIt_9 : decode cX4_askIt 9 = .ok (.getfield 22, 3) := by decide +kernel
theorem dX4_askIt_12 : decode cX4_askIt 12 = .ok (.iload_n 2, 1) := by decide +kernel
theorem dX4_askIt_13 : decode cX4_askIt 13 = .ok (.iconst (-1), 1) := by decide +kernel
theorem dX4_askIt_14 : decode cX4_askIt 14 = .ok (.iastore, 1) := by decide +kernel
theorem dX4_askIt_15 : decode cX4_askIt 15 = .ok (.iinc 2 1, 3) := by decide +kernel
theorem dX4_askIt_18 : decode cX4_askIt 18 = .ok (.goto (-16), 3) := by decide +kernel
theorem dX4_askIt_21 : decode cX4_askIt 21 = .ok (.aload_n 0, 1) := by decide +kernel
theorem dX4_askIt_22 : decode cX4_askIt 22 = .ok (.iload_n 1, 1) := by decide +kernel
theorem dX4_askIt_23 : decode cX4_askIt 23 = .ok (.invokevirtual 78, 3) := by decide +kernel
theorem dX4_askIt_26 : decode cX4_askIt 26 = .ok (.ifCond .eq 20, 3) := by decide +kernel
theorem dX4_askIt_29 : decode cX4_askIt 29 = .ok (.aload_n 0, 1) := by decide +kernel
theorem dX4_askIt_30 : decode cX4_askIt 30 = .ok (.getfield 7, 3) := by decide +kernel
theorem dX4_askIt_33 : decode cX4_askIt 33 = .ok (.bipush 17, 2) := by decide +kernel
theorem dX4_askIt_35 : decode cX4_askIt 35 = .ok (.iaload, 1) := by decide +kernel
theorem dX4_askIt_36 : decode cX4_askIt 36 = .ok (.ifCond .ne 10, 3) := by decide +kernel
theorem dX4_askIt_39 : decode cX4_askIt 39 = .ok (.aload_n 0, 1) := by decide +kernel
theorem dX4_askIt_40 : decode cX4_askIt 40 = .ok (.invokevirtual 85, 3) := by decide +kernel
theorem dX4_askIt_43 : decode cX4_askIt 43 = .ok (.goto 4, 3) := by decide +kernel
theorem dX4_askIt_46 : decode cX4_askIt 46 = .ok (.iconst (-1), 1) := by decide +kernel
theorem dX4_askIt_47 : decode cX4_askIt 47 = .ok (.istore_n 2, 1) := by decide +kernel
theorem dX4_askIt_48 : decode cX4_askIt 48 = .ok (.iload_n 2, 1) := by decide +kernel
theorem dX4_askIt_49 : decode cX4_askIt 49 = .ok (.iconst (-1), 1) := by decide +kernel
theorem dX4_askIt_50 : decode cX4_askIt 50 = .ok (.if_icmp .eq 12, 3) := by decide +kernel
theorem dX4_askIt_53 : decode cX4_askIt 53 = .ok (.aload_n 0, 1) := by decide +kernel
theorem dX4_askIt_54 : decode cX4_askIt 54 = .ok (.iload_n 2, 1) := by decide +kernel
theorem dX4_askIt_55 : decode cX4_askIt 55 = .ok (.iload_n 1, 1) := by decide +kernel
theorem dX4_askIt_56 : decode cX4_askIt 56 = .ok (.invokevirtual 95, 3) := by decide +kernel
theorem dX4_askIt_59 : decode cX4_askIt 59 = .ok (.goto 43, 3) := by decide +kernel
theorem dX4_askIt_62 : decode cX4_askIt 62 = .ok (.aload_n 0, 1) := by decide +kernel
theorem dX4_askIt_63 : decode cX4_askIt 63 = .ok (.getfield 7, 3) := by decide +kernel
theorem dX4_askIt_66 : decode cX4_askIt 66 = .ok (.bipush 18, 2) := by decide +kernel
theorem dX4_askIt_68 : decode cX4_askIt 68 = .ok (.aload_n 0, 1) := by decide +kernel
theorem dX4_askIt_69 : decode cX4_askIt 69 = .ok (.getfield 7, 3) := by decide +kernel
theorem dX4_askIt_72 : decode cX4_askIt 72 = .ok (.bipush 17, 2) := by decide +kernel
theorem dX4_askIt_74 : decode cX4_askIt 74 = .ok (.iaload, 1) := by decide +kernel
theorem dX4_askIt_75 : decode cX4_askIt 75 = .ok (.iadd, 1) := by decide +kernel
theorem dX4_askIt_76 : decode cX4_askIt 76 = .ok (.iload_n 1, 1) := by decide +kernel
theorem dX4_askIt_77 : decode cX4_askIt 77 = .ok (.iastore, 1) := by decide +kernel
theorem dX4_askIt_78 : decode cX4_askIt 78 = .ok (.aload_n 0, 1) := by decide +kernel
theorem dX4_askIt_79 : decode cX4_askIt 79 = .ok (.getfield 7, 3) := by decide +kernel
theorem dX4_askIt_82 : decode cX4_askIt 82 = .ok (.bipush 17, 2) := by decide +kernel
theorem dX4_askIt_84 : decode cX4_askIt 84 = .ok (.dup2, 1) := by decide +kernel
theorem dX4_askIt_85 : decode cX4_askIt 85 = .ok (.iaload, 1) := by decide +kernel
theorem dX4_askIt_86 : decode cX4_askIt 86 = .ok (.iconst 1, 1) := by decide +kernel
theorem dX4_askIt_87 : decode cX4_askIt 87 = .ok (.iadd, 1) := by decide +kernel
theorem dX4_askIt_88 : decode cX4_askIt 88 = .ok (.iastore, 1) := by decide +kernel
theorem dX4_askIt_89 : decode cX4_askIt 89 = .ok (.aload_n 0, 1) := by decide +kernel
theorem dX4_askIt_90 : decode cX4_askIt 90 = .ok (.iload_n 1, 1) := by decide +kernel
theorem dX4_askIt_91 : decode cX4_askIt 91 = .ok (.iconst 1, 1) := by decide +kernel
theorem dX4_askIt_92 : decode cX4_askIt 92 = .ok (.aload_n 0, 1) := by decide +kernel
theorem dX4_askIt_93 : decode cX4_askIt 93 = .ok (.getfield 7, 3) := by decide +kernel
theorem dX4_askIt_96 : decode cX4_askIt 96 = .ok (.bipush 9, 2) := by decide +kernel
theorem dX4_askIt_98 : decode cX4_askIt 98 = .ok (.iaload, 1) := by decide +kernel
theorem dX4_askIt_99 : decode cX4_askIt 99 = .ok (.invokevirtual 29, 3) := by decide +kernel
theorem dX4_askIt_102 : decode cX4_askIt 102 = .ok (.aload_n 0, 1) := by decide +kernel
theorem dX4_askIt_103 : decode cX4_askIt 103 = .ok (.invokevirtual 98, 3) := by decide +kernel
theorem dX4_askIt_106 : decode cX4_askIt 106 = .ok (.aload_n 0, 1) := by decide +kernel
theorem dX4_askIt_107 : decode cX4_askIt 107 = .ok (.getfield 22, 3) := by decide +kernel
theorem dX4_askIt_110 : decode cX4_askIt 110 = .ok (.iload_n 1, 1) := by decide +kernel
theorem dX4_askIt_111 : decode cX4_askIt 111 = .ok (.iaload, 1) := by decide +kernel
theorem dX4_askIt_112 : decode cX4_askIt 112 = .ok (.ireturn, 1) := by decide +kernel
theorem dX4_canAsk_0 : decode cX4_canAsk 0 = .ok (.aload_n 0, 1) := by decide +kernel
theorem dX4_canAsk_1 : decode cX4_canAsk 1 = .ok (.iload_n 1, 1) := by decide +kernel
theorem dX4_canAsk_2 : decode cX4_canAsk 2 = .ok (.invokevirtual 101, 3) := by decide +kernel
theorem dX4_canAsk_5 : decode cX4_canAsk 5 = .ok (.ifCond .eq 15, 3) := by decide +kernel
theorem dX4_canAsk_8 : decode cX4_canAsk 8 = .ok (.aload_n 0, 1) := by decide +kernel
theorem dX4_canAsk_9 : decode cX4_canAsk 9 = .ok (.iload_n 1, 1) := by decide +kernel
theorem dX4_canAsk_10 : decode cX4_canAsk 10 = .ok (.invokevirtual 104, 3) := by decide +kernel
theorem dX4_canAsk_13 : decode cX4_canAsk 13 = .ok (.ifCond .ne 7, 3) := by decide +kernel
theorem dX4_canAsk_16 : decode cX4_canAsk 16 = .ok (.iconst 1, 1) := by decide +kernel
theorem dX4_canAsk_17 : decode cX4_canAsk 17 = .ok (.goto 4, 3) := by decide +kernel
theorem dX4_canAsk_20 : decode cX4_canAsk 20 = .ok (.iconst 0, 1) := by decide +kernel
theorem dX4_canAsk_21 : decode cX4_canAsk 21 = .ok (.ireturn, 1) := by decide +kernel
theorem dX4_canGive_0 : decode cX4_canGive 0 = .ok (.aload_n 0, 1) := by decide +kernel
theorem dX4_canGive_1 : decode cX4_canGive 1 = .ok (.iload_n 1, 1) := by decide +kernel
theorem dX4_canGive_2 : decode cX4_canGive 2 = .ok (.iconst 2, 1) := by decide +kernel
theorem dX4_canGive_3 : decode cX4_canGive 3 = .ok (.invokevirtual 50, 3) := by decide +kernel
theorem dX4_canGive_6 : decode cX4_canGive 6 = .ok (.ifCond .eq 20, 3) := by decide +kernel
theorem dX4_canGive_9 : decode cX4_canGive 9 = .ok (.aload_n 0, 1) := by decide +kernel
theorem dX4_canGive_10 : decode cX4_canGive 10 = .ok (.aload_n 0, 1) := by decide +kernel
theorem dX4_canGive_11 : decode cX4_canGive 11 = .ok (.iload_n 1, 1) := by decide +kernel
theorem dX4_canGive_12 : decode cX4_canGive 12 = .ok (.iconst 1, 1) := by decide +kernel
theorem dX4_canGive_13 : decode cX4_canGive 13 = .ok (.invokevirtual 40, 3) := by decide +kernel
theorem dX4_canGive_16 : decode cX4_canGive 16 = .ok (.invokevirtual 101, 3) := by decide +kernel
theorem dX4_canGive_19 : decode cX4_canGive 19 = .ok (.ifCond .eq 7, 3) := by decide +kernel
theorem dX4_canGive_22 : decode cX4_canGive 22 = .ok (.iconst 1, 1) := by decide +kernel
theorem dX4_canGive_23 : decode cX4_canGive 23 = .ok (.goto 4, 3) := by decide +kernel
theorem dX4_canGive_26 : decode cX4_canGive 26 = .ok (.iconst 0, 1) := by decide +kernel
theorem dX4_canGive_27 : decode cX4_canGive 27 = .ok (.ireturn, 1) := by decide +kernel
theorem dX4_giveIt_0 : decode cX4_giveIt 0 = .ok (.aload_n 0, 1) := by decide +kernel
theorem dX4_giveIt_1 : decode cX4_giveIt 1 = .ok (.iload_n 1, 1) := by decide +kernel
theorem dX4_giveIt_2 : decode cX4_giveIt 2 = .ok (.iconst 0, 1) := by decide +kernel
theorem dX4_giveIt_3 : decode cX4_giveIt 3 = .ok (.iconst 1, 1) := by decide +kernel
theorem dX4_giveIt_4 : decode cX4_giveIt 4 = .ok (.invokevirtual 25, 3) := by decide +kernel
theorem dX4_giveIt_7 : decode cX4_giveIt 7 = .ok (.aload_n 0, 1) := by decide +kernel
theorem dX4_giveIt_8 : decode cX4_giveIt 8 = .ok (.iload_n 1, 1) := by decide +kernel
theorem dX4_giveIt_9 : decode cX4_giveIt 9 = .ok (.iconst 1, 1) := by decide +kernel
theorem dX4_giveIt_10 : decode cX4_giveIt 10 = .ok (.iconst (-1), 1) := by decide +kernel
theorem dX4_giveIt_11 : decode cX4_giveIt 11 = .ok (.invokevirtual 25, 3) := by decide +kernel
theorem dX4_giveIt_14 : decode cX4_giveIt 14 = .ok (.aload_n 0, 1) := by decide +kernel
theorem dX4_giveIt_15 : decode cX4_giveIt 15 = .ok (.iload_n 1, 1) := by decide +kernel
theorem dX4_giveIt_16 : decode cX4_giveIt 16 = .ok (.iconst 4, 1) := by decide +kernel
theorem dX4_giveIt_17 : decode cX4_giveIt 17 = .ok (.aload_n 0, 1) := by decide +kernel
theorem dX4_giveIt_18 : decode cX4_giveIt 18 = .ok (.getfield 7, 3) := by decide +kernel
theorem dX4_giveIt_21 : decode cX4_giveIt 21 = .ok (.bipush 9, 2) := by decide +kernel
theorem dX4_giveIt_23 : decode cX4_giveIt 23 = .ok (.iaload, 1) := by decide +kernel
theorem dX4_giveIt_24 : decode cX4_giveIt 24 = .ok (.invokevirtual 25, 3) := by decide +kernel
theorem dX4_giveIt_27 : decode cX4_giveIt 27 = .ok (.aload_n 0, 1) := by decide +kernel
theorem dX4_giveIt_28 : decode cX4_giveIt 28 = .ok (.invokevirtual 98, 3) := by decide +kernel
theorem dX4_giveIt_31 : decode cX4_giveIt 31 = .ok (.aload_n 0, 1) := by decide +kernel
theorem dX4_giveIt_32 : decode cX4_giveIt 32 = .ok (.iload_n 1, 1) := by decide +kernel
theorem dX4_giveIt_33 : decode cX4_giveIt 33 = .ok (.iconst 1, 1) := by decide +kernel
theorem dX4_giveIt_34 : decode cX4_giveIt 34 = .ok (.invokevirtual 40, 3) := by decide +kernel
theorem dX4_giveIt_37 : decode cX4_giveIt 37 = .ok (.ireturn, 1) := by decide +kernel
theorem dX4_appearIt_0 : decode cX4_appearIt 0 = .ok (.iload_n 2, 1) := by decide +kernel
theorem dX4_appearIt_1 : decode cX4_appearIt 1 = .ok (.ifCond .ne 23, 3) := by decide +kernel
theorem dX4_appearIt_4 : decode cX4_appearIt 4 = .ok (.aload_n 0, 1) := by decide +kernel
theorem dX4_appearIt_5 : decode cX4_appearIt 5 = .ok (.iload_n 1, 1) := by decide +kernel
theorem dX4_appearIt_6 : decode cX4_appearIt 6 = .ok (.invokevirtual 104, 3) := by decide +kernel
theorem dX4_appearIt_9 : decode cX4_appearIt 9 = .ok (.ifCond .eq 15, 3) := by decide +kernel
theorem dX4_appearIt_12 : decode cX4_appearIt 12 = .ok (.aload_n 0, 1) := by decide +kernel
theorem dX4_appearIt_13 : decode cX4_appearIt 13 = .ok (.iload_n 1, 1) := by decide +kernel
theorem dX4_appearIt_14 : decode cX4_appearIt 14 = .ok (.invokevirtual 91, 3) := by decide +kernel
theorem dX4_appearIt_17 : decode cX4_appearIt 17 = .ok (.aload_n 0, 1) := by decide +kernel
theorem dX4_appearIt_18 : decode cX4_appearIt 18 = .ok (.iload_n 1, 1) := by decide +kernel
theorem dX4_appearIt_19 : decode cX4_appearIt 19 = .ok (.iconst 1, 1) := by decide +kernel
theorem dX4_appearIt_20 : decode cX4_appearIt 20 = .ok (.iconst 0, 1) := by decide +kernel
theorem dX4_appearIt_21 : decode cX4_appearIt 21 = .ok (.invokevirtual 29, 3) := by decide +kernel
theorem dX4_appearIt_24 : decode cX4_appearIt 24 = .ok (.aload_n 0, 1) := by decide +kernel
theorem dX4_appearIt_25 : decode cX4_appearIt 25 = .ok (.iload_n 1, 1) := by decide +kernel
theorem dX4_appearIt_26 : decode cX4_appearIt 26 = .ok (.iconst 0, 1) := by decide +kernel
theorem dX4_appearIt_27 : decode cX4_appearIt 27 = .ok (.iload_n 2, 1) := by decide +kernel
theorem dX4_appearIt_28 : decode cX4_appearIt 28 = .ok (.ifCond .eq 7, 3) := by decide +kernel
theorem dX4_appearIt_31 : decode cX4_appearIt 31 = .ok (.iconst 1, 1) := by decide +kernel
theorem dX4_appearIt_32 : decode cX4_appearIt 32 = .ok (.goto 4, 3) := by decide +kernel
theorem dX4_appearIt_35 : decode cX4_appearIt 35 = .ok (.iconst 0, 1) := by decide +kernel
theorem dX4_appearIt_36 : decode cX4_appearIt 36 = .ok (.invokevirtual 29, 3) := by decide +kernel
theorem dX4_appearIt_39 : decode cX4_appearIt 39 = .ok (.aload_n 0, 1) := by decide +kernel
theorem dX4_appearIt_40 : decode cX4_appearIt 40 = .ok (.invokevirtual 98, 3) := by decide +kernel
theorem dX4_appearIt_43 : decode cX4_appearIt 43 = .ok (.aload_n 0, 1) := by decide +kernel
theorem dX4_appearIt_44 : decode cX4_appearIt 44 = .ok (.iload_n 1, 1) := by decide +kernel
theorem dX4_appearIt_45 : decode cX4_appearIt 45 = .ok (.invokevirtual 58, 3) := by decide +kernel
theorem dX4_appearIt_48 : decode cX4_appearIt 48 = .ok (.ireturn, 1) := by decide +kernel
theorem dX4_checkAll_0 : decode cX4_checkAll 0 = .ok (.iconst 0, 1) := by decide +kernel
theorem dX4_checkAll_1 : decode cX4_checkAll 1 = .ok (.istore_n 1, 1) := by decide +kernel
theorem dX4_checkAll_2 : decode cX4_checkAll 2 = .ok (.iconst 0, 1) := by decide +kernel
theorem dX4_checkAll_3 : decode cX4_checkAll 3 = .ok (.istore_n 2, 1) := by decide +kernel
theorem dX4_checkAll_4 : decode cX4_checkAll 4 = .ok (.iload_n 2, 1) := by decide +kernel
theorem dX4_checkAll_5 : decode cX4_checkAll 5 = .ok (.bipush 8, 2) := by decide +kernel
theorem dX4_checkAll_7 : decode cX4_checkAll 7 = .ok (.if_icmp .ge 49, 3) := by decide +kernel
theorem dX4_checkAll_10 : decode cX4_checkAll 10 = .ok (.aload_n 0, 1) := by decide +kernel
theorem dX4_checkAll_11 : decode cX4_checkAll 11 = .ok (.iload_n 2, 1) := by decide +kernel
theorem dX4_checkAll_12 : decode cX4_checkAll 12 = .ok (.iconst 1, 1) := by decide +kernel
theorem dX4_checkAll_13 : decode cX4_checkAll 13 = .ok (.invokevirtual 50, 3) := by decide +kernel
theorem dX4_checkAll_16 : decode cX4_checkAll 16 = .ok (.ifCond .eq 34, 3) := by decide +kernel
theorem dX4_checkAll_19 : decode cX4_checkAll 19 = .ok (.aload_n 0, 1) := by decide +kernel
theorem dX4_checkAll_20 : decode cX4_checkAll 20 = .ok (.getfield 7, 3) := by decide +kernel
theorem dX4_checkAll_23 : decode cX4_checkAll 23 = .ok (.bipush 15, 2) := by decide +kernel
theorem dX4_checkAll_25 : decode cX4_checkAll 25 = .ok (.dup2, 1) := by decide +kernel
theorem dX4_checkAll_26 : decode cX4_checkAll 26 = .ok (.iaload, 1) := by decide +kernel
theorem dX4_checkAll_27 : decode cX4_checkAll 27 = .ok (.iconst 1, 1) := by decide +kernel
theorem dX4_checkAll_28 : decode cX4_checkAll 28 = .ok (.iadd, 1) := by decide +kernel
theorem dX4_checkAll_29 : decode cX4_checkAll 29 = .ok (.iastore, 1) := by decide +kernel
theorem dX4_checkAll_30 : decode cX4_checkAll 30 = .ok (.aload_n 0, 1) := by decide +kernel
theorem dX4_checkAll_31 : decode cX4_checkAll 31 = .ok (.iload_n 2, 1) := by decide +kernel
theorem dX4_checkAll_32 : decode cX4_checkAll 32 = .ok (.iconst 2, 1) := by decide +kernel
theorem dX4_checkAll_33 : decode cX4_checkAll 33 = .ok (.invokevirtual 40, 3) := by decide +kernel
theorem dX4_checkAll_36 : decode cX4_checkAll 36 = .ok (.iconst 1, 1) := by decide +kernel
theorem dX4_checkAll_37 : decode cX4_checkAll 37 = .ok (.if_icmp .ne 13, 3) := by decide +kernel
theorem dX4_checkAll_40 : decode cX4_checkAll 40 = .ok (.aload_n 0, 1) := by decide +kernel
theorem dX4_checkAll_41 : decode cX4_checkAll 41 = .ok (.iload_n 2, 1) := by decide +kernel
theorem dX4_checkAll_42 : decode cX4_checkAll 42 = .ok (.bipush 12, 2) := by decide +kernel
theorem dX4_checkAll_44 : decode cX4_checkAll 44 = .ok (.invokevirtual 65, 3) := by decide +kernel
theorem dX4_checkAll_47 : decode cX4_checkAll 47 = .ok (.iinc 1 1, 3) := by decide +kernel
theorem dX4_checkAll_50 : decode cX4_checkAll 50 = .ok (.iinc 2 1, 3) := by decide +kernel
theorem dX4_checkAll_53 : decode cX4_checkAll 53 = .ok (.goto (-49), 3) := by decide +kernel
theorem dX4_checkAll_56 : decode cX4_checkAll 56 = .ok (.iload_n 1, 1) := by decide +kernel
theorem dX4_checkAll_57 : decode cX4_checkAll 57 = .ok (.ireturn, 1) := by decide +kernel
theorem dX4_sickenIt_0 : decode cX4_sickenIt 0 = .ok (.aload_n 0, 1) := by decide +kernel
theorem dX4_sickenIt_1 : decode cX4_sickenIt 1 = .ok (.iload_n 1, 1) := by decide +kernel
theorem dX4_sickenIt_2 : decode cX4_sickenIt 2 = .ok (.iconst 2, 1) := by decide +kernel
theorem dX4_sickenIt_3 : decode cX4_sickenIt 3 = .ok (.invokevirtual 40, 3) := by decide +kernel
theorem dX4_sickenIt_6 : decode cX4_sickenIt 6 = .ok (.istore_n 2, 1) := by decide +kernel
theorem dX4_sickenIt_7 : decode cX4_sickenIt 7 = .ok (.aload_n 0, 1) := by decide +kernel
theorem dX4_sickenIt_8 : decode cX4_sickenIt 8 = .ok (.iload_n 1, 1) := by decide +kernel
theorem dX4_sickenIt_9 : decode cX4_sickenIt 9 = .ok (.iconst 2, 1) := by decide +kernel
theorem dX4_sickenIt_10 : decode cX4_sickenIt 10 = .ok (.iconst 1, 1) := by decide +kernel
theorem dX4_sickenIt_11 : decode cX4_sickenIt 11 = .ok (.invokevirtual 25, 3) := by decide +kernel
theorem dX4_sickenIt_14 : decode cX4_sickenIt 14 = .ok (.aload_n 0, 1) := by decide +kernel
theorem dX4_sickenIt_15 : decode cX4_sickenIt 15 = .ok (.invokevirtual 98, 3) := by decide +kernel
theorem dX4_sickenIt_18 : decode cX4_sickenIt 18 = .ok (.iconst 1, 1) := by decide +kernel
theorem dX4_sickenIt_19 : decode cX4_sickenIt 19 = .ok (.iload_n 2, 1) := by decide +kernel
theorem dX4_sickenIt_20 : decode cX4_sickenIt 20 = .ok (.isub, 1) := by decide +kernel
theorem dX4_sickenIt_21 : decode cX4_sickenIt 21 = .ok (.ireturn, 1) := by decide +kernel
theorem dX4_giveUpIt_0 : decode cX4_giveUpIt 0 = .ok (.aload_n 0, 1) := by decide +kernel
theorem dX4_giveUpIt_1 : decode cX4_giveUpIt 1 = .ok (.iload_n 1, 1) := by decide +kernel
theorem dX4_giveUpIt_2 : decode cX4_giveUpIt 2 = .ok (.invokevirtual 91, 3) := by decide +kernel
theorem dX4_giveUpIt_5 : decode cX4_giveUpIt 5 = .ok (.aload_n 0, 1) := by decide +kernel
theorem dX4_giveUpIt_6 : decode cX4_giveUpIt 6 = .ok (.iload_n 1, 1) := by decide +kernel
theorem dX4_giveUpIt_7 : decode cX4_giveUpIt 7 = .ok (.iconst 1, 1) := by decide +kernel
theorem dX4_giveUpIt_8 : decode cX4_giveUpIt 8 = .ok (.iconst 0, 1) := by decide +kernel
theorem dX4_giveUpIt_9 : decode cX4_giveUpIt 9 = .ok (.invokevirtual 29, 3) := by decide +kernel
theorem dX4_giveUpIt_12 : decode cX4_giveUpIt 12 = .ok (.aload_n 0, 1) := by decide +kernel
theorem dX4_giveUpIt_13 : decode cX4_giveUpIt 13 = .ok (.iload_n 1, 1) := by decide +kernel
theorem dX4_giveUpIt_14 : decode cX4_giveUpIt 14 = .ok (.iconst 3, 1) := by decide +kernel
theorem dX4_giveUpIt_15 : decode cX4_giveUpIt 15 = .ok (.aload_n 0, 1) := by decide +kernel
theorem dX4_giveUpIt_16 : decode cX4_giveUpIt 16 = .ok (.iload_n 1, 1) := by decide +kernel
theorem dX4_giveUpIt_17 : decode cX4_giveUpIt 17 = .ok (.iconst 3, 1) := by decide +kernel
theorem dX4_giveUpIt_18 : decode cX4_giveUpIt 18 = .ok (.invokevirtual 44, 3) := by decide +kernel
theorem dX4_giveUpIt_21 : decode cX4_giveUpIt 21 = .ok (.iconst 1, 1) := by decide +kernel
theorem dX4_giveUpIt_22 : decode cX4_giveUpIt 22 = .ok (.iadd, 1) := by decide +kernel
theorem dX4_giveUpIt_23 : decode cX4_giveUpIt 23 = .ok (.invokevirtual 29, 3) := by decide +kernel
theorem dX4_giveUpIt_26 : decode cX4_giveUpIt 26 = .ok (.return_, 1) := by decide +kernel
theorem dX4_goUnit_0 : decode cX4_goUnit 0 = .ok (.aload_n 0, 1) := by decide +kernel
theorem dX4_goUnit_1 : decode cX4_goUnit 1 = .ok (.getfield 7, 3) := by decide +kernel
theorem dX4_goUnit_4 : decode cX4_goUnit 4 = .ok (.bipush 9, 2) := by decide +kernel
theorem dX4_goUnit_6 : decode cX4_goUnit 6 = .ok (.dup2, 1) := by decide +kernel
theorem dX4_goUnit_7 : decode cX4_goUnit 7 = .ok (.iaload, 1) := by decide +kernel
theorem dX4_goUnit_8 : decode cX4_goUnit 8 = .ok (.iconst 1, 1) := by decide +kernel
theorem dX4_goUnit_9 : decode cX4_goUnit 9 = .ok (.iadd, 1) := by decide +kernel
theorem dX4_goUnit_10 : decode cX4_goUnit 10 = .ok (.iastore, 1) := by decide +kernel
theorem dX4_goUnit_11 : decode cX4_goUnit 11 = .ok (.iconst 0, 1) := by decide +kernel
theorem dX4_goUnit_12 : decode cX4_goUnit 12 = .ok (.istore_n 1, 1) := by decide +kernel
theorem dX4_goUnit_13 : decode cX4_goUnit 13 = .ok (.iload_n 1, 1) := by decide +kernel
theorem dX4_goUnit_14 : decode cX4_goUnit 14 = .ok (.bipush 8, 2) := by decide +kernel
theorem dX4_goUnit_16 : decode cX4_goUnit 16 = .ok (.if_icmp .ge 61, 3) := by decide +kernel
theorem dX4_goUnit_19 : decode cX4_goUnit 19 = .ok (.aload_n 0, 1) := by decide +kernel
theorem dX4_goUnit_20 : decode cX4_goUnit 20 = .ok (.iload_n 1, 1) := by decide +kernel
theorem dX4_goUnit_21 : decode cX4_goUnit 21 = .ok (.iconst 2, 1) := by decide +kernel
theorem dX4_goUnit_22 : decode cX4_goUnit 22 = .ok (.invokevirtual 50, 3) := by decide +kernel
theorem dX4_goUnit_25 : decode cX4_goUnit 25 = .ok (.ifCond .eq 46, 3) := by decide +kernel
theorem dX4_goUnit_28 : decode cX4_goUnit 28 = .ok (.aload_n 0, 1) := by decide +kernel
theorem dX4_goUnit_29 : decode cX4_goUnit 29 = .ok (.aload_n 0, 1) := by decide +kernel
theorem dX4_goUnit_30 : decode cX4_goUnit 30 = .ok (.iload_n 1, 1) := by decide +kernel
theorem dX4_goUnit_31 : decode cX4_goUnit 31 = .ok (.iconst 1, 1) := by decide +kernel
theorem dX4_goUnit_32 : decode cX4_goUnit 32 = .ok (.invokevirtual 40, 3) := by decide +kernel
theorem dX4_goUnit_35 : decode cX4_goUnit 35 = .ok (.invokevirtual 101, 3) := by decide +kernel
theorem dX4_goUnit_38 : decode cX4_goUnit 38 = .ok (.ifCond .ne 33, 3) := by decide +kernel
theorem dX4_goUnit_41 : decode cX4_goUnit 41 = .ok (.aload_n 0, 1) := by decide +kernel
theorem dX4_goUnit_42 : decode cX4_goUnit 42 = .ok (.getfield 7, 3) := by decide +kernel
theorem dX4_goUnit_45 : decode cX4_goUnit 45 = .ok (.bipush 9, 2) := by decide +kernel
theorem dX4_goUnit_47 : decode cX4_goUnit 47 = .ok (.iaload, 1) := by decide +kernel
theorem dX4_goUnit_48 : decode cX4_goUnit 48 = .ok (.aload_n 0, 1) := by decide +kernel
theorem dX4_goUnit_49 : decode cX4_goUnit 49 = .ok (.iload_n 1, 1) := by decide +kernel
theorem dX4_goUnit_50 : decode cX4_goUnit 50 = .ok (.iconst 4, 1) := by decide +kernel
theorem dX4_goUnit_51 : decode cX4_goUnit 51 = .ok (.invokevirtual 40, 3) := by decide +kernel
theorem dX4_goUnit_54 : decode cX4_goUnit 54 = .ok (.isub, 1) := by decide +kernel
theorem dX4_goUnit_55 : decode cX4_goUnit 55 = .ok (.aload_n 0, 1) := by decide +kernel
theorem dX4_goUnit_56 : decode cX4_goUnit 56 = .ok (.getfield 7, 3) := by decide +kernel
theorem dX4_goUnit_59 : decode cX4_goUnit 59 = .ok (.iconst 5, 1) := by decide +kernel
theorem dX4_goUnit_60 : decode cX4_goUnit 60 = .ok (.iaload, 1) := by decide +kernel
theorem dX4_goUnit_61 : decode cX4_goUnit 61 = .ok (.if_icmp .lt 10, 3) := by decide +kernel
theorem dX4_goUnit_64 : decode cX4_goUnit 64 = .ok (.aload_n 0, 1) := by decide +kernel
theorem dX4_goUnit_65 : decode cX4_goUnit 65 = .ok (.iload_n 1, 1) := by decide +kernel
theorem dX4_goUnit_66 : decode cX4_goUnit 66 = .ok (.bipush 14, 2) := by decide +kernel
theorem dX4_goUnit_68 : decode cX4_goUnit 68 = .ok (.invokevirtual 65, 3) := by decide +kernel
theorem dX4_goUnit_71 : decode cX4_goUnit 71 = .ok (.iinc 1 1, 3) := by decide +kernel
theorem dX4_goUnit_74 : decode cX4_goUnit 74 = .ok (.goto (-61), 3) := by decide +kernel
theorem dX4_goUnit_77 : decode cX4_goUnit 77 = .ok (.aload_n 0, 1) := by decide +kernel
theorem dX4_goUnit_78 : decode cX4_goUnit 78 = .ok (.getfield 7, 3) := by decide +kernel
theorem dX4_goUnit_81 : decode cX4_goUnit 81 = .ok (.bipush 6, 2) := by decide +kernel
theorem dX4_goUnit_83 : decode cX4_goUnit 83 = .ok (.iaload, 1) := by decide +kernel
theorem dX4_goUnit_84 : decode cX4_goUnit 84 = .ok (.ifCond .le 26, 3) := by decide +kernel
theorem dX4_goUnit_87 : decode cX4_goUnit 87 = .ok (.aload_n 0, 1) := by decide +kernel
theorem dX4_goUnit_88 : decode cX4_goUnit 88 = .ok (.getfield 7, 3) := by decide +kernel
theorem dX4_goUnit_91 : decode cX4_goUnit 91 = .ok (.bipush 9, 2) := by decide +kernel
theorem dX4_goUnit_93 : decode cX4_goUnit 93 = .ok (.iaload, 1) := by decide +kernel
theorem dX4_goUnit_94 : decode cX4_goUnit 94 = .ok (.aload_n 0, 1) := by decide +kernel
theorem dX4_goUnit_95 : decode cX4_goUnit 95 = .ok (.getfield 7, 3) := by decide +kernel
theorem dX4_goUnit_98 : decode cX4_goUnit 98 = .ok (.bipush 6, 2) := by decide +kernel
theorem dX4_goUnit_100 : decode cX4_goUnit 100 = .ok (.iaload, 1) := by decide +kernel
theorem dX4_goUnit_101 : decode cX4_goUnit 101 = .ok (.irem, 1) := by decide +kernel
theorem dX4_goUnit_102 : decode cX4_goUnit 102 = .ok (.ifCond .ne 8, 3) := by decide +kernel
theorem dX4_goUnit_105 : decode cX4_goUnit 105 = .ok (.aload_n 0, 1) := by decide +kernel
theorem dX4_goUnit_106 : decode cX4_goUnit 106 = .ok (.invokevirtual 107, 3) := by decide +kernel
theorem dX4_goUnit_109 : decode cX4_goUnit 109 = .ok (.pop, 1) := by decide +kernel
theorem dX4_goUnit_110 : decode cX4_goUnit 110 = .ok (.iconst 0, 1) := by decide +kernel
theorem dX4_goUnit_111 : decode cX4_goUnit 111 = .ok (.istore_n 1, 1) := by decide +kernel
theorem dX4_goUnit_112 : decode cX4_goUnit 112 = .ok (.iload_n 1, 1) := by decide +kernel
theorem dX4_goUnit_113 : decode cX4_goUnit 113 = .ok (.bipush 8, 2) := by decide +kernel
theorem dX4_goUnit_115 : decode cX4_goUnit 115 = .ok (.if_icmp .ge 62, 3) := by decide +kernel
theorem dX4_goUnit_118 : decode cX4_goUnit 118 = .ok (.aload_n 0, 1) := by decide +kernel
theorem dX4_goUnit_119 : decode cX4_goUnit 119 = .ok (.iload_n 1, 1) := by decide +kernel
theorem dX4_goUnit_120 : decode cX4_goUnit 120 = .ok (.iconst 1, 1) := by decide +kernel
theorem dX4_goUnit_121 : decode cX4_goUnit 121 = .ok (.invokevirtual 50, 3) := by decide +kernel
theorem dX4_goUnit_124 : decode cX4_goUnit 124 = .ok (.ifCond .eq 47, 3) := by decide +kernel
theorem dX4_goUnit_127 : decode cX4_goUnit 127 = .ok (.aload_n 0, 1) := by decide +kernel
theorem dX4_goUnit_128 : decode cX4_goUnit 128 = .ok (.getfield 7, 3) := by decide +kernel
theorem dX4_goUnit_131 : decode cX4_goUnit 131 = .ok (.bipush 9, 2) := by decide +kernel
theorem dX4_goUnit_133 : decode cX4_goUnit 133 = .ok (.iaload, 1) := by decide +kernel
theorem dX4_goUnit_134 : decode cX4_goUnit 134 = .ok (.aload_n 0, 1) := by decide +kernel
theorem dX4_goUnit_135 : decode cX4_goUnit 135 = .ok (.iload_n 1, 1) := by decide +kernel
theorem dX4_goUnit_136 : decode cX4_goUnit 136 = .ok (.iconst 4, 1) := by decide +kernel
theorem dX4_goUnit_137 : decode cX4_goUnit 137 = .ok (.invokevirtual 40, 3) := by decide +kernel
theorem dX4_goUnit_140 : decode cX4_goUnit 140 = .ok (.isub, 1) := by decide +kernel
theorem dX4_goUnit_141 : decode cX4_goUnit 141 = .ok (.aload_n 0, 1) := by decide +kernel
theorem dX4_goUnit_142 : decode cX4_goUnit 142 = .ok (.getfield 7, 3) := by decide +kernel
theorem dX4_goUnit_145 : decode cX4_goUnit 145 = .ok (.bipush 7, 2) := by decide +kernel
theorem dX4_goUnit_147 : decode cX4_goUnit 147 = .ok (.iaload, 1) := by decide +kernel
theorem dX4_goUnit_148 : decode cX4_goUnit 148 = .ok (.if_icmp .lt 23, 3) := by decide +kernel
theorem dX4_goUnit_151 : decode cX4_goUnit 151 = .ok (.aload_n 0, 1) := by decide +kernel
theorem dX4_goUnit_152 : decode cX4_goUnit 152 = .ok (.invokevirtual 69, 3) := by decide +kernel
theorem dX4_goUnit_155 : decode cX4_goUnit 155 = .ok (.aload_n 0, 1) := by decide +kernel
theorem dX4_goUnit_156 : decode cX4_goUnit 156 = .ok (.getfield 7, 3) := by decide +kernel
theorem dX4_goUnit_159 : decode cX4_goUnit 159 = .ok (.iconst 2, 1) := by decide +kernel
theorem dX4_goUnit_160 : decode cX4_goUnit 160 = .ok (.iaload, 1) := by decide +kernel
theorem dX4_goUnit_161 : decode cX4_goUnit 161 = .ok (.if_icmp .le 10, 3) := by decide +kernel
theorem dX4_goUnit_164 : decode cX4_goUnit 164 = .ok (.aload_n 0, 1) := by decide +kernel
theorem dX4_goUnit_165 : decode cX4_goUnit 165 = .ok (.iload_n 1, 1) := by decide +kernel
theorem dX4_goUnit_166 : decode cX4_goUnit 166 = .ok (.bipush 13, 2) := by decide +kernel
theorem dX4_goUnit_168 : decode cX4_goUnit 168 = .ok (.invokevirtual 65, 3) := by decide +kernel
theorem dX4_goUnit_171 : decode cX4_goUnit 171 = .ok (.iinc 1 1, 3) := by decide +kernel
theorem dX4_goUnit_174 : decode cX4_goUnit 174 = .ok (.goto (-62), 3) := by decide +kernel
theorem dX4_goUnit_177 : decode cX4_goUnit 177 = .ok (.iconst 0, 1) := by decide +kernel
theorem dX4_goUnit_178 : decode cX4_goUnit 178 = .ok (.istore_n 1, 1) := by decide +kernel
theorem dX4_goUnit_179 : decode cX4_goUnit 179 = .ok (.aload_n 0, 1) := by decide +kernel
theorem dX4_goUnit_180 : decode cX4_goUnit 180 = .ok (.getfield 7, 3) := by decide +kernel
theorem dX4_goUnit_183 : decode cX4_goUnit 183 = .ok (.bipush 17, 2) := by decide +kernel
theorem dX4_goUnit_185 : decode cX4_goUnit 185 = .ok (.iaload, 1) := by decide +kernel
theorem dX4_goUnit_186 : decode cX4_goUnit 186 = .ok (.iconst 1, 1) := by decide +kernel
theorem dX4_goUnit_187 : decode cX4_goUnit 187 = .ok (.isub, 1) := by decide +kernel
theorem dX4_goUnit_188 : decode cX4_goUnit 188 = .ok (.istore_n 2, 1) := by decide +kernel
theorem dX4_goUnit_189 : decode cX4_goUnit 189 = .ok (.iload_n 2, 1) := by decide +kernel
theorem dX4_goUnit_190 : decode cX4_goUnit 190 = .ok (.ifCond .lt 42, 3) := by decide +kernel
theorem dX4_goUnit_193 : decode cX4_goUnit 193 = .ok (.aload_n 0, 1) := by decide +kernel
theorem dX4_goUnit_194 : decode cX4_goUnit 194 = .ok (.getfield 7, 3) := by decide +kernel
theorem dX4_goUnit_197 : decode cX4_goUnit 197 = .ok (.bipush 18, 2) := by decide +kernel
theorem dX4_goUnit_199 : decode cX4_goUnit 199 = .ok (.iload_n 2, 1) := by decide +kernel
theorem dX4_goUnit_200 : decode cX4_goUnit 200 = .ok (.iadd, 1) := by decide +kernel
theorem dX4_goUnit_201 : decode cX4_goUnit 201 = .ok (.iaload, 1) := by decide +kernel
theorem dX4_goUnit_202 : decode cX4_goUnit 202 = .ok (.istore_n 3, 1) := by decide +kernel
theorem dX4_goUnit_203 : decode cX4_goUnit 203 = .ok (.aload_n 0, 1) := by decide +kernel
theorem dX4_goUnit_204 : decode cX4_goUnit 204 = .ok (.iload_n 3, 1) := by decide +kernel
theorem dX4_goUnit_205 : decode cX4_goUnit 205 = .ok (.invokevirtual 88, 3) := by decide +kernel
theorem dX4_goUnit_208 : decode cX4_goUnit 208 = .ok (.aload_n 0, 1) := by decide +kernel
theorem dX4_goUnit_209 : decode cX4_goUnit 209 = .ok (.getfield 7, 3) := by decide +kernel
theorem dX4_goUnit_212 : decode cX4_goUnit 212 = .ok (.bipush 8, 2) := by decide +kernel
theorem dX4_goUnit_214 : decode cX4_goUnit 214 = .ok (.iaload, 1) := by decide +kernel
theorem dX4_goUnit_215 : decode cX4_goUnit 215 = .ok (.if_icmp .lt 11, 3) := by decide +kernel
theorem dX4_goUnit_218 : decode cX4_goUnit 218 = .ok (.aload_n 0, 1) := by decide +kernel
theorem dX4_goUnit_219 : decode cX4_goUnit 219 = .ok (.iload_n 3, 1) := by decide +kernel
theorem dX4_goUnit_220 : decode cX4_goUnit 220 = .ok (.invokevirtual 110, 3) := by decide +kernel
theorem dX4_goUnit_223 : decode cX4_goUnit 223 = .ok (.iinc 1 1, 3) := by decide +kernel
theorem dX4_goUnit_226 : decode cX4_goUnit 226 = .ok (.iinc 2 (-1), 3) := by decide +kernel
theorem dX4_goUnit_229 : decode cX4_goUnit 229 = .ok (.goto (-40), 3) := by decide +kernel
theorem dX4_goUnit_232 : decode cX4_goUnit 232 = .ok (.aload_n 0, 1) := by decide +kernel
theorem dX4_goUnit_233 : decode cX4_goUnit 233 = .ok (.invokevirtual 98, 3) := by decide +kernel
theorem dX4_goUnit_236 : decode cX4_goUnit 236 = .ok (.iload_n 1, 1) := by decide +kernel
theorem dX4_goUnit_237 : decode cX4_goUnit 237 = .ok (.ireturn, 1) := by decide +kernel
theorem dX4_go_0 : decode cX4_go 0 = .ok (.iconst 0, 1) := by decide +kernel
theorem dX4_go_1 : decode cX4_go 1 = .ok (.istore_n 2, 1) := by decide +kernel
theorem dX4_go_2 : decode cX4_go 2 = .ok (.iconst 0, 1) := by decide +kernel
theorem dX4_go_3 : decode cX4_go 3 = .ok (.istore_n 3, 1) := by decide +kernel
theorem dX4_go_4 : decode cX4_go 4 = .ok (.iload_n 3, 1) := by decide +kernel
theorem dX4_go_5 : decode cX4_go 5 = .ok (.iload_n 1, 1) := by decide +kernel
theorem dX4_go_6 : decode cX4_go 6 = .ok (.if_icmp .ge 16, 3) := by decide +kernel
theorem dX4_go_9 : decode cX4_go 9 = .ok (.iload_n 2, 1) := by decide +kernel
theorem dX4_go_10 : decode cX4_go 10 = .ok (.aload_n 0, 1) := by decide +kernel
theorem dX4_go_11 : decode cX4_go 11 = .ok (.invokevirtual 113, 3) := by decide +kernel
theorem dX4_go_14 : decode cX4_go 14 = .ok (.iadd, 1) := by decide +kernel
theorem dX4_go_15 : decode cX4_go 15 = .ok (.istore_n 2, 1) := by decide +kernel
theorem dX4_go_16 : decode cX4_go 16 = .ok (.iinc 3 1, 3) := by decide +kernel
theorem dX4_go_19 : decode cX4_go 19 = .ok (.goto (-15), 3) := by decide +kernel
theorem dX4_go_22 : decode cX4_go 22 = .ok (.iload_n 2, 1) := by decide +kernel
theorem dX4_go_23 : decode cX4_go 23 = .ok (.ireturn, 1) := by decide +kernel
theorem dX4_ask_0 : decode cX4_ask 0 = .ok (.aload_n 0, 1) := by decide +kernel
theorem dX4_ask_1 : decode cX4_ask 1 = .ok (.iload_n 1, 1) := by decide +kernel
theorem dX4_ask_2 : decode cX4_ask 2 = .ok (.invokestatic 116, 3) := by decide +kernel
theorem dX4_ask_5 : decode cX4_ask 5 = .ok (.ifCond .ne 7, 3) := by decide +kernel
theorem dX4_ask_8 : decode cX4_ask 8 = .ok (.iconst 1, 1) := by decide +kernel
theorem dX4_ask_9 : decode cX4_ask 9 = .ok (.goto 16, 3) := by decide +kernel
theorem dX4_ask_12 : decode cX4_ask 12 = .ok (.aload_n 0, 1) := by decide +kernel
theorem dX4_ask_13 : decode cX4_ask 13 = .ok (.iload_n 1, 1) := by decide +kernel
theorem dX4_ask_14 : decode cX4_ask 14 = .ok (.invokevirtual 119, 3) := by decide +kernel
theorem dX4_ask_17 : decode cX4_ask 17 = .ok (.ifCond .eq 7, 3) := by decide +kernel
theorem dX4_ask_20 : decode cX4_ask 20 = .ok (.iconst 0, 1) := by decide +kernel
theorem dX4_ask_21 : decode cX4_ask 21 = .ok (.goto 4, 3) := by decide +kernel
theorem dX4_ask_24 : decode cX4_ask 24 = .ok (.iconst 2, 1) := by decide +kernel
theorem dX4_ask_25 : decode cX4_ask 25 = .ok (.putfield 32, 3) := by decide +kernel
theorem dX4_ask_28 : decode cX4_ask 28 = .ok (.aload_n 0, 1) := by decide +kernel
theorem dX4_ask_29 : decode cX4_ask 29 = .ok (.getfield 32, 3) := by decide +kernel
theorem dX4_ask_32 : decode cX4_ask 32 = .ok (.ifCond .le 5, 3) := by decide +kernel
theorem dX4_ask_35 : decode cX4_ask 35 = .ok (.iconst 0, 1) := by decide +kernel
theorem dX4_ask_36 : decode cX4_ask 36 = .ok (.ireturn, 1) := by decide +kernel
theorem dX4_ask_37 : decode cX4_ask 37 = .ok (.aload_n 0, 1) := by decide +kernel
theorem dX4_ask_38 : decode cX4_ask 38 = .ok (.invokevirtual 122, 3) := by decide +kernel
theorem dX4_ask_41 : decode cX4_ask 41 = .ok (.aload_n 0, 1) := by decide +kernel
theorem dX4_ask_42 : decode cX4_ask 42 = .ok (.iload_n 1, 1) := by decide +kernel
theorem dX4_ask_43 : decode cX4_ask 43 = .ok (.invokevirtual 125, 3) := by decide +kernel
theorem dX4_ask_46 : decode cX4_ask 46 = .ok (.ireturn, 1) := by decide +kernel
theorem dX4_give_0 : decode cX4_give 0 = .ok (.aload_n 0, 1) := by decide +kernel
theorem dX4_give_1 : decode cX4_give 1 = .ok (.iload_n 1, 1) := by decide +kernel
theorem dX4_give_2 : decode cX4_give 2 = .ok (.invokestatic 128, 3) := by decide +kernel
theorem dX4_give_5 : decode cX4_give 5 = .ok (.ifCond .ne 7, 3) := by decide +kernel
theorem dX4_give_8 : decode cX4_give 8 = .ok (.iconst 1, 1) := by decide +kernel
theorem dX4_give_9 : decode cX4_give 9 = .ok (.goto 16, 3) := by decide +kernel
theorem dX4_give_12 : decode cX4_give 12 = .ok (.aload_n 0, 1) := by decide +kernel
theorem dX4_give_13 : decode cX4_give 13 = .ok (.iload_n 1, 1) := by decide +kernel
theorem dX4_give_14 : decode cX4_give 14 = .ok (.invokevirtual 131, 3) := by decide +kernel
theorem dX4_give_17 : decode cX4_give 17 = .ok (.ifCond .eq 7, 3) := by decide +kernel
theorem dX4_give_20 : decode cX4_give 20 = .ok (.iconst 0, 1) := by decide +kernel
theorem dX4_give_21 : decode cX4_give 21 = .ok (.goto 4, 3) := by decide +kernel
theorem dX4_give_24 : decode cX4_give 24 = .ok (.iconst 2, 1) := by decide +kernel
theorem dX4_give_25 : decode cX4_give 25 = .ok (.putfield 32, 3) := by decide +kernel
theorem dX4_give_28 : decode cX4_give 28 = .ok (.aload_n 0, 1) := by decide +kernel
theorem dX4_give_29 : decode cX4_give 29 = .ok (.getfield 32, 3) := by decide +kernel
theorem dX4_give_32 : decode cX4_give 32 = .ok (.ifCond .le 5, 3) := by decide +kernel
theorem dX4_give_35 : decode cX4_give 35 = .ok (.iconst 0, 1) := by decide +kernel
theorem dX4_give_36 : decode cX4_give 36 = .ok (.ireturn, 1) := by decide +kernel
theorem dX4_give_37 : decode cX4_give 37 = .ok (.aload_n 0, 1) := by decide +kernel
theorem dX4_give_38 : decode cX4_give 38 = .ok (.invokevirtual 122, 3) := by decide +kernel
theorem dX4_give_41 : decode cX4_give 41 = .ok (.aload_n 0, 1) := by decide +kernel
theorem dX4_give_42 : decode cX4_give 42 = .ok (.iload_n 1, 1) := by decide +kernel
theorem dX4_give_43 : decode cX4_give 43 = .ok (.invokevirtual 134, 3) := by decide +kernel
theorem dX4_give_46 : decode cX4_give 46 = .ok (.ireturn, 1) := by decide +kernel
theorem dX4_giveUp_0 : decode cX4_giveUp 0 = .ok (.aload_n 0, 1) := by decide +kernel
theorem dX4_giveUp_1 : decode cX4_giveUp 1 = .ok (.iload_n 1, 1) := by decide +kernel
theorem dX4_giveUp_2 : decode cX4_giveUp 2 = .ok (.invokestatic 116, 3) := by decide +kernel
theorem dX4_giveUp_5 : decode cX4_giveUp 5 = .ok (.ifCond .ne 7, 3) := by decide +kernel
theorem dX4_giveUp_8 : decode cX4_giveUp 8 = .ok (.iconst 1, 1) := by decide +kernel
theorem dX4_giveUp_9 : decode cX4_giveUp 9 = .ok (.goto 16, 3) := by decide +kernel
theorem dX4_giveUp_12 : decode cX4_giveUp 12 = .ok (.aload_n 0, 1) := by decide +kernel
theorem dX4_giveUp_13 : decode cX4_giveUp 13 = .ok (.iload_n 1, 1) := by decide +kernel
theorem dX4_giveUp_14 : decode cX4_giveUp 14 = .ok (.invokevirtual 104, 3) := by decide +kernel
theorem dX4_giveUp_17 : decode cX4_giveUp 17 = .ok (.ifCond .eq 7, 3) := by decide +kernel
theorem dX4_giveUp_20 : decode cX4_giveUp 20 = .ok (.iconst 0, 1) := by decide +kernel
theorem dX4_giveUp_21 : decode cX4_giveUp 21 = .ok (.goto 4, 3) := by decide +kernel
theorem dX4_giveUp_24 : decode cX4_giveUp 24 = .ok (.iconst 2, 1) := by decide +kernel
theorem dX4_giveUp_25 : decode cX4_giveUp 25 = .ok (.putfield 32, 3) := by decide +kernel
theorem dX4_giveUp_28 : decode cX4_giveUp 28 = .ok (.aload_n 0, 1) := by decide +kernel
theorem dX4_giveUp_29 : decode cX4_giveUp 29 = .ok (.getfield 32, 3) := by decide +kernel
theorem dX4_giveUp_32 : decode cX4_giveUp 32 = .ok (.ifCond .le 5, 3) := by decide +kernel
theorem dX4_giveUp_35 : decode cX4_giveUp 35 = .ok (.iconst 0, 1) := by decide +kernel
theorem dX4_giveUp_36 : decode cX4_giveUp 36 = .ok (.ireturn, 1) := by decide +kernel
theorem dX4_giveUp_37 : decode cX4_giveUp 37 = .ok (.aload_n 0, 1) := by decide +kernel
theorem dX4_giveUp_38 : decode cX4_giveUp 38 = .ok (.invokevirtual 122, 3) := by decide +kernel
theorem dX4_giveUp_41 : decode cX4_giveUp 41 = .ok (.aload_n 0, 1) := by decide +kernel
theorem dX4_giveUp_42 : decode cX4_giveUp 42 = .ok (.iload_n 1, 1) := by decide +kernel
theorem dX4_giveUp_43 : decode cX4_giveUp 43 = .ok (.invokevirtual 88, 3) := by decide +kernel
theorem dX4_giveUp_46 : decode cX4_giveUp 46 = .ok (.istore_n 2, 1) := by decide +kernel
theorem dX4_giveUp_47 : decode cX4_giveUp 47 = .ok (.aload_n 0, 1) := by decide +kernel
theorem dX4_giveUp_48 : decode cX4_giveUp 48 = .ok (.iload_n 1, 1) := by decide +kernel
theorem dX4_giveUp_49 : decode cX4_giveUp 49 = .ok (.invokevirtual 110, 3) := by decide +kernel
theorem dX4_giveUp_52 : decode cX4_giveUp 52 = .ok (.aload_n 0, 1) := by decide +kernel
theorem dX4_giveUp_53 : decode cX4_giveUp 53 = .ok (.invokevirtual 98, 3) := by decide +kernel
theorem dX4_giveUp_56 : decode cX4_giveUp 56 = .ok (.iload_n 2, 1) := by decide +kernel
theorem dX4_giveUp_57 : decode cX4_giveUp 57 = .ok (.ireturn, 1) := by decide +kernel
theorem dX4_appear_0 : decode cX4_appear 0 = .ok (.aload_n 0, 1) := by decide +kernel
theorem dX4_appear_1 : decode cX4_appear 1 = .ok (.iload_n 1, 1) := by decide +kernel
theorem dX4_appear_2 : decode cX4_appear 2 = .ok (.invokestatic 116, 3) := by decide +kernel
theorem dX4_appear_5 : decode cX4_appear 5 = .ok (.ifCond .ne 7, 3) := by decide +kernel
theorem dX4_appear_8 : decode cX4_appear 8 = .ok (.iconst 1, 1) := by decide +kernel
theorem dX4_appear_9 : decode cX4_appear 9 = .ok (.goto 17, 3) := by decide +kernel
theorem dX4_appear_12 : decode cX4_appear 12 = .ok (.aload_n 0, 1) := by decide +kernel
theorem dX4_appear_13 : decode cX4_appear 13 = .ok (.iload_n 1, 1) := by decide +kernel
theorem dX4_appear_14 : decode cX4_appear 14 = .ok (.invokevirtual 101, 3) := by decide +kernel
theorem dX4_appear_17 : decode cX4_appear 17 = .ok (.iload_n 2, 1) := by decide +kernel
theorem dX4_appear_18 : decode cX4_appear 18 = .ok (.if_icmp .ne 7, 3) := by decide +kernel
theorem dX4_appear_21 : decode cX4_appear 21 = .ok (.iconst 2, 1) := by decide +kernel
theorem dX4_appear_22 : decode cX4_appear 22 = .ok (.goto 4, 3) := by decide +kernel
theorem dX4_appear_25 : decode cX4_appear 25 = .ok (.iconst 0, 1) := by decide +kernel
theorem dX4_appear_26 : decode cX4_appear 26 = .ok (.putfield 32, 3) := by decide +kernel
theorem dX4_appear_29 : decode cX4_appear 29 = .ok (.aload_n 0, 1) := by decide +kernel
theorem dX4_appear_30 : decode cX4_appear 30 = .ok (.getfield 32, 3) := by decide +kernel
theorem dX4_appear_33 : decode cX4_appear 33 = .ok (.ifCond .le 5, 3) := by decide +kernel
theorem dX4_appear_36 : decode cX4_appear 36 = .ok (.iconst 0, 1) := by decide +kernel
theorem dX4_appear_37 : decode cX4_appear 37 = .ok (.ireturn, 1) := by decide +kernel
theorem dX4_appear_38 : decode cX4_appear 38 = .ok (.aload_n 0, 1) := by decide +kernel
theorem dX4_appear_39 : decode cX4_appear 39 = .ok (.invokevirtual 122, 3) := by decide +kernel
theorem dX4_appear_42 : decode cX4_appear 42 = .ok (.aload_n 0, 1) := by decide +kernel
theorem dX4_appear_43 : decode cX4_appear 43 = .ok (.iload_n 1, 1) := by decide +kernel
theorem dX4_appear_44 : decode cX4_appear 44 = .ok (.iload_n 2, 1) := by decide +kernel
theorem dX4_appear_45 : decode cX4_appear 45 = .ok (.invokevirtual 137, 3) := by decide +kernel
theorem dX4_appear_48 : decode cX4_appear 48 = .ok (.ireturn, 1) := by decide +kernel
theorem dX4_sicken_0 : decode cX4_sicken 0 = .ok (.aload_n 0, 1) := by decide +kernel
theorem dX4_sicken_1 : decode cX4_sicken 1 = .ok (.iload_n 1, 1) := by decide +kernel
theorem dX4_sicken_2 : decode cX4_sicken 2 = .ok (.invokestatic 128, 3) := by decide +kernel
theorem dX4_sicken_5 : decode cX4_sicken 5 = .ok (.ifCond .ne 7, 3) := by decide +kernel
theorem dX4_sicken_8 : decode cX4_sicken 8 = .ok (.iconst 1, 1) := by decide +kernel
theorem dX4_sicken_9 : decode cX4_sicken 9 = .ok (.goto 17, 3) := by decide +kernel
theorem dX4_sicken_12 : decode cX4_sicken 12 = .ok (.aload_n 0, 1) := by decide +kernel
theorem dX4_sicken_13 : decode cX4_sicken 13 = .ok (.iload_n 1, 1) := by decide +kernel
theorem dX4_sicken_14 : decode cX4_sicken 14 = .ok (.iconst 0, 1) := by decide +kernel
theorem dX4_sicken_15 : decode cX4_sicken 15 = .ok (.invokevirtual 50, 3) := by decide +kernel
theorem dX4_sicken_18 : decode cX4_sicken 18 = .ok (.ifCond .eq 7, 3) := by decide +kernel
theorem dX4_sicken_21 : decode cX4_sicken 21 = .ok (.iconst 2, 1) := by decide +kernel
theorem dX4_sicken_22 : decode cX4_sicken 22 = .ok (.goto 4, 3) := by decide +kernel
theorem dX4_sicken_25 : decode cX4_sicken 25 = .ok (.iconst 0, 1) := by decide +kernel
theorem dX4_sicken_26 : decode cX4_sicken 26 = .ok (.putfield 32, 3) := by decide +kernel
theorem dX4_sicken_29 : decode cX4_sicken 29 = .ok (.aload_n 0, 1) := by decide +kernel
theorem dX4_sicken_30 : decode cX4_sicken 30 = .ok (.getfield 32, 3) := by decide +kernel
theorem dX4_sicken_33 : decode cX4_sicken 33 = .ok (.ifCond .le 5, 3) := by decide +kernel
theorem dX4_sicken_36 : decode cX4_sicken 36 = .ok (.iconst 0, 1) := by decide +kernel
theorem dX4_sicken_37 : decode cX4_sicken 37 = .ok (.ireturn, 1) := by decide +kernel
theorem dX4_sicken_38 : decode cX4_sicken 38 = .ok (.aload_n 0, 1) := by decide +kernel
theorem dX4_sicken_39 : decode cX4_sicken 39 = .ok (.invokevirtual 122, 3) := by decide +kernel
theorem dX4_sicken_42 : decode cX4_sicken 42 = .ok (.aload_n 0, 1) := by decide +kernel
theorem dX4_sicken_43 : decode cX4_sicken 43 = .ok (.iload_n 1, 1) := by decide +kernel
theorem dX4_sicken_44 : decode cX4_sicken 44 = .ok (.invokevirtual 141, 3) := by decide +kernel
theorem dX4_sicken_47 : decode cX4_sicken 47 = .ok (.ireturn, 1) := by decide +kernel
theorem dX4_check_0 : decode cX4_check 0 = .ok (.aload_n 0, 1) := by decide +kernel
theorem dX4_check_1 : decode cX4_check 1 = .ok (.iconst 0, 1) := by decide +kernel
theorem dX4_check_2 : decode cX4_check 2 = .ok (.putfield 32, 3) := by decide +kernel
theorem dX4_check_5 : decode cX4_check 5 = .ok (.aload_n 0, 1) := by decide +kernel
theorem dX4_check_6 : decode cX4_check 6 = .ok (.invokevirtual 122, 3) := by decide +kernel
theorem dX4_check_9 : decode cX4_check 9 = .ok (.aload_n 0, 1) := by decide +kernel
theorem dX4_check_10 : decode cX4_check 10 = .ok (.invokevirtual 107, 3) := by decide +kernel
theorem dX4_check_13 : decode cX4_check 13 = .ok (.istore_n 1, 1) := by decide +kernel
theorem dX4_check_14 : decode cX4_check 14 = .ok (.aload_n 0, 1) := by decide +kernel
theorem dX4_check_15 : decode cX4_check 15 = .ok (.invokevirtual 98, 3) := by decide +kernel
theorem dX4_check_18 : decode cX4_check 18 = .ok (.iload_n 1, 1) := by decide +kernel
theorem dX4_check_19 : decode cX4_check 19 = .ok (.ireturn, 1) := by decide +kernel
theorem dX4_drain_0 : decode cX4_drain 0 = .ok (.aload_n 0, 1) := by decide +kernel
theorem dX4_drain_1 : decode cX4_drain 1 = .ok (.iconst 0, 1) := by decide +kernel
theorem dX4_drain_2 : decode cX4_drain 2 = .ok (.putfield 32, 3) := by decide +kernel
theorem dX4_drain_5 : decode cX4_drain 5 = .ok (.aload_n 0, 1) := by decide +kernel
theorem dX4_drain_6 : decode cX4_drain 6 = .ok (.invokevirtual 122, 3) := by decide +kernel
theorem dX4_drain_9 : decode cX4_drain 9 = .ok (.iconst 0, 1) := by decide +kernel
theorem dX4_drain_10 : decode cX4_drain 10 = .ok (.istore_n 1, 1) := by decide +kernel
theorem dX4_drain_11 : decode cX4_drain 11 = .ok (.iconst 0, 1) := by decide +kernel
theorem dX4_drain_12 : decode cX4_drain 12 = .ok (.istore_n 2, 1) := by decide +kernel
theorem dX4_drain_13 : decode cX4_drain 13 = .ok (.iload_n 2, 1) := by decide +kernel
theorem dX4_drain_14 : decode cX4_drain 14 = .ok (.bipush 8, 2) := by decide +kernel
theorem dX4_drain_16 : decode cX4_drain 16 = .ok (.if_icmp .ge 27, 3) := by decide +kernel
theorem dX4_drain_19 : decode cX4_drain 19 = .ok (.aload_n 0, 1) := by decide +kernel
theorem dX4_drain_20 : decode cX4_drain 20 = .ok (.iload_n 2, 1) := by decide +kernel
theorem dX4_drain_21 : decode cX4_drain 21 = .ok (.iconst 1, 1) := by decide +kernel
theorem dX4_drain_22 : decode cX4_drain 22 = .ok (.invokevirtual 50, 3) := by decide +kernel
theorem dX4_drain_25 : decode cX4_drain 25 = .ok (.ifCond .eq 12, 3) := by decide +kernel
theorem dX4_drain_28 : decode cX4_drain 28 = .ok (.aload_n 0, 1) := by decide +kernel
theorem dX4_drain_29 : decode cX4_drain 29 = .ok (.iload_n 2, 1) := by decide +kernel
theorem dX4_drain_30 : decode cX4_drain 30 = .ok (.iconst (-1), 1) := by decide +kernel
theorem dX4_drain_31 : decode cX4_drain 31 = .ok (.invokevirtual 65, 3) := by decide +kernel
theorem dX4_drain_34 : decode cX4_drain 34 = .ok (.iinc 1 1, 3) := by decide +kernel
theorem dX4_drain_37 : decode cX4_drain 37 = .ok (.iinc 2 1, 3) := by decide +kernel
theorem dX4_drain_40 : decode cX4_drain 40 = .ok (.goto (-27), 3) := by decide +kernel
theorem dX4_drain_43 : decode cX4_drain 43 = .ok (.aload_n 0, 1) := by decide +kernel
theorem dX4_drain_44 : decode cX4_drain 44 = .ok (.invokevirtual 98, 3) := by decide +kernel
theorem dX4_drain_47 : decode cX4_drain 47 = .ok (.iload_n 1, 1) := by decide +kernel
theorem dX4_drain_48 : decode cX4_drain 48 = .ok (.ireturn, 1) := by decide +kernel
theorem dX4_leastOf_0 : decode cX4_leastOf 0 = .ok (.iload_n 0, 1) := by decide +kernel
theorem dX4_leastOf_1 : decode cX4_leastOf 1 = .ok (.iconst 2, 1) := by decide +kernel
theorem dX4_leastOf_2 : decode cX4_leastOf 2 = .ok (.iconst 4, 1) := by decide +kernel
theorem dX4_leastOf_3 : decode cX4_leastOf 3 = .ok (.invokestatic 36, 3) := by decide +kernel
theorem dX4_leastOf_6 : decode cX4_leastOf 6 = .ok (.ifCond .ne 9, 3) := by decide +kernel
theorem dX4_leastOf_9 : decode cX4_leastOf 9 = .ok (.iload_n 0, 1) := by decide +kernel
theorem dX4_leastOf_10 : decode cX4_leastOf 10 = .ok (.bipush 6, 2) := by decide +kernel
theorem dX4_leastOf_12 : decode cX4_leastOf 12 = .ok (.if_icmp .ne 7, 3) := by decide +kernel
theorem dX4_leastOf_15 : decode cX4_leastOf 15 = .ok (.iconst 0, 1) := by decide +kernel
theorem dX4_leastOf_16 : decode cX4_leastOf 16 = .ok (.goto 4, 3) := by decide +kernel
theorem dX4_leastOf_19 : decode cX4_leastOf 19 = .ok (.iconst 1, 1) := by decide +kernel
theorem dX4_leastOf_20 : decode cX4_leastOf 20 = .ok (.ireturn, 1) := by decide +kernel
theorem dX4_mostOf_0 : decode cX4_mostOf 0 = .ok (.iload_n 0, 1) := by decide +kernel
theorem dX4_mostOf_1 : decode cX4_mostOf 1 = .ok (.iconst 2, 1) := by decide +kernel
theorem dX4_mostOf_2 : decode cX4_mostOf 2 = .ok (.if_icmp .gt 8, 3) := by decide +kernel
theorem dX4_mostOf_5 : decode cX4_mostOf 5 = .ok (.bipush 8, 2) := by decide +kernel
theorem dX4_mostOf_7 : decode cX4_mostOf 7 = .ok (.goto 14, 3) := by decide +kernel
theorem dX4_mostOf_10 : decode cX4_mostOf 10 = .ok (.iload_n 0, 1) := by decide +kernel
theorem dX4_mostOf_11 : decode cX4_mostOf 11 = .ok (.iconst 4, 1) := by decide +kernel
theorem dX4_mostOf_12 : decode cX4_mostOf 12 = .ok (.if_icmp .gt 7, 3) := by decide +kernel
theorem dX4_mostOf_15 : decode cX4_mostOf 15 = .ok (.iconst 1, 1) := by decide +kernel
theorem dX4_mostOf_16 : decode cX4_mostOf 16 = .ok (.goto 5, 3) := by decide +kernel
theorem dX4_mostOf_19 : decode cX4_mostOf 19 = .ok (.bipush 99, 2) := by decide +kernel
theorem dX4_mostOf_21 : decode cX4_mostOf 21 = .ok (.ireturn, 1) := by decide +kernel
theorem dX4_set_0 : decode cX4_set 0 = .ok (.aload_n 0, 1) := by decide +kernel
theorem dX4_set_1 : decode cX4_set 1 = .ok (.iload_n 1, 1) := by decide +kernel
theorem dX4_set_2 : decode cX4_set 2 = .ok (.iconst 0, 1) := by decide +kernel
theorem dX4_set_3 : decode cX4_set 3 = .ok (.bipush 8, 2) := by decide +kernel
theorem dX4_set_5 : decode cX4_set 5 = .ok (.invokestatic 36, 3) := by decide +kernel
theorem dX4_set_8 : decode cX4_set 8 = .ok (.ifCond .ne 7, 3) := by decide +kernel
theorem dX4_set_11 : decode cX4_set 11 = .ok (.iconst 1, 1) := by decide +kernel
theorem dX4_set_12 : decode cX4_set 12 = .ok (.goto 23, 3) := by decide +kernel
theorem dX4_set_15 : decode cX4_set 15 = .ok (.iload_n 2, 1) := by decide +kernel
theorem dX4_set_16 : decode cX4_set 16 = .ok (.iload_n 1, 1) := by decide +kernel
theorem dX4_set_17 : decode cX4_set 17 = .ok (.invokestatic 144, 3) := by decide +kernel
theorem dX4_set_20 : decode cX4_set 20 = .ok (.iload_n 1, 1) := by decide +kernel
theorem dX4_set_21 : decode cX4_set 21 = .ok (.invokestatic 147, 3) := by decide +kernel
theorem dX4_set_24 : decode cX4_set 24 = .ok (.invokestatic 36, 3) := by decide +kernel
theorem dX4_set_27 : decode cX4_set 27 = .ok (.ifCond .eq 7, 3) := by decide +kernel
theorem dX4_set_30 : decode cX4_set 30 = .ok (.iconst 0, 1) := by decide +kernel
theorem dX4_set_31 : decode cX4_set 31 = .ok (.goto 4, 3) := by decide +kernel
theorem dX4_set_34 : decode cX4_set 34 = .ok (.iconst 2, 1) := by decide +kernel
theorem dX4_set_35 : decode cX4_set 35 = .ok (.putfield 32, 3) := by decide +kernel
theorem dX4_set_38 : decode cX4_set 38 = .ok (.aload_n 0, 1) := by decide +kernel
theorem dX4_set_39 : decode cX4_set 39 = .ok (.getfield 32, 3) := by decide +kernel
theorem dX4_set_42 : decode cX4_set 42 = .ok (.ifCond .le 5, 3) := by decide +kernel
theorem dX4_set_45 : decode cX4_set 45 = .ok (.iconst 0, 1) := by decide +kernel
theorem dX4_set_46 : decode cX4_set 46 = .ok (.ireturn, 1) := by decide +kernel
theorem dX4_set_47 : decode cX4_set 47 = .ok (.aload_n 0, 1) := by decide +kernel
theorem dX4_set_48 : decode cX4_set 48 = .ok (.invokevirtual 122, 3) := by decide +kernel
theorem dX4_set_51 : decode cX4_set 51 = .ok (.aload_n 0, 1) := by decide +kernel
theorem dX4_set_52 : decode cX4_set 52 = .ok (.getfield 7, 3) := by decide +kernel
theorem dX4_set_55 : decode cX4_set 55 = .ok (.iload_n 1, 1) := by decide +kernel
theorem dX4_set_56 : decode cX4_set 56 = .ok (.iaload, 1) := by decide +kernel
theorem dX4_set_57 : decode cX4_set 57 = .ok (.istore_n 3, 1) := by decide +kernel
theorem dX4_set_58 : decode cX4_set 58 = .ok (.aload_n 0, 1) := by decide +kernel
theorem dX4_set_59 : decode cX4_set 59 = .ok (.getfield 7, 3) := by decide +kernel
theorem dX4_set_62 : decode cX4_set 62 = .ok (.iload_n 1, 1) := by decide +kernel
theorem dX4_set_63 : decode cX4_set 63 = .ok (.iload_n 2, 1) := by decide +kernel
theorem dX4_set_64 : decode cX4_set 64 = .ok (.iastore, 1) := by decide +kernel
theorem dX4_set_65 : decode cX4_set 65 = .ok (.aload_n 0, 1) := by decide +kernel
theorem dX4_set_66 : decode cX4_set 66 = .ok (.invokevirtual 98, 3) := by decide +kernel
theorem dX4_set_69 : decode cX4_set 69 = .ok (.iload_n 3, 1) := by decide +kernel
theorem dX4_set_70 : decode cX4_set 70 = .ok (.ireturn, 1) := by decide +kernel
theorem dX4_pass_0 : decode cX4_pass 0 = .ok (.aload_n 0, 1) := by decide +kernel
theorem dX4_pass_1 : decode cX4_pass 1 = .ok (.iload_n 1, 1) := by decide +kernel
theorem dX4_pass_2 : decode cX4_pass 2 = .ok (.iconst 1, 1) := by decide +kernel
theorem dX4_pass_3 : decode cX4_pass 3 = .ok (.bipush 99, 2) := by decide +kernel
theorem dX4_pass_5 : decode cX4_pass 5 = .ok (.invokestatic 36, 3) := by decide +kernel
theorem dX4_pass_8 : decode cX4_pass 8 = .ok (.ifCond .ne 7, 3) := by decide +kernel
theorem dX4_pass_11 : decode cX4_pass 11 = .ok (.iconst 1, 1) := by decide +kernel
theorem dX4_pass_12 : decode cX4_pass 12 = .ok (.goto 23, 3) := by decide +kernel
theorem dX4_pass_15 : decode cX4_pass 15 = .ok (.aload_n 0, 1) := by decide +kernel
theorem dX4_pass_16 : decode cX4_pass 16 = .ok (.getfield 7, 3) := by decide +kernel
theorem dX4_pass_19 : decode cX4_pass 19 = .ok (.bipush 9, 2) := by decide +kernel
theorem dX4_pass_21 : decode cX4_pass 21 = .ok (.iaload, 1) := by decide +kernel
theorem dX4_pass_22 : decode cX4_pass 22 = .ok (.iload_n 1, 1) := by decide +kernel
theorem dX4_pass_23 : decode cX4_pass 23 = .ok (.iadd, 1) := by decide +kernel
theorem dX4_pass_24 : decode cX4_pass 24 = .ok (.sipush 9999, 3) := by decide +kernel
theorem dX4_pass_27 : decode cX4_pass 27 = .ok (.if_icmp .le 7, 3) := by decide +kernel
theorem dX4_pass_30 : decode cX4_pass 30 = .ok (.iconst 2, 1) := by decide +kernel
theorem dX4_pass_31 : decode cX4_pass 31 = .ok (.goto 4, 3) := by decide +kernel
theorem dX4_pass_34 : decode cX4_pass 34 = .ok (.iconst 0, 1) := by decide +kernel
theorem dX4_pass_35 : decode cX4_pass 35 = .ok (.putfield 32, 3) := by decide +kernel
theorem dX4_pass_38 : decode cX4_pass 38 = .ok (.aload_n 0, 1) := by decide +kernel
theorem dX4_pass_39 : decode cX4_pass 39 = .ok (.getfield 32, 3) := by decide +kernel
theorem dX4_pass_42 : decode cX4_pass 42 = .ok (.ifCond .le 5, 3) := by decide +kernel
theorem dX4_pass_45 : decode cX4_pass 45 = .ok (.iconst 0, 1) := by decide +kernel
theorem dX4_pass_46 : decode cX4_pass 46 = .ok (.ireturn, 1) := by decide +kernel
theorem dX4_pass_47 : decode cX4_pass 47 = .ok (.aload_n 0, 1) := by decide +kernel
theorem dX4_pass_48 : decode cX4_pass 48 = .ok (.invokevirtual 122, 3) := by decide +kernel
theorem dX4_pass_51 : decode cX4_pass 51 = .ok (.aload_n 0, 1) := by decide +kernel
theorem dX4_pass_52 : decode cX4_pass 52 = .ok (.iload_n 1, 1) := by decide +kernel
theorem dX4_pass_53 : decode cX4_pass 53 = .ok (.invokevirtual 150, 3) := by decide +kernel
theorem dX4_pass_56 : decode cX4_pass 56 = .ok (.ireturn, 1) := by decide +kernel
theorem dX4_append_0 : decode cX4_append 0 = .ok (.aload_n 0, 1) := by decide +kernel
theorem dX4_append_1 : decode cX4_append 1 = .ok (.iload_n 1, 1) := by decide +kernel
theorem dX4_append_2 : decode cX4_append 2 = .ok (.bipush 33, 2) := by decide +kernel
theorem dX4_append_4 : decode cX4_append 4 = .ok (.bipush 126, 2) := by decide +kernel
theorem dX4_append_6 : decode cX4_append 6 = .ok (.invokestatic 36, 3) := by decide +kernel
theorem dX4_append_9 : decode cX4_append 9 = .ok (.ifCond .ne 7, 3) := by decide +kernel
theorem dX4_append_12 : decode cX4_append 12 = .ok (.iconst 1, 1) := by decide +kernel
theorem dX4_append_13 : decode cX4_append 13 = .ok (.goto 17, 3) := by decide +kernel
theorem dX4_append_16 : decode cX4_append 16 = .ok (.aload_n 0, 1) := by decide +kernel
theorem dX4_append_17 : decode cX4_append 17 = .ok (.getfield 153, 3) := by decide +kernel
theorem dX4_append_20 : decode cX4_append 20 = .ok (.bipush 60, 2) := by decide +kernel
theorem dX4_append_22 : decode cX4_append 22 = .ok (.if_icmp .ne 7, 3) := by decide +kernel
theorem dX4_append_25 : decode cX4_append 25 = .ok (.iconst 2, 1) := by decide +kernel
theorem dX4_append_26 : decode cX4_append 26 = .ok (.goto 4, 3) := by decide +kernel
theorem dX4_append_29 : decode cX4_append 29 = .ok (.iconst 0, 1) := by decide +kernel
theorem dX4_append_30 : decode cX4_append 30 = .ok (.putfield 32, 3) := by decide +kernel
theorem dX4_append_33 : decode cX4_append 33 = .ok (.aload_n 0, 1) := by decide +kernel
theorem dX4_append_34 : decode cX4_append 34 = .ok (.getfield 32, 3) := by decide +kernel
theorem dX4_append_37 : decode cX4_append 37 = .ok (.ifCond .le 5, 3) := by decide +kernel
theorem dX4_append_40 : decode cX4_append 40 = .ok (.iconst 0, 1) := by decide +kernel
theorem dX4_append_41 : decode cX4_append 41 = .ok (.ireturn, 1) := by decide +kernel
theorem dX4_append_42 : decode cX4_append 42 = .ok (.aload_n 0, 1) := by decide +kernel
theorem dX4_append_43 : decode cX4_append 43 = .ok (.getfield 19, 3) := by decide +kernel
theorem dX4_append_46 : decode cX4_append 46 = .ok (.aload_n 0, 1) := by decide +kernel
theorem dX4_append_47 : decode cX4_append 47 = .ok (.getfield 153, 3) := by decide +kernel
theorem dX4_append_50 : decode cX4_append 50 = .ok (.iload_n 1, 1) := by decide +kernel
theorem dX4_append_51 : decode cX4_append 51 = .ok (.iastore, 1) := by decide +kernel
theorem dX4_append_52 : decode cX4_append 52 = .ok (.aload_n 0, 1) := by decide +kernel
theorem dX4_append_53 : decode cX4_append 53 = .ok (.dup, 1) := by decide +kernel
theorem dX4_append_54 : decode cX4_append 54 = .ok (.getfield 153, 3) := by decide +kernel
theorem dX4_append_57 : decode cX4_append 57 = .ok (.iconst 1, 1) := by decide +kernel
theorem dX4_append_58 : decode cX4_append 58 = .ok (.iadd, 1) := by decide +kernel
theorem dX4_append_59 : decode cX4_append 59 = .ok (.putfield 153, 3) := by decide +kernel
theorem dX4_append_62 : decode cX4_append 62 = .ok (.aload_n 0, 1) := by decide +kernel
theorem dX4_append_63 : decode cX4_append 63 = .ok (.getfield 153, 3) := by decide +kernel
theorem dX4_append_66 : decode cX4_append 66 = .ok (.ireturn, 1) := by decide +kernel
theorem dX4_clearBuffer_0 : decode cX4_clearBuffer 0 = .ok (.aload_n 0, 1) := by decide +kernel
theorem dX4_clearBuffer_1 : decode cX4_clearBuffer 1 = .ok (.iconst 0, 1) := by decide +kernel
theorem dX4_clearBuffer_2 : decode cX4_clearBuffer 2 = .ok (.putfield 32, 3) := by decide +kernel
theorem dX4_clearBuffer_5 : decode cX4_clearBuffer 5 = .ok (.aload_n 0, 1) := by decide +kernel
theorem dX4_clearBuffer_6 : decode cX4_clearBuffer 6 = .ok (.getfield 153, 3) := by decide +kernel
theorem dX4_clearBuffer_9 : decode cX4_clearBuffer 9 = .ok (.istore_n 1, 1) := by decide +kernel
theorem dX4_clearBuffer_10 : decode cX4_clearBuffer 10 = .ok (.aload_n 0, 1) := by decide +kernel
theorem dX4_clearBuffer_11 : decode cX4_clearBuffer 11 = .ok (.iconst 0, 1) := by decide +kernel
theorem dX4_clearBuffer_12 : decode cX4_clearBuffer 12 = .ok (.putfield 153, 3) := by decide +kernel
theorem dX4_clearBuffer_15 : decode cX4_clearBuffer 15 = .ok (.iload_n 1, 1) := by decide +kernel
theorem dX4_clearBuffer_16 : decode cX4_clearBuffer 16 = .ok (.ireturn, 1) := by decide +kernel
theorem dX4_stands_0 : decode cX4_stands 0 = .ok (.aload_n 0, 1) := by decide +kernel
theorem dX4_stands_1 : decode cX4_stands 1 = .ok (.getfield 19, 3) := by decide +kernel
theorem dX4_stands_4 : decode cX4_stands 4 = .ok (.iload_n 1, 1) := by decide +kernel
theorem dX4_stands_5 : decode cX4_stands 5 = .ok (.iaload, 1) := by decide +kernel
theorem dX4_stands_6 : decode cX4_stands 6 = .ok (.istore_n 2, 1) := by decide +kernel
theorem dX4_stands_7 : decode cX4_stands 7 = .ok (.iload_n 1, 1) := by decide +kernel
theorem dX4_stands_8 : decode cX4_stands 8 = .ok (.iconst 2, 1) := by decide +kernel
theorem dX4_stands_9 : decode cX4_stands 9 = .ok (.irem, 1) := by decide +kernel
theorem dX4_stands_10 : decode cX4_stands 10 = .ok (.ifCond .ne 45, 3) := by decide +kernel
theorem dX4_stands_13 : decode cX4_stands 13 = .ok (.iload_n 2, 1) := by decide +kernel
theorem dX4_stands_14 : decode cX4_stands 14 = .ok (.bipush 97, 2) := by decide +kernel
theorem dX4_stands_16 : decode cX4_stands 16 = .ok (.if_icmp .eq 33, 3) := by decide +kernel
theorem dX4_stands_19 : decode cX4_stands 19 = .ok (.iload_n 2, 1) := by decide +kernel
theorem dX4_stands_20 : decode cX4_stands 20 = .ok (.bipush 103, 2) := by decide +kernel
theorem dX4_stands_22 : decode cX4_stands 22 = .ok (.if_icmp .eq 27, 3) := by decide +kernel
theorem dX4_stands_25 : decode cX4_stands 25 = .ok (.iload_n 2, 1) := by decide +kernel
theorem dX4_stands_26 : decode cX4_stands 26 = .ok (.bipush 115, 2) := by decide +kernel
theorem dX4_stands_28 : decode cX4_stands 28 = .ok (.if_icmp .eq 21, 3) := by decide +kernel
theorem dX4_stands_31 : decode cX4_stands 31 = .ok (.iload_n 2, 1) := by decide +kernel
theorem dX4_stands_32 : decode cX4_stands 32 = .ok (.bipush 118, 2) := by decide +kernel
theorem dX4_stands_34 : decode cX4_stands 34 = .ok (.if_icmp .eq 15, 3) := by decide +kernel
theorem dX4_stands_37 : decode cX4_stands 37 = .ok (.iload_n 2, 1) := by decide +kernel
theorem dX4_stands_38 : decode cX4_stands 38 = .ok (.bipush 99, 2) := by decide +kernel
theorem dX4_stands_40 : decode cX4_stands 40 = .ok (.if_icmp .eq 9, 3) := by decide +kernel
theorem dX4_stands_43 : decode cX4_stands 43 = .ok (.iload_n 2, 1) := by decide +kernel
theorem dX4_stands_44 : decode cX4_stands 44 = .ok (.bipush 43, 2) := by decide +kernel
theorem dX4_stands_46 : decode cX4_stands 46 = .ok (.if_icmp .ne 7, 3) := by decide +kernel
theorem dX4_stands_49 : decode cX4_stands 49 = .ok (.iconst 1, 1) := by decide +kernel
theorem dX4_stands_50 : decode cX4_stands 50 = .ok (.goto 4, 3) := by decide +kernel
theorem dX4_stands_53 : decode cX4_stands 53 = .ok (.iconst 0, 1) := by decide +kernel
theorem dX4_stands_54 : decode cX4_stands 54 = .ok (.ireturn, 1) := by decide +kernel
theorem dX4_stands_55 : decode cX4_stands 55 = .ok (.aload_n 0, 1) := by decide +kernel
theorem dX4_stands_56 : decode cX4_stands 56 = .ok (.getfield 19, 3) := by decide +kernel
theorem dX4_stands_59 : decode cX4_stands 59 = .ok (.iload_n 1, 1) := by decide +kernel
theorem dX4_stands_60 : decode cX4_stands 60 = .ok (.iconst 1, 1) := by decide +kernel
theorem dX4_stands_61 : decode cX4_stands 61 = .ok (.isub, 1) := by decide +kernel
theorem dX4_stands_62 : decode cX4_stands 62 = .ok (.iaload, 1) := by decide +kernel
theorem dX4_stands_63 : decode cX4_stands 63 = .ok (.bipush 43, 2) := by decide +kernel
theorem dX4_stands_65 : decode cX4_stands 65 = .ok (.if_icmp .ne 14, 3) := by decide +kernel
theorem dX4_stands_68 : decode cX4_stands 68 = .ok (.iload_n 2, 1) := by decide +kernel
theorem dX4_stands_69 : decode cX4_stands 69 = .ok (.bipush 49, 2) := by decide +kernel
theorem dX4_stands_71 : decode cX4_stands 71 = .ok (.bipush 57, 2) := by decide +kernel
theorem dX4_stands_73 : decode cX4_stands 73 = .ok (.invokestatic 36, 3) := by decide +kernel
theorem dX4_stands_76 : decode cX4_stands 76 = .ok (.goto 11, 3) := by decide +kernel
theorem dX4_stands_79 : decode cX4_stands 79 = .ok (.iload_n 2, 1) := by decide +kernel
theorem dX4_stands_80 : decode cX4_stands 80 = .ok (.bipush 48, 2) := by decide +kernel
theorem dX4_stands_82 : decode cX4_stands 82 = .ok (.bipush 55, 2) := by decide +kernel
theorem dX4_stands_84 : decode cX4_stands 84 = .ok (.invokestatic 36, 3) := by decide +kernel
theorem dX4_stands_87 : decode cX4_stands 87 = .ok (.ireturn, 1) := by decide +kernel
theorem dX4_readBuffer_0 : decode cX4_readBuffer 0 = .ok (.iconst 0, 1) := by decide +kernel
theorem dX4_readBuffer_1 : decode cX4_readBuffer 1 = .ok (.istore_n 1, 1) := by decide +kernel
theorem dX4_readBuffer_2 : decode cX4_readBuffer 2 = .ok (.iload_n 1, 1) := by decide +kernel
theorem dX4_readBuffer_3 : decode cX4_readBuffer 3 = .ok (.aload_n 0, 1) := by decide +kernel
theorem dX4_readBuffer_4 : decode cX4_readBuffer 4 = .ok (.getfield 153, 3) := by decide +kernel
theorem dX4_readBuffer_7 : decode cX4_readBuffer 7 = .ok (.if_icmp .ge 19, 3) := by decide +kernel
theorem dX4_readBuffer_10 : decode cX4_readBuffer 10 = .ok (.aload_n 0, 1) := by decide +kernel
theorem dX4_readBuffer_11 : decode cX4_readBuffer 11 = .ok (.iload_n 1, 1) := by decide +kernel
theorem dX4_readBuffer_12 : decode cX4_readBuffer 12 = .ok (.invokevirtual 156, 3) := by decide +kernel
theorem dX4_readBuffer_15 : decode cX4_readBuffer 15 = .ok (.ifCond .ne 5, 3) := by decide +kernel
theorem dX4_readBuffer_18 : decode cX4_readBuffer 18 = .ok (.iload_n 1, 1) := by decide +kernel
theorem dX4_readBuffer_19 : decode cX4_readBuffer 19 = .ok (.ireturn, 1) := by decide +kernel
theorem dX4_readBuffer_20 : decode cX4_readBuffer 20 = .ok (.iinc 1 1, 3) := by decide +kernel
theorem dX4_readBuffer_23 : decode cX4_readBuffer 23 = .ok (.goto (-21), 3) := by decide +kernel
theorem dX4_readBuffer_26 : decode cX4_readBuffer 26 = .ok (.aload_n 0, 1) := by decide +kernel
theorem dX4_readBuffer_27 : decode cX4_readBuffer 27 = .ok (.getfield 153, 3) := by decide +kernel
theorem dX4_readBuffer_30 : decode cX4_readBuffer 30 = .ok (.ireturn, 1) := by decide +kernel
theorem dX4_firstError_0 : decode cX4_firstError 0 = .ok (.aload_n 0, 1) := by decide +kernel
theorem dX4_firstError_1 : decode cX4_firstError 1 = .ok (.iconst 0, 1) := by decide +kernel
theorem dX4_firstError_2 : decode cX4_firstError 2 = .ok (.putfield 32, 3) := by decide +kernel
theorem dX4_firstError_5 : decode cX4_firstError 5 = .ok (.aload_n 0, 1) := by decide +kernel
theorem dX4_firstError_6 : decode cX4_firstError 6 = .ok (.invokevirtual 159, 3) := by decide +kernel
theorem dX4_firstError_9 : decode cX4_firstError 9 = .ok (.ireturn, 1) := by decide +kernel
theorem dX4_does_0 : decode cX4_does 0 = .ok (.iload_n 1, 1) := by decide +kernel
theorem dX4_does_1 : decode cX4_does 1 = .ok (.lookupswitch 123 #[(43, 98), (97, 43), (103, 61), (115, 79)], 43) := by decide +kernel
theorem dX4_does_44 : decode cX4_does 44 = .ok (.aload_n 0, 1) := by decide +kernel
theorem dX4_does_45 : decode cX4_does 45 = .ok (.iload_n 2, 1) := by decide +kernel
theorem dX4_does_46 : decode cX4_does 46 = .ok (.invokevirtual 119, 3) := by decide +kernel
theorem dX4_does_49 : decode cX4_does 49 = .ok (.ifCond .ne 5, 3) := by decide +kernel
theorem dX4_does_52 : decode cX4_does 52 = .ok (.iconst 0, 1) := by decide +kernel
theorem dX4_does_53 : decode cX4_does 53 = .ok (.ireturn, 1) := by decide +kernel
theorem dX4_does_54 : decode cX4_does 54 = .ok (.aload_n 0, 1) := by decide +kernel
theorem dX4_does_55 : decode cX4_does 55 = .ok (.iload_n 2, 1) := by decide +kernel
theorem dX4_does_56 : decode cX4_does 56 = .ok (.invokevirtual 125, 3) := by decide +kernel
theorem dX4_does_59 : decode cX4_does 59 = .ok (.pop, 1) := by decide +kernel
theorem dX4_does_60 : decode cX4_does 60 = .ok (.iconst 1, 1) := by decide +kernel
theorem dX4_does_61 : decode cX4_does 61 = .ok (.ireturn, 1) := by decide +kernel
theorem dX4_does_62 : decode cX4_does 62 = .ok (.aload_n 0, 1) := by decide +kernel
theorem dX4_does_63 : decode cX4_does 63 = .ok (.iload_n 2, 1) := by decide +kernel
theorem dX4_does_64 : decode cX4_does 64 = .ok (.invokevirtual 131, 3) := by decide +kernel
theorem dX4_does_67 : decode cX4_does 67 = .ok (.ifCond .ne 5, 3) := by decide +kernel
theorem dX4_does_70 : decode cX4_does 70 = .ok (.iconst 0, 1) := by decide +kernel
theorem dX4_does_71 : decode cX4_does 71 = .ok (.ireturn, 1) := by decide +kernel
theorem dX4_does_72 : decode cX4_does 72 = .ok (.aload_n 0, 1) := by decide +kernel
theorem dX4_does_73 : decode cX4_does 73 = .ok (.iload_n 2, 1) := by decide +kernel
theorem dX4_does_74 : decode cX4_does 74 = .ok (.invokevirtual 134, 3) := by decide +kernel
theorem dX4_does_77 : decode cX4_does 77 = .ok (.pop, 1) := by decide +kernel
theorem dX4_does_78 : decode cX4_does 78 = .ok (.iconst 1, 1) := by decide +kernel
theorem dX4_does_79 : decode cX4_does 79 = .ok (.ireturn, 1) := by decide +kernel
theorem dX4_does_80 : decode cX4_does 80 = .ok (.aload_n 0, 1) := by decide +kernel
theorem dX4_does_81 : decode cX4_does 81 = .ok (.iload_n 2, 1) := by decide +kernel
theorem dX4_does_82 : decode cX4_does 82 = .ok (.iconst 0, 1) := by decide +kernel
theorem dX4_does_83 : decode cX4_does 83 = .ok (.invokevirtual 50, 3) := by decide +kernel
theorem dX4_does_86 : decode cX4_does 86 = .ok (.ifCond .eq 5, 3) := by decide +kernel
theorem dX4_does_89 : decode cX4_does 89 = .ok (.iconst 0, 1) := by decide +kernel
theorem dX4_does_90 : decode cX4_does 90 = .ok (.ireturn, 1) := by decide +kernel
theorem dX4_does_91 : decode cX4_does 91 = .ok (.aload_n 0, 1) := by decide +kernel
theorem dX4_does_92 : decode cX4_does 92 = .ok (.iload_n 2, 1) := by decide +kernel
theorem dX4_does_93 : decode cX4_does 93 = .ok (.invokevirtual 141, 3) := by decide +kernel
theorem dX4_does_96 : decode cX4_does 96 = .ok (.pop, 1) := by decide +kernel
theorem dX4_does_97 : decode cX4_does 97 = .ok (.iconst 1, 1) := by decide +kernel
theorem dX4_does_98 : decode cX4_does 98 = .ok (.ireturn, 1) := by decide +kernel
theorem dX4_does_99 : decode cX4_does 99 = .ok (.aload_n 0, 1) := by decide +kernel
theorem dX4_does_100 : decode cX4_does 100 = .ok (.getfield 7, 3) := by decide +kernel
theorem dX4_does_103 : decode cX4_does 103 = .ok (.bipush 9, 2) := by decide +kernel
theorem dX4_does_105 : decode cX4_does 105 = .ok (.iaload, 1) := by decide +kernel
theorem dX4_does_106 : decode cX4_does 106 = .ok (.iload_n 2, 1) := by decide +kernel
theorem dX4_does_107 : decode cX4_does 107 = .ok (.iadd, 1) := by decide +kernel
theorem dX4_does_108 : decode cX4_does 108 = .ok (.sipush 9999, 3) := by decide +kernel
theorem dX4_does_111 : decode cX4_does 111 = .ok (.if_icmp .le 5, 3) := by decide +kernel
theorem dX4_does_114 : decode cX4_does 114 = .ok (.iconst 0, 1) := by decide +kernel
theorem dX4_does_115 : decode cX4_does 115 = .ok (.ireturn, 1) := by decide +kernel
theorem dX4_does_116 : decode cX4_does 116 = .ok (.aload_n 0, 1) := by decide +kernel
theorem dX4_does_117 : decode cX4_does 117 = .ok (.iload_n 2, 1) := by decide +kernel
theorem dX4_does_118 : decode cX4_does 118 = .ok (.invokevirtual 150, 3) := by decide +kernel
theorem dX4_does_121 : decode cX4_does 121 = .ok (.pop, 1) := by decide +kernel
theorem dX4_does_122 : decode cX4_does 122 = .ok (.iconst 1, 1) := by decide +kernel
theorem dX4_does_123 : decode cX4_does 123 = .ok (.ireturn, 1) := by decide +kernel
theorem dX4_does_124 : decode cX4_does 124 = .ok (.aload_n 0, 1) := by decide +kernel
theorem dX4_does_125 : decode cX4_does 125 = .ok (.iload_n 2, 1) := by decide +kernel
theorem dX4_does_126 : decode cX4_does 126 = .ok (.invokevirtual 101, 3) := by decide +kernel
theorem dX4_does_129 : decode cX4_does 129 = .ok (.iload_n 1, 1) := by decide +kernel
theorem dX4_does_130 : decode cX4_does 130 = .ok (.bipush 99, 2) := by decide +kernel
theorem dX4_does_132 : decode cX4_does 132 = .ok (.if_icmp .ne 7, 3) := by decide +kernel
theorem dX4_does_135 : decode cX4_does 135 = .ok (.iconst 1, 1) := by decide +kernel
theorem dX4_does_136 : decode cX4_does 136 = .ok (.goto 4, 3) := by decide +kernel
theorem dX4_does_139 : decode cX4_does 139 = .ok (.iconst 0, 1) := by decide +kernel
theorem dX4_does_140 : decode cX4_does 140 = .ok (.if_icmp .ne 5, 3) := by decide +kernel
theorem dX4_does_143 : decode cX4_does 143 = .ok (.iconst 0, 1) := by decide +kernel
theorem dX4_does_144 : decode cX4_does 144 = .ok (.ireturn, 1) := by decide +kernel
theorem dX4_does_145 : decode cX4_does 145 = .ok (.aload_n 0, 1) := by decide +kernel
theorem dX4_does_146 : decode cX4_does 146 = .ok (.iload_n 2, 1) := by decide +kernel
theorem dX4_does_147 : decode cX4_does 147 = .ok (.iload_n 1, 1) := by decide +kernel
theorem dX4_does_148 : decode cX4_does 148 = .ok (.bipush 99, 2) := by decide +kernel
theorem dX4_does_150 : decode cX4_does 150 = .ok (.if_icmp .ne 7, 3) := by decide +kernel
theorem dX4_does_153 : decode cX4_does 153 = .ok (.iconst 1, 1) := by decide +kernel
theorem dX4_does_154 : decode cX4_does 154 = .ok (.goto 4, 3) := by decide +kernel
theorem dX4_does_157 : decode cX4_does 157 = .ok (.iconst 0, 1) := by decide +kernel
theorem dX4_does_158 : decode cX4_does 158 = .ok (.invokevirtual 137, 3) := by decide +kernel
theorem dX4_does_161 : decode cX4_does 161 = .ok (.pop, 1) := by decide +kernel
theorem dX4_does_162 : decode cX4_does 162 = .ok (.iconst 1, 1) := by decide +kernel
theorem dX4_does_163 : decode cX4_does 163 = .ok (.ireturn, 1) := by decide +kernel
theorem dX4_run_0 : decode cX4_run 0 = .ok (.aload_n 0, 1) := by decide +kernel
theorem dX4_run_1 : decode cX4_run 1 = .ok (.aload_n 0, 1) := by decide +kernel
theorem dX4_run_2 : decode cX4_run 2 = .ok (.invokevirtual 159, 3) := by decide +kernel
theorem dX4_run_5 : decode cX4_run 5 = .ok (.aload_n 0, 1) := by decide +kernel
theorem dX4_run_6 : decode cX4_run 6 = .ok (.getfield 153, 3) := by decide +kernel
theorem dX4_run_9 : decode cX4_run 9 = .ok (.if_icmp .ne 23, 3) := by decide +kernel
theorem dX4_run_12 : decode cX4_run 12 = .ok (.aload_n 0, 1) := by decide +kernel
theorem dX4_run_13 : decode cX4_run 13 = .ok (.getfield 153, 3) := by decide +kernel
theorem dX4_run_16 : decode cX4_run 16 = .ok (.ifCond .le 16, 3) := by decide +kernel
theorem dX4_run_19 : decode cX4_run 19 = .ok (.aload_n 0, 1) := by decide +kernel
theorem dX4_run_20 : decode cX4_run 20 = .ok (.getfield 153, 3) := by decide +kernel
theorem dX4_run_23 : decode cX4_run 23 = .ok (.iconst 2, 1) := by decide +kernel
theorem dX4_run_24 : decode cX4_run 24 = .ok (.irem, 1) := by decide +kernel
theorem dX4_run_25 : decode cX4_run 25 = .ok (.ifCond .ne 7, 3) := by decide +kernel
theorem dX4_run_28 : decode cX4_run 28 = .ok (.iconst 0, 1) := by decide +kernel
theorem dX4_run_29 : decode cX4_run 29 = .ok (.goto 4, 3) := by decide +kernel
theorem dX4_run_32 : decode cX4_run 32 = .ok (.iconst 1, 1) := by decide +kernel
theorem dX4_run_33 : decode cX4_run 33 = .ok (.putfield 32, 3) := by decide +kernel
theorem dX4_run_36 : decode cX4_run 36 = .ok (.aload_n 0, 1) := by decide +kernel
theorem dX4_run_37 : decode cX4_run 37 = .ok (.getfield 32, 3) := by decide +kernel
theorem dX4_run_40 : decode cX4_run 40 = .ok (.ifCond .le 5, 3) := by decide +kernel
theorem dX4_run_43 : decode cX4_run 43 = .ok (.iconst 0, 1) := by decide +kernel
theorem dX4_run_44 : decode cX4_run 44 = .ok (.ireturn, 1) := by decide +kernel
theorem dX4_run_45 : decode cX4_run 45 = .ok (.aload_n 0, 1) := by decide +kernel
theorem dX4_run_46 : decode cX4_run 46 = .ok (.invokevirtual 122, 3) := by decide +kernel
theorem dX4_run_49 : decode cX4_run 49 = .ok (.iconst 0, 1) := by decide +kernel
theorem dX4_run_50 : decode cX4_run 50 = .ok (.istore_n 1, 1) := by decide +kernel
theorem dX4_run_51 : decode cX4_run 51 = .ok (.iconst 2, 1) := by decide +kernel
theorem dX4_run_52 : decode cX4_run 52 = .ok (.iload_n 1, 1) := by decide +kernel
theorem dX4_run_53 : decode cX4_run 53 = .ok (.imul, 1) := by decide +kernel
theorem dX4_run_54 : decode cX4_run 54 = .ok (.aload_n 0, 1) := by decide +kernel
theorem dX4_run_55 : decode cX4_run 55 = .ok (.getfield 153, 3) := by decide +kernel
theorem dX4_run_58 : decode cX4_run 58 = .ok (.if_icmp .ge 37, 3) := by decide +kernel
theorem dX4_run_61 : decode cX4_run 61 = .ok (.aload_n 0, 1) := by decide +kernel
theorem dX4_run_62 : decode cX4_run 62 = .ok (.aload_n 0, 1) := by decide +kernel
theorem dX4_run_63 : decode cX4_run 63 = .ok (.getfield 19, 3) := by decide +kernel
theorem dX4_run_66 : decode cX4_run 66 = .ok (.iconst 2, 1) := by decide +kernel
theorem dX4_run_67 : decode cX4_run 67 = .ok (.iload_n 1, 1) := by decide +kernel
theorem dX4_run_68 : decode cX4_run 68 = .ok (.imul, 1) := by decide +kernel
theorem dX4_run_69 : decode cX4_run 69 = .ok (.iaload, 1) := by decide +kernel
theorem dX4_run_70 : decode cX4_run 70 = .ok (.aload_n 0, 1) := by decide +kernel
theorem dX4_run_71 : decode cX4_run 71 = .ok (.getfield 19, 3) := by decide +kernel
theorem dX4_run_74 : decode cX4_run 74 = .ok (.iconst 2, 1) := by decide +kernel
theorem dX4_run_75 : decode cX4_run 75 = .ok (.iload_n 1, 1) := by decide +kernel
theorem dX4_run_76 : decode cX4_run 76 = .ok (.imul, 1) := by decide +kernel
theorem dX4_run_77 : decode cX4_run 77 = .ok (.iconst 1, 1) := by decide +kernel
theorem dX4_run_78 : decode cX4_run 78 = .ok (.iadd, 1) := by decide +kernel
theorem dX4_run_79 : decode cX4_run 79 = .ok (.iaload, 1) := by decide +kernel
theorem dX4_run_80 : decode cX4_run 80 = .ok (.bipush 48, 2) := by decide +kernel
theorem dX4_run_82 : decode cX4_run 82 = .ok (.isub, 1) := by decide +kernel
theorem dX4_run_83 : decode cX4_run 83 = .ok (.invokevirtual 162, 3) := by decide +kernel
theorem dX4_run_86 : decode cX4_run 86 = .ok (.ifCond .eq 9, 3) := by decide +kernel
theorem dX4_run_89 : decode cX4_run 89 = .ok (.iinc 1 1, 3) := by decide +kernel
theorem dX4_run_92 : decode cX4_run 92 = .ok (.goto (-41), 3) := by decide +kernel
theorem dX4_run_95 : decode cX4_run 95 = .ok (.aload_n 0, 1) := by decide +kernel
theorem dX4_run_96 : decode cX4_run 96 = .ok (.iconst 0, 1) := by decide +kernel
theorem dX4_run_97 : decode cX4_run 97 = .ok (.putfield 153, 3) := by decide +kernel
theorem dX4_run_100 : decode cX4_run 100 = .ok (.iload_n 1, 1) := by decide +kernel
theorem dX4_run_101 : decode cX4_run 101 = .ok (.ireturn, 1) := by decide +kernel
theorem dX4_toldPlace_0 : decode cX4_toldPlace 0 = .ok (.iload_n 2, 1) := by decide +kernel
theorem dX4_toldPlace_1 : decode cX4_toldPlace 1 = .ok (.iconst 4, 1) := by decide +kernel
theorem dX4_toldPlace_2 : decode cX4_toldPlace 2 = .ok (.if_icmp .ne 29, 3) := by decide +kernel
theorem dX4_toldPlace_5 : decode cX4_toldPlace 5 = .ok (.aload_n 0, 1) := by decide +kernel
theorem dX4_toldPlace_6 : decode cX4_toldPlace 6 = .ok (.iload_n 1, 1) := by decide +kernel
theorem dX4_toldPlace_7 : decode cX4_toldPlace 7 = .ok (.iconst 0, 1) := by decide +kernel
theorem dX4_toldPlace_8 : decode cX4_toldPlace 8 = .ok (.invokevirtual 50, 3) := by decide +kernel
theorem dX4_toldPlace_11 : decode cX4_toldPlace 11 = .ok (.ifCond .ne 20, 3) := by decide +kernel
theorem dX4_toldPlace_14 : decode cX4_toldPlace 14 = .ok (.aload_n 0, 1) := by decide +kernel
theorem dX4_toldPlace_15 : decode cX4_toldPlace 15 = .ok (.getfield 7, 3) := by decide +kernel
theorem dX4_toldPlace_18 : decode cX4_toldPlace 18 = .ok (.bipush 9, 2) := by decide +kernel
theorem dX4_toldPlace_20 : decode cX4_toldPlace 20 = .ok (.iaload, 1) := by decide +kernel
theorem dX4_toldPlace_21 : decode cX4_toldPlace 21 = .ok (.aload_n 0, 1) := by decide +kernel
theorem dX4_toldPlace_22 : decode cX4_toldPlace 22 = .ok (.iload_n 1, 1) := by decide +kernel
theorem dX4_toldPlace_23 : decode cX4_toldPlace 23 = .ok (.iconst 4, 1) := by decide +kernel
theorem dX4_toldPlace_24 : decode cX4_toldPlace 24 = .ok (.invokevirtual 40, 3) := by decide +kernel
theorem dX4_toldPlace_27 : decode cX4_toldPlace 27 = .ok (.isub, 1) := by decide +kernel
theorem dX4_toldPlace_28 : decode cX4_toldPlace 28 = .ok (.goto 9, 3) := by decide +kernel
theorem dX4_toldPlace_31 : decode cX4_toldPlace 31 = .ok (.aload_n 0, 1) := by decide +kernel
theorem dX4_toldPlace_32 : decode cX4_toldPlace 32 = .ok (.iload_n 1, 1) := by decide +kernel
theorem dX4_toldPlace_33 : decode cX4_toldPlace 33 = .ok (.iload_n 2, 1) := by decide +kernel
theorem dX4_toldPlace_34 : decode cX4_toldPlace 34 = .ok (.invokevirtual 40, 3) := by decide +kernel
theorem dX4_toldPlace_37 : decode cX4_toldPlace 37 = .ok (.ireturn, 1) := by decide +kernel
theorem dX4_place_0 : decode cX4_place 0 = .ok (.aload_n 0, 1) := by decide +kernel
theorem dX4_place_1 : decode cX4_place 1 = .ok (.iload_n 1, 1) := by decide +kernel
theorem dX4_place_2 : decode cX4_place 2 = .ok (.invokestatic 128, 3) := by decide +kernel
theorem dX4_place_5 : decode cX4_place 5 = .ok (.ifCond .ne 7, 3) := by decide +kernel
theorem dX4_place_8 : decode cX4_place 8 = .ok (.iconst 1, 1) := by decide +kernel
theorem dX4_place_9 : decode cX4_place 9 = .ok (.goto 17, 3) := by decide +kernel
theorem dX4_place_12 : decode cX4_place 12 = .ok (.iload_n 2, 1) := by decide +kernel
theorem dX4_place_13 : decode cX4_place 13 = .ok (.iconst 0, 1) := by decide +kernel
theorem dX4_place_14 : decode cX4_place 14 = .ok (.iconst 5, 1) := by decide +kernel
theorem dX4_place_15 : decode cX4_place 15 = .ok (.invokestatic 36, 3) := by decide +kernel
theorem dX4_place_18 : decode cX4_place 18 = .ok (.ifCond .eq 7, 3) := by decide +kernel
theorem dX4_place_21 : decode cX4_place 21 = .ok (.iconst 0, 1) := by decide +kernel
theorem dX4_place_22 : decode cX4_place 22 = .ok (.goto 4, 3) := by decide +kernel
theorem dX4_place_25 : decode cX4_place 25 = .ok (.iconst 2, 1) := by decide +kernel
theorem dX4_place_26 : decode cX4_place 26 = .ok (.putfield 32, 3) := by decide +kernel
theorem dX4_place_29 : decode cX4_place 29 = .ok (.aload_n 0, 1) := by decide +kernel
theorem dX4_place_30 : decode cX4_place 30 = .ok (.getfield 32, 3) := by decide +kernel
theorem dX4_place_33 : decode cX4_place 33 = .ok (.ifCond .le 7, 3) := by decide +kernel
theorem dX4_place_36 : decode cX4_place 36 = .ok (.iconst 0, 1) := by decide +kernel
theorem dX4_place_37 : decode cX4_place 37 = .ok (.goto 9, 3) := by decide +kernel
theorem dX4_place_40 : decode cX4_place 40 = .ok (.aload_n 0, 1) := by decide +kernel
theorem dX4_place_41 : decode cX4_place 41 = .ok (.iload_n 1, 1) := by decide +kernel
theorem dX4_place_42 : decode cX4_place 42 = .ok (.iload_n 2, 1) := by decide +kernel
theorem dX4_place_43 : decode cX4_place 43 = .ok (.invokevirtual 165, 3) := by decide +kernel
theorem dX4_place_46 : decode cX4_place 46 = .ok (.ireturn, 1) := by decide +kernel
theorem dX4_toldOwner_0 : decode cX4_toldOwner 0 = .ok (.iload_n 2, 1) := by decide +kernel
theorem dX4_toldOwner_1 : decode cX4_toldOwner 1 = .ok (.tableswitch 68 0 3 #[31, 38, 44, 50], 31) := by decide +kernel
theorem dX4_toldOwner_32 : decode cX4_toldOwner 32 = .ok (.aload_n 0, 1) := by decide +kernel
theorem dX4_toldOwner_33 : decode cX4_toldOwner 33 = .ok (.iload_n 1, 1) := by decide +kernel
theorem dX4_toldOwner_34 : decode cX4_toldOwner 34 = .ok (.iconst 0, 1) := by decide +kernel
theorem dX4_toldOwner_35 : decode cX4_toldOwner 35 = .ok (.invokevirtual 44, 3) := by decide +kernel
theorem dX4_toldOwner_38 : decode cX4_toldOwner 38 = .ok (.ireturn, 1) := by decide +kernel
theorem dX4_toldOwner_39 : decode cX4_toldOwner 39 = .ok (.aload_n 0, 1) := by decide +kernel
theorem dX4_toldOwner_40 : decode cX4_toldOwner 40 = .ok (.iload_n 1, 1) := by decide +kernel
theorem dX4_toldOwner_41 : decode cX4_toldOwner 41 = .ok (.invokevirtual 58, 3) := by decide +kernel
theorem dX4_toldOwner_44 : decode cX4_toldOwner 44 = .ok (.ireturn, 1) := by decide +kernel
theorem dX4_toldOwner_45 : decode cX4_toldOwner 45 = .ok (.aload_n 0, 1) := by decide +kernel
theorem dX4_toldOwner_46 : decode cX4_toldOwner 46 = .ok (.iload_n 1, 1) := by decide +kernel
theorem dX4_toldOwner_47 : decode cX4_toldOwner 47 = .ok (.invokevirtual 75, 3) := by decide +kernel
theorem dX4_toldOwner_50 : decode cX4_toldOwner 50 = .ok (.ireturn, 1) := by decide +kernel
theorem dX4_toldOwner_51 : decode cX4_toldOwner 51 = .ok (.aload_n 0, 1) := by decide +kernel
theorem dX4_toldOwner_52 : decode cX4_toldOwner 52 = .ok (.iload_n 1, 1) := by decide +kernel
theorem dX4_toldOwner_53 : decode cX4_toldOwner 53 = .ok (.invokevirtual 104, 3) := by decide +kernel
theorem dX4_toldOwner_56 : decode cX4_toldOwner 56 = .ok (.ifCond .eq 11, 3) := by decide +kernel
theorem dX4_toldOwner_59 : decode cX4_toldOwner 59 = .ok (.aload_n 0, 1) := by decide +kernel
theorem dX4_toldOwner_60 : decode cX4_toldOwner 60 = .ok (.iload_n 1, 1) := by decide +kernel
theorem dX4_toldOwner_61 : decode cX4_toldOwner 61 = .ok (.invokevirtual 88, 3) := by decide +kernel
theorem dX4_toldOwner_64 : decode cX4_toldOwner 64 = .ok (.goto 4, 3) := by decide +kernel
theorem dX4_toldOwner_67 : decode cX4_toldOwner 67 = .ok (.iconst 0, 1) := by decide +kernel
theorem dX4_toldOwner_68 : decode cX4_toldOwner 68 = .ok (.ireturn, 1) := by decide +kernel
theorem dX4_toldOwner_69 : decode cX4_toldOwner 69 = .ok (.aload_n 0, 1) := by decide +kernel
theorem dX4_toldOwner_70 : decode cX4_toldOwner 70 = .ok (.iload_n 1, 1) := by decide +kernel
theorem dX4_toldOwner_71 : decode cX4_toldOwner 71 = .ok (.iload_n 2, 1) := by decide +kernel
theorem dX4_toldOwner_72 : decode cX4_toldOwner 72 = .ok (.iconst 2, 1) := by decide +kernel
theorem dX4_toldOwner_73 : decode cX4_toldOwner 73 = .ok (.isub, 1) := by decide +kernel
theorem dX4_toldOwner_74 : decode cX4_toldOwner 74 = .ok (.invokevirtual 44, 3) := by decide +kernel
theorem dX4_toldOwner_77 : decode cX4_toldOwner 77 = .ok (.ireturn, 1) := by decide +kernel
theorem dX4_owner_0 : decode cX4_owner 0 = .ok (.aload_n 0, 1) := by decide +kernel
theorem dX4_owner_1 : decode cX4_owner 1 = .ok (.iload_n 1, 1) := by decide +kernel
theorem dX4_owner_2 : decode cX4_owner 2 = .ok (.invokestatic 116, 3) := by decide +kernel
theorem dX4_owner_5 : decode cX4_owner 5 = .ok (.ifCond .ne 7, 3) := by decide +kernel
theorem dX4_owner_8 : decode cX4_owner 8 = .ok (.iconst 1, 1) := by decide +kernel
theorem dX4_owner_9 : decode cX4_owner 9 = .ok (.goto 18, 3) := by decide +kernel
theorem dX4_owner_12 : decode cX4_owner 12 = .ok (.iload_n 2, 1) := by decide +kernel
theorem dX4_owner_13 : decode cX4_owner 13 = .ok (.iconst 0, 1) := by decide +kernel
theorem dX4_owner_14 : decode cX4_owner 14 = .ok (.bipush 6, 2) := by decide +kernel
theorem dX4_owner_16 : decode cX4_owner 16 = .ok (.invokestatic 36, 3) := by decide +kernel
theorem dX4_owner_19 : decode cX4_owner 19 = .ok (.ifCond .eq 7, 3) := by decide +kernel
theorem dX4_owner_22 : decode cX4_owner 22 = .ok (.iconst 0, 1) := by decide +kernel
theorem dX4_owner_23 : decode cX4_owner 23 = .ok (.goto 4, 3) := by decide +kernel
theorem dX4_owner_26 : decode cX4_owner 26 = .ok (.iconst 2, 1) := by decide +kernel
theorem dX4_owner_27 : decode cX4_owner 27 = .ok (.putfield 32, 3) := by decide +kernel
theorem dX4_owner_30 : decode cX4_owner 30 = .ok (.aload_n 0, 1) := by decide +kernel
theorem dX4_owner_31 : decode cX4_owner 31 = .ok (.getfield 32, 3) := by decide +kernel
theorem dX4_owner_34 : decode cX4_owner 34 = .ok (.ifCond .le 7, 3) := by decide +kernel
theorem dX4_owner_37 : decode cX4_owner 37 = .ok (.iconst 0, 1) := by decide +kernel
theorem dX4_owner_38 : decode cX4_owner 38 = .ok (.goto 9, 3) := by decide +kernel
theorem dX4_owner_41 : decode cX4_owner 41 = .ok (.aload_n 0, 1) := by decide +kernel
theorem dX4_owner_42 : decode cX4_owner 42 = .ok (.iload_n 1, 1) := by decide +kernel
theorem dX4_owner_43 : decode cX4_owner 43 = .ok (.iload_n 2, 1) := by decide +kernel
theorem dX4_owner_44 : decode cX4_owner 44 = .ok (.invokevirtual 168, 3) := by decide +kernel
theorem dX4_owner_47 : decode cX4_owner 47 = .ok (.ireturn, 1) := by decide +kernel
theorem dX4_sick_0 : decode cX4_sick 0 = .ok (.iconst 0, 1) := by decide +kernel
theorem dX4_sick_1 : decode cX4_sick 1 = .ok (.istore_n 1, 1) := by decide +kernel
theorem dX4_sick_2 : decode cX4_sick 2 = .ok (.iconst 0, 1) := by decide +kernel
theorem dX4_sick_3 : decode cX4_sick 3 = .ok (.istore_n 2, 1) := by decide +kernel
theorem dX4_sick_4 : decode cX4_sick 4 = .ok (.iload_n 2, 1) := by decide +kernel
theorem dX4_sick_5 : decode cX4_sick 5 = .ok (.bipush 8, 2) := by decide +kernel
theorem dX4_sick_7 : decode cX4_sick 7 = .ok (.if_icmp .ge 18, 3) := by decide +kernel
theorem dX4_sick_10 : decode cX4_sick 10 = .ok (.iload_n 1, 1) := by decide +kernel
theorem dX4_sick_11 : decode cX4_sick 11 = .ok (.aload_n 0, 1) := by decide +kernel
theorem dX4_sick_12 : decode cX4_sick 12 = .ok (.iload_n 2, 1) := by decide +kernel
theorem dX4_sick_13 : decode cX4_sick 13 = .ok (.iconst 2, 1) := by decide +kernel
theorem dX4_sick_14 : decode cX4_sick 14 = .ok (.invokevirtual 40, 3) := by decide +kernel
theorem dX4_sick_17 : decode cX4_sick 17 = .ok (.iadd, 1) := by decide +kernel
theorem dX4_sick_18 : decode cX4_sick 18 = .ok (.istore_n 1, 1) := by decide +kernel
theorem dX4_sick_19 : decode cX4_sick 19 = .ok (.iinc 2 1, 3) := by decide +kernel
theorem dX4_sick_22 : decode cX4_sick 22 = .ok (.goto (-18), 3) := by decide +kernel
theorem dX4_sick_25 : decode cX4_sick 25 = .ok (.iload_n 1, 1) := by decide +kernel
theorem dX4_sick_26 : decode cX4_sick 26 = .ok (.ireturn, 1) := by decide +kernel
theorem dX4_counted_0 : decode cX4_counted 0 = .ok (.iload_n 1, 1) := by decide +kernel
theorem dX4_counted_1 : decode cX4_counted 1 = .ok (.tableswitch 114 0 13 #[71, 79, 84, 90, 96, 101, 114, 114, 114, 114, 114, 114, 114, 109], 71) := by decide +kernel
theorem dX4_counted_72 : decode cX4_counted 72 = .ok (.aload_n 0, 1) := by decide +kernel
theorem dX4_counted_73 : decode cX4_counted 73 = .ok (.getfield 7, 3) := by decide +kernel
theorem dX4_counted_76 : decode cX4_counted 76 = .ok (.bipush 9, 2) := by decide +kernel
theorem dX4_counted_78 : decode cX4_counted 78 = .ok (.iaload, 1) := by decide +kernel
theorem dX4_counted_79 : decode cX4_counted 79 = .ok (.ireturn, 1) := by decide +kernel
theorem dX4_counted_80 : decode cX4_counted 80 = .ok (.aload_n 0, 1) := by decide +kernel
theorem dX4_counted_81 : decode cX4_counted 81 = .ok (.invokevirtual 69, 3) := by decide +kernel
theorem dX4_counted_84 : decode cX4_counted 84 = .ok (.ireturn, 1) := by decide +kernel
theorem dX4_counted_85 : decode cX4_counted 85 = .ok (.aload_n 0, 1) := by decide +kernel
theorem dX4_counted_86 : decode cX4_counted 86 = .ok (.iconst 1, 1) := by decide +kernel
theorem dX4_counted_87 : decode cX4_counted 87 = .ok (.invokevirtual 54, 3) := by decide +kernel
theorem dX4_counted_90 : decode cX4_counted 90 = .ok (.ireturn, 1) := by decide +kernel
theorem dX4_counted_91 : decode cX4_counted 91 = .ok (.aload_n 0, 1) := by decide +kernel
theorem dX4_counted_92 : decode cX4_counted 92 = .ok (.iconst 2, 1) := by decide +kernel
theorem dX4_counted_93 : decode cX4_counted 93 = .ok (.invokevirtual 54, 3) := by decide +kernel
theorem dX4_counted_96 : decode cX4_counted 96 = .ok (.ireturn, 1) := by decide +kernel
theorem dX4_counted_97 : decode cX4_counted 97 = .ok (.aload_n 0, 1) := by decide +kernel
theorem dX4_counted_98 : decode cX4_counted 98 = .ok (.invokevirtual 171, 3) := by decide +kernel
theorem dX4_counted_101 : decode cX4_counted 101 = .ok (.ireturn, 1) := by decide +kernel
theorem dX4_counted_102 : decode cX4_counted 102 = .ok (.aload_n 0, 1) := by decide +kernel
theorem dX4_counted_103 : decode cX4_counted 103 = .ok (.getfield 7, 3) := by decide +kernel
theorem dX4_counted_106 : decode cX4_counted 106 = .ok (.bipush 17, 2) := by decide +kernel
theorem dX4_counted_108 : decode cX4_counted 108 = .ok (.iaload, 1) := by decide +kernel
theorem dX4_counted_109 : decode cX4_counted 109 = .ok (.ireturn, 1) := by decide +kernel
theorem dX4_counted_110 : decode cX4_counted 110 = .ok (.aload_n 0, 1) := by decide +kernel
theorem dX4_counted_111 : decode cX4_counted 111 = .ok (.getfield 47, 3) := by decide +kernel
theorem dX4_counted_114 : decode cX4_counted 114 = .ok (.ireturn, 1) := by decide +kernel
theorem dX4_counted_115 : decode cX4_counted 115 = .ok (.aload_n 0, 1) := by decide +kernel
theorem dX4_counted_116 : decode cX4_counted 116 = .ok (.getfield 7, 3) := by decide +kernel
theorem dX4_counted_119 : decode cX4_counted 119 = .ok (.bipush 10, 2) := by decide +kernel
theorem dX4_counted_121 : decode cX4_counted 121 = .ok (.iload_n 1, 1) := by decide +kernel
theorem dX4_counted_122 : decode cX4_counted 122 = .ok (.iadd, 1) := by decide +kernel
theorem dX4_counted_123 : decode cX4_counted 123 = .ok (.bipush 6, 2) := by decide +kernel
theorem dX4_counted_125 : decode cX4_counted 125 = .ok (.isub, 1) := by decide +kernel
theorem dX4_counted_126 : decode cX4_counted 126 = .ok (.iaload, 1) := by decide +kernel
theorem dX4_counted_127 : decode cX4_counted 127 = .ok (.ireturn, 1) := by decide +kernel
theorem dX4_count_0 : decode cX4_count 0 = .ok (.aload_n 0, 1) := by decide +kernel
theorem dX4_count_1 : decode cX4_count 1 = .ok (.iload_n 1, 1) := by decide +kernel
theorem dX4_count_2 : decode cX4_count 2 = .ok (.iconst 0, 1) := by decide +kernel
theorem dX4_count_3 : decode cX4_count 3 = .ok (.bipush 13, 2) := by decide +kernel
theorem dX4_count_5 : decode cX4_count 5 = .ok (.invokestatic 36, 3) := by decide +kernel
theorem dX4_count_8 : decode cX4_count 8 = .ok (.ifCond .eq 7, 3) := by decide +kernel
theorem dX4_count_11 : decode cX4_count 11 = .ok (.iconst 0, 1) := by decide +kernel
theorem dX4_count_12 : decode cX4_count 12 = .ok (.goto 4, 3) := by decide +kernel
theorem dX4_count_15 : decode cX4_count 15 = .ok (.iconst 1, 1) := by decide +kernel
theorem dX4_count_16 : decode cX4_count 16 = .ok (.putfield 32, 3) := by decide +kernel
theorem dX4_count_19 : decode cX4_count 19 = .ok (.aload_n 0, 1) := by decide +kernel
theorem dX4_count_20 : decode cX4_count 20 = .ok (.getfield 32, 3) := by decide +kernel
theorem dX4_count_23 : decode cX4_count 23 = .ok (.ifCond .le 7, 3) := by decide +kernel
theorem dX4_count_26 : decode cX4_count 26 = .ok (.iconst 0, 1) := by decide +kernel
theorem dX4_count_27 : decode cX4_count 27 = .ok (.goto 8, 3) := by decide +kernel
theorem dX4_count_30 : decode cX4_count 30 = .ok (.aload_n 0, 1) := by decide +kernel
theorem dX4_count_31 : decode cX4_count 31 = .ok (.iload_n 1, 1) := by decide +kernel
theorem dX4_count_32 : decode cX4_count 32 = .ok (.invokevirtual 174, 3) := by decide +kernel
theorem dX4_count_35 : decode cX4_count 35 = .ok (.ireturn, 1) := by decide +kernel
theorem dX4_setting_0 : decode cX4_setting 0 = .ok (.aload_n 0, 1) := by decide +kernel
theorem dX4_setting_1 : decode cX4_setting 1 = .ok (.iload_n 1, 1) := by decide +kernel
theorem dX4_setting_2 : decode cX4_setting 2 = .ok (.iconst 0, 1) := by decide +kernel
theorem dX4_setting_3 : decode cX4_setting 3 = .ok (.bipush 8, 2) := by decide +kernel
theorem dX4_setting_5 : decode cX4_setting 5 = .ok (.invokestatic 36, 3) := by decide +kernel
theorem dX4_setting_8 : decode cX4_setting 8 = .ok (.ifCond .eq 7, 3) := by decide +kernel
theorem dX4_setting_11 : decode cX4_setting 11 = .ok (.iconst 0, 1) := by decide +kernel
theorem dX4_setting_12 : decode cX4_setting 12 = .ok (.goto 4, 3) := by decide +kernel
theorem dX4_setting_15 : decode cX4_setting 15 = .ok (.iconst 1, 1) := by decide +kernel
theorem dX4_setting_16 : decode cX4_setting 16 = .ok (.putfield 32, 3) := by decide +kernel
theorem dX4_setting_19 : decode cX4_setting 19 = .ok (.aload_n 0, 1) := by decide +kernel
theorem dX4_setting_20 : decode cX4_setting 20 = .ok (.getfield 32, 3) := by decide +kernel
theorem dX4_setting_23 : decode cX4_setting 23 = .ok (.ifCond .le 7, 3) := by decide +kernel
theorem dX4_setting_26 : decode cX4_setting 26 = .ok (.iconst 0, 1) := by decide +kernel
theorem dX4_setting_27 : decode cX4_setting 27 = .ok (.goto 9, 3) := by decide +kernel
theorem dX4_setting_30 : decode cX4_setting 30 = .ok (.aload_n 0, 1) := by decide +kernel
theorem dX4_setting_31 : decode cX4_setting 31 = .ok (.getfield 7, 3) := by decide +kernel
theorem dX4_setting_34 : decode cX4_setting 34 = .ok (.iload_n 1, 1) := by decide +kernel
theorem dX4_setting_35 : decode cX4_setting 35 = .ok (.iaload, 1) := by decide +kernel
theorem dX4_setting_36 : decode cX4_setting 36 = .ok (.ireturn, 1) := by decide +kernel
theorem dX4_wouldGet_0 : decode cX4_wouldGet 0 = .ok (.aload_n 0, 1) := by decide +kernel
theorem dX4_wouldGet_1 : decode cX4_wouldGet 1 = .ok (.iload_n 1, 1) := by decide +kernel
theorem dX4_wouldGet_2 : decode cX4_wouldGet 2 = .ok (.invokevirtual 119, 3) := by decide +kernel
theorem dX4_wouldGet_5 : decode cX4_wouldGet 5 = .ok (.ifCond .ne 13, 3) := by decide +kernel
theorem dX4_wouldGet_8 : decode cX4_wouldGet 8 = .ok (.iload_n 2, 1) := by decide +kernel
theorem dX4_wouldGet_9 : decode cX4_wouldGet 9 = .ok (.ifCond .ne 7, 3) := by decide +kernel
theorem dX4_wouldGet_12 : decode cX4_wouldGet 12 = .ok (.iconst (-1), 1) := by decide +kernel
theorem dX4_wouldGet_13 : decode cX4_wouldGet 13 = .ok (.goto 4, 3) := by decide +kernel
theorem dX4_wouldGet_16 : decode cX4_wouldGet 16 = .ok (.iconst 0, 1) := by decide +kernel
theorem dX4_wouldGet_17 : decode cX4_wouldGet 17 = .ok (.ireturn, 1) := by decide +kernel
theorem dX4_wouldGet_18 : decode cX4_wouldGet 18 = .ok (.aload_n 0, 1) := by decide +kernel
theorem dX4_wouldGet_19 : decode cX4_wouldGet 19 = .ok (.invokevirtual 177, 3) := by decide +kernel
theorem dX4_wouldGet_22 : decode cX4_wouldGet 22 = .ok (.aload_n 0, 1) := by decide +kernel
theorem dX4_wouldGet_23 : decode cX4_wouldGet 23 = .ok (.getfield 7, 3) := by decide +kernel
theorem dX4_wouldGet_26 : decode cX4_wouldGet 26 = .ok (.bipush 11, 2) := by decide +kernel
theorem dX4_wouldGet_28 : decode cX4_wouldGet 28 = .ok (.iaload, 1) := by decide +kernel
theorem dX4_wouldGet_29 : decode cX4_wouldGet 29 = .ok (.istore_n 3, 1) := by decide +kernel
theorem dX4_wouldGet_30 : decode cX4_wouldGet 30 = .ok (.aload_n 0, 1) := by decide +kernel
theorem dX4_wouldGet_31 : decode cX4_wouldGet 31 = .ok (.iload_n 1, 1) := by decide +kernel
theorem dX4_wouldGet_32 : decode cX4_wouldGet 32 = .ok (.invokevirtual 125, 3) := by decide +kernel
theorem dX4_wouldGet_35 : decode cX4_wouldGet 35 = .ok (.istore 4, 2) := by decide +kernel
theorem dX4_wouldGet_37 : decode cX4_wouldGet 37 = .ok (.iload 4, 2) := by decide +kernel
theorem dX4_wouldGet_39 : decode cX4_wouldGet 39 = .ok (.istore 5, 2) := by decide +kernel
theorem dX4_wouldGet_41 : decode cX4_wouldGet 41 = .ok (.iload_n 2, 1) := by decide +kernel
theorem dX4_wouldGet_42 : decode cX4_wouldGet 42 = .ok (.iconst 1, 1) := by decide +kernel
theorem dX4_wouldGet_43 : decode cX4_wouldGet 43 = .ok (.if_icmp .ne 44, 3) := by decide +kernel
theorem dX4_wouldGet_46 : decode cX4_wouldGet 46 = .ok (.iload 4, 2) := by decide +kernel
theorem dX4_wouldGet_48 : decode cX4_wouldGet 48 = .ok (.iconst (-1), 1) := by decide +kernel
theorem dX4_wouldGet_49 : decode cX4_wouldGet 49 = .ok (.if_icmp .eq 32, 3) := by decide +kernel
theorem dX4_wouldGet_52 : decode cX4_wouldGet 52 = .ok (.aload_n 0, 1) := by decide +kernel
theorem dX4_wouldGet_53 : decode cX4_wouldGet 53 = .ok (.iload 4, 2) := by decide +kernel
theorem dX4_wouldGet_55 : decode cX4_wouldGet 55 = .ok (.iconst 5, 1) := by decide +kernel
theorem dX4_wouldGet_56 : decode cX4_wouldGet 56 = .ok (.invokevirtual 40, 3) := by decide +kernel
theorem dX4_wouldGet_59 : decode cX4_wouldGet 59 = .ok (.aload_n 0, 1) := by decide +kernel
theorem dX4_wouldGet_60 : decode cX4_wouldGet 60 = .ok (.getfield 16, 3) := by decide +kernel
theorem dX4_wouldGet_63 : decode cX4_wouldGet 63 = .ok (.bipush 26, 2) := by decide +kernel
theorem dX4_wouldGet_65 : decode cX4_wouldGet 65 = .ok (.bipush 6, 2) := by decide +kernel
theorem dX4_wouldGet_67 : decode cX4_wouldGet 67 = .ok (.iload 4, 2) := by decide +kernel
theorem dX4_wouldGet_69 : decode cX4_wouldGet 69 = .ok (.imul, 1) := by decide +kernel
theorem dX4_wouldGet_70 : decode cX4_wouldGet 70 = .ok (.iadd, 1) := by decide +kernel
theorem dX4_wouldGet_71 : decode cX4_wouldGet 71 = .ok (.iconst 5, 1) := by decide +kernel
theorem dX4_wouldGet_72 : decode cX4_wouldGet 72 = .ok (.iadd, 1) := by decide +kernel
theorem dX4_wouldGet_73 : decode cX4_wouldGet 73 = .ok (.iaload, 1) := by decide +kernel
theorem dX4_wouldGet_74 : decode cX4_wouldGet 74 = .ok (.if_icmp .le 7, 3) := by decide +kernel
theorem dX4_wouldGet_77 : decode cX4_wouldGet 77 = .ok (.iconst 1, 1) := by decide +kernel
theorem dX4_wouldGet_78 : decode cX4_wouldGet 78 = .ok (.goto 4, 3) := by decide +kernel
theorem dX4_wouldGet_81 : decode cX4_wouldGet 81 = .ok (.iconst 0, 1) := by decide +kernel
theorem dX4_wouldGet_82 : decode cX4_wouldGet 82 = .ok (.istore 5, 2) := by decide +kernel
theorem dX4_wouldGet_84 : decode cX4_wouldGet 84 = .ok (.goto 19, 3) := by decide +kernel
theorem dX4_wouldGet_87 : decode cX4_wouldGet 87 = .ok (.iload_n 2, 1) := by decide +kernel
theorem dX4_wouldGet_88 : decode cX4_wouldGet 88 = .ok (.iconst 2, 1) := by decide +kernel
theorem dX4_wouldGet_89 : decode cX4_wouldGet 89 = .ok (.if_icmp .ne 14, 3) := by decide +kernel
theorem dX4_wouldGet_92 : decode cX4_wouldGet 92 = .ok (.aload_n 0, 1) := by decide +kernel
theorem dX4_wouldGet_93 : decode cX4_wouldGet 93 = .ok (.getfield 7, 3) := by decide +kernel
theorem dX4_wouldGet_96 : decode cX4_wouldGet 96 = .ok (.bipush 11, 2) := by decide +kernel
theorem dX4_wouldGet_98 : decode cX4_wouldGet 98 = .ok (.iaload, 1) := by decide +kernel
theorem dX4_wouldGet_99 : decode cX4_wouldGet 99 = .ok (.iload_n 3, 1) := by decide +kernel
theorem dX4_wouldGet_100 : decode cX4_wouldGet 100 = .ok (.isub, 1) := by decide +kernel
theorem dX4_wouldGet_101 : decode cX4_wouldGet 101 = .ok (.istore 5, 2) := by decide +kernel
theorem dX4_wouldGet_103 : decode cX4_wouldGet 103 = .ok (.aload_n 0, 1) := by decide +kernel
theorem dX4_wouldGet_104 : decode cX4_wouldGet 104 = .ok (.invokevirtual 180, 3) := by decide +kernel
theorem dX4_wouldGet_107 : decode cX4_wouldGet 107 = .ok (.iload 5, 2) := by decide +kernel
theorem dX4_wouldGet_109 : decode cX4_wouldGet 109 = .ok (.ireturn, 1) := by decide +kernel
theorem dX4_ifAsked_0 : decode cX4_ifAsked 0 = .ok (.aload_n 0, 1) := by decide +kernel
theorem dX4_ifAsked_1 : decode cX4_ifAsked 1 = .ok (.iload_n 1, 1) := by decide +kernel
theorem dX4_ifAsked_2 : decode cX4_ifAsked 2 = .ok (.invokestatic 116, 3) := by decide +kernel
theorem dX4_ifAsked_5 : decode cX4_ifAsked 5 = .ok (.ifCond .ne 7, 3) := by decide +kernel
theorem dX4_ifAsked_8 : decode cX4_ifAsked 8 = .ok (.iconst 1, 1) := by decide +kernel
theorem dX4_ifAsked_9 : decode cX4_ifAsked 9 = .ok (.goto 17, 3) := by decide +kernel
theorem dX4_ifAsked_12 : decode cX4_ifAsked 12 = .ok (.iload_n 2, 1) := by decide +kernel
theorem dX4_ifAsked_13 : decode cX4_ifAsked 13 = .ok (.iconst 0, 1) := by decide +kernel
theorem dX4_ifAsked_14 : decode cX4_ifAsked 14 = .ok (.iconst 2, 1) := by decide +kernel
theorem dX4_ifAsked_15 : decode cX4_ifAsked 15 = .ok (.invokestatic 36, 3) := by decide +kernel
theorem dX4_ifAsked_18 : decode cX4_ifAsked 18 = .ok (.ifCond .eq 7, 3) := by decide +kernel
theorem dX4_ifAsked_21 : decode cX4_ifAsked 21 = .ok (.iconst 0, 1) := by decide +kernel
theorem dX4_ifAsked_22 : decode cX4_ifAsked 22 = .ok (.goto 4, 3) := by decide +kernel
theorem dX4_ifAsked_25 : decode cX4_ifAsked 25 = .ok (.iconst 2, 1) := by decide +kernel
theorem dX4_ifAsked_26 : decode cX4_ifAsked 26 = .ok (.putfield 32, 3) := by decide +kernel
theorem dX4_ifAsked_29 : decode cX4_ifAsked 29 = .ok (.aload_n 0, 1) := by decide +kernel
theorem dX4_ifAsked_30 : decode cX4_ifAsked 30 = .ok (.getfield 32, 3) := by decide +kernel
theorem dX4_ifAsked_33 : decode cX4_ifAsked 33 = .ok (.ifCond .le 7, 3) := by decide +kernel
theorem dX4_ifAsked_36 : decode cX4_ifAsked 36 = .ok (.iconst 0, 1) := by decide +kernel
theorem dX4_ifAsked_37 : decode cX4_ifAsked 37 = .ok (.goto 9, 3) := by decide +kernel
theorem dX4_ifAsked_40 : decode cX4_ifAsked 40 = .ok (.aload_n 0, 1) := by decide +kernel
theorem dX4_ifAsked_41 : decode cX4_ifAsked 41 = .ok (.iload_n 1, 1) := by decide +kernel
theorem dX4_ifAsked_42 : decode cX4_ifAsked 42 = .ok (.iload_n 2, 1) := by decide +kernel
theorem dX4_ifAsked_43 : decode cX4_ifAsked 43 = .ok (.invokevirtual 183, 3) := by decide +kernel
theorem dX4_ifAsked_46 : decode cX4_ifAsked 46 = .ok (.ireturn, 1) := by decide +kernel
theorem dX4_wouldBe_0 : decode cX4_wouldBe 0 = .ok (.aload_n 0, 1) := by decide +kernel
theorem dX4_wouldBe_1 : decode cX4_wouldBe 1 = .ok (.invokevirtual 177, 3) := by decide +kernel
theorem dX4_wouldBe_4 : decode cX4_wouldBe 4 = .ok (.aload_n 0, 1) := by decide +kernel
theorem dX4_wouldBe_5 : decode cX4_wouldBe 5 = .ok (.getfield 7, 3) := by decide +kernel
theorem dX4_wouldBe_8 : decode cX4_wouldBe 8 = .ok (.bipush 11, 2) := by decide +kernel
theorem dX4_wouldBe_10 : decode cX4_wouldBe 10 = .ok (.iaload, 1) := by decide +kernel
theorem dX4_wouldBe_11 : decode cX4_wouldBe 11 = .ok (.istore_n 3, 1) := by decide +kernel
theorem dX4_wouldBe_12 : decode cX4_wouldBe 12 = .ok (.aload_n 0, 1) := by decide +kernel
theorem dX4_wouldBe_13 : decode cX4_wouldBe 13 = .ok (.iload_n 1, 1) := by decide +kernel
theorem dX4_wouldBe_14 : decode cX4_wouldBe 14 = .ok (.invokevirtual 150, 3) := by decide +kernel
theorem dX4_wouldBe_17 : decode cX4_wouldBe 17 = .ok (.istore 4, 2) := by decide +kernel
theorem dX4_wouldBe_19 : decode cX4_wouldBe 19 = .ok (.iload_n 2, 1) := by decide +kernel
theorem dX4_wouldBe_20 : decode cX4_wouldBe 20 = .ok (.ifCond .ne 8, 3) := by decide +kernel
theorem dX4_wouldBe_23 : decode cX4_wouldBe 23 = .ok (.iload 4, 2) := by decide +kernel
theorem dX4_wouldBe_25 : decode cX4_wouldBe 25 = .ok (.goto 39, 3) := by decide +kernel
theorem dX4_wouldBe_28 : decode cX4_wouldBe 28 = .ok (.iload_n 2, 1) := by decide +kernel
theorem dX4_wouldBe_29 : decode cX4_wouldBe 29 = .ok (.iconst 1, 1) := by decide +kernel
theorem dX4_wouldBe_30 : decode cX4_wouldBe 30 = .ok (.if_icmp .ne 15, 3) := by decide +kernel
theorem dX4_wouldBe_33 : decode cX4_wouldBe 33 = .ok (.aload_n 0, 1) := by decide +kernel
theorem dX4_wouldBe_34 : decode cX4_wouldBe 34 = .ok (.getfield 7, 3) := by decide +kernel
theorem dX4_wouldBe_37 : decode cX4_wouldBe 37 = .ok (.bipush 11, 2) := by decide +kernel
theorem dX4_wouldBe_39 : decode cX4_wouldBe 39 = .ok (.iaload, 1) := by decide +kernel
theorem dX4_wouldBe_40 : decode cX4_wouldBe 40 = .ok (.iload_n 3, 1) := by decide +kernel
theorem dX4_wouldBe_41 : decode cX4_wouldBe 41 = .ok (.isub, 1) := by decide +kernel
theorem dX4_wouldBe_42 : decode cX4_wouldBe 42 = .ok (.goto 22, 3) := by decide +kernel
theorem dX4_wouldBe_45 : decode cX4_wouldBe 45 = .ok (.iload_n 2, 1) := by decide +kernel
theorem dX4_wouldBe_46 : decode cX4_wouldBe 46 = .ok (.iconst 2, 1) := by decide +kernel
theorem dX4_wouldBe_47 : decode cX4_wouldBe 47 = .ok (.if_icmp .ne 10, 3) := by decide +kernel
theorem dX4_wouldBe_50 : decode cX4_wouldBe 50 = .ok (.aload_n 0, 1) := by decide +kernel
theorem dX4_wouldBe_51 : decode cX4_wouldBe 51 = .ok (.invokevirtual 69, 3) := by decide +kernel
theorem dX4_wouldBe_54 : decode cX4_wouldBe 54 = .ok (.goto 10, 3) := by decide +kernel
theorem dX4_wouldBe_57 : decode cX4_wouldBe 57 = .ok (.aload_n 0, 1) := by decide +kernel
theorem dX4_wouldBe_58 : decode cX4_wouldBe 58 = .ok (.getfield 7, 3) := by decide +kernel
theorem dX4_wouldBe_61 : decode cX4_wouldBe 61 = .ok (.bipush 17, 2) := by decide +kernel
theorem dX4_wouldBe_63 : decode cX4_wouldBe 63 = .ok (.iaload, 1) := by decide +kernel
theorem dX4_wouldBe_64 : decode cX4_wouldBe 64 = .ok (.istore 5, 2) := by decide +kernel
theorem dX4_wouldBe_66 : decode cX4_wouldBe 66 = .ok (.aload_n 0, 1) := by decide +kernel
theorem dX4_wouldBe_67 : decode cX4_wouldBe 67 = .ok (.invokevirtual 180, 3) := by decide +kernel
theorem dX4_wouldBe_70 : decode cX4_wouldBe 70 = .ok (.iload 5, 2) := by decide +kernel
theorem dX4_wouldBe_72 : decode cX4_wouldBe 72 = .ok (.ireturn, 1) := by decide +kernel
theorem dX4_ifPassed_0 : decode cX4_ifPassed 0 = .ok (.aload_n 0, 1) := by decide +kernel
theorem dX4_ifPassed_1 : decode cX4_ifPassed 1 = .ok (.iload_n 1, 1) := by decide +kernel
theorem dX4_ifPassed_2 : decode cX4_ifPassed 2 = .ok (.iconst 0, 1) := by decide +kernel
theorem dX4_ifPassed_3 : decode cX4_ifPassed 3 = .ok (.sipush 200, 3) := by decide +kernel
theorem dX4_ifPassed_6 : decode cX4_ifPassed 6 = .ok (.invokestatic 36, 3) := by decide +kernel
theorem dX4_ifPassed_9 : decode cX4_ifPassed 9 = .ok (.ifCond .eq 16, 3) := by decide +kernel
theorem dX4_ifPassed_12 : decode cX4_ifPassed 12 = .ok (.iload_n 2, 1) := by decide +kernel
theorem dX4_ifPassed_13 : decode cX4_ifPassed 13 = .ok (.iconst 0, 1) := by decide +kernel
theorem dX4_ifPassed_14 : decode cX4_ifPassed 14 = .ok (.iconst 3, 1) := by decide +kernel
theorem dX4_ifPassed_15 : decode cX4_ifPassed 15 = .ok (.invokestatic 36, 3) := by decide +kernel
theorem dX4_ifPassed_18 : decode cX4_ifPassed 18 = .ok (.ifCond .eq 7, 3) := by decide +kernel
theorem dX4_ifPassed_21 : decode cX4_ifPassed 21 = .ok (.iconst 0, 1) := by decide +kernel
theorem dX4_ifPassed_22 : decode cX4_ifPassed 22 = .ok (.goto 4, 3) := by decide +kernel
theorem dX4_ifPassed_25 : decode cX4_ifPassed 25 = .ok (.iconst 1, 1) := by decide +kernel
theorem dX4_ifPassed_26 : decode cX4_ifPassed 26 = .ok (.putfield 32, 3) := by decide +kernel
theorem dX4_ifPassed_29 : decode cX4_ifPassed 29 = .ok (.aload_n 0, 1) := by decide +kernel
theorem dX4_ifPassed_30 : decode cX4_ifPassed 30 = .ok (.getfield 32, 3) := by decide +kernel
theorem dX4_ifPassed_33 : decode cX4_ifPassed 33 = .ok (.ifCond .le 7, 3) := by decide +kernel
theorem dX4_ifPassed_36 : decode cX4_ifPassed 36 = .ok (.iconst 0, 1) := by decide +kernel
theorem dX4_ifPassed_37 : decode cX4_ifPassed 37 = .ok (.goto 9, 3) := by decide +kernel
theorem dX4_ifPassed_40 : decode cX4_ifPassed 40 = .ok (.aload_n 0, 1) := by decide +kernel
theorem dX4_ifPassed_41 : decode cX4_ifPassed 41 = .ok (.iload_n 1, 1) := by decide +kernel
theorem dX4_ifPassed_42 : decode cX4_ifPassed 42 = .ok (.iload_n 2, 1) := by decide +kernel
theorem dX4_ifPassed_43 : decode cX4_ifPassed 43 = .ok (.invokevirtual 186, 3) := by decide +kernel
theorem dX4_ifPassed_46 : decode cX4_ifPassed 46 = .ok (.ireturn, 1) := by decide +kernel
theorem dX4_wouldWait_0 : decode cX4_wouldWait 0 = .ok (.aload_n 0, 1) := by decide +kernel
theorem dX4_wouldWait_1 : decode cX4_wouldWait 1 = .ok (.iload_n 1, 1) := by decide +kernel
theorem dX4_wouldWait_2 : decode cX4_wouldWait 2 = .ok (.invokevirtual 104, 3) := by decide +kernel
theorem dX4_wouldWait_5 : decode cX4_wouldWait 5 = .ok (.ifCond .ne 5, 3) := by decide +kernel
theorem dX4_wouldWait_8 : decode cX4_wouldWait 8 = .ok (.iconst (-1), 1) := by decide +kernel
theorem dX4_wouldWait_9 : decode cX4_wouldWait 9 = .ok (.ireturn, 1) := by decide +kernel
theorem dX4_wouldWait_10 : decode cX4_wouldWait 10 = .ok (.aload_n 0, 1) := by decide +kernel
theorem dX4_wouldWait_11 : decode cX4_wouldWait 11 = .ok (.invokevirtual 177, 3) := by decide +kernel
theorem dX4_wouldWait_14 : decode cX4_wouldWait 14 = .ok (.aload_n 0, 1) := by decide +kernel
theorem dX4_wouldWait_15 : decode cX4_wouldWait 15 = .ok (.iload_n 1, 1) := by decide +kernel
theorem dX4_wouldWait_16 : decode cX4_wouldWait 16 = .ok (.iconst 2, 1) := by decide +kernel
theorem dX4_wouldWait_17 : decode cX4_wouldWait 17 = .ok (.invokevirtual 44, 3) := by decide +kernel
theorem dX4_wouldWait_20 : decode cX4_wouldWait 20 = .ok (.istore_n 2, 1) := by decide +kernel
theorem dX4_wouldWait_21 : decode cX4_wouldWait 21 = .ok (.iconst 0, 1) := by decide +kernel
theorem dX4_wouldWait_22 : decode cX4_wouldWait 22 = .ok (.istore_n 3, 1) := by decide +kernel
theorem dX4_wouldWait_23 : decode cX4_wouldWait 23 = .ok (.aload_n 0, 1) := by decide +kernel
theorem dX4_wouldWait_24 : decode cX4_wouldWait 24 = .ok (.iload_n 1, 1) := by decide +kernel
theorem dX4_wouldWait_25 : decode cX4_wouldWait 25 = .ok (.invokevirtual 104, 3) := by decide +kernel
theorem dX4_wouldWait_28 : decode cX4_wouldWait 28 = .ok (.ifCond .eq 14, 3) := by decide +kernel
theorem dX4_wouldWait_31 : decode cX4_wouldWait 31 = .ok (.aload_n 0, 1) := by decide +kernel
theorem dX4_wouldWait_32 : decode cX4_wouldWait 32 = .ok (.invokevirtual 113, 3) := by decide +kernel
theorem dX4_wouldWait_35 : decode cX4_wouldWait 35 = .ok (.pop, 1) := by decide +kernel
theorem dX4_wouldWait_36 : decode cX4_wouldWait 36 = .ok (.iinc 3 1, 3) := by decide +kernel
theorem dX4_wouldWait_39 : decode cX4_wouldWait 39 = .ok (.goto (-16), 3) := by decide +kernel
theorem dX4_wouldWait_42 : decode cX4_wouldWait 42 = .ok (.aload_n 0, 1) := by decide +kernel
theorem dX4_wouldWait_43 : decode cX4_wouldWait 43 = .ok (.iload_n 1, 1) := by decide +kernel
theorem dX4_wouldWait_44 : decode cX4_wouldWait 44 = .ok (.iconst 2, 1) := by decide +kernel
theorem dX4_wouldWait_45 : decode cX4_wouldWait 45 = .ok (.invokevirtual 44, 3) := by decide +kernel
theorem dX4_wouldWait_48 : decode cX4_wouldWait 48 = .ok (.iload_n 2, 1) := by decide +kernel
theorem dX4_wouldWait_49 : decode cX4_wouldWait 49 = .ok (.if_icmp .le 7, 3) := by decide +kernel
theorem dX4_wouldWait_52 : decode cX4_wouldWait 52 = .ok (.iload_n 3, 1) := by decide +kernel
theorem dX4_wouldWait_53 : decode cX4_wouldWait 53 = .ok (.goto 4, 3) := by decide +kernel
theorem dX4_wouldWait_56 : decode cX4_wouldWait 56 = .ok (.iconst (-1), 1) := by decide +kernel
theorem dX4_wouldWait_57 : decode cX4_wouldWait 57 = .ok (.istore 4, 2) := by decide +kernel
theorem dX4_wouldWait_59 : decode cX4_wouldWait 59 = .ok (.aload_n 0, 1) := by decide +kernel
theorem dX4_wouldWait_60 : decode cX4_wouldWait 60 = .ok (.invokevirtual 180, 3) := by decide +kernel
theorem dX4_wouldWait_63 : decode cX4_wouldWait 63 = .ok (.iload 4, 2) := by decide +kernel
theorem dX4_wouldWait_65 : decode cX4_wouldWait 65 = .ok (.ireturn, 1) := by decide +kernel
theorem dX4_waitsFor_0 : decode cX4_waitsFor 0 = .ok (.aload_n 0, 1) := by decide +kernel
theorem dX4_waitsFor_1 : decode cX4_waitsFor 1 = .ok (.iload_n 1, 1) := by decide +kernel
theorem dX4_waitsFor_2 : decode cX4_waitsFor 2 = .ok (.invokestatic 116, 3) := by decide +kernel
theorem dX4_waitsFor_5 : decode cX4_waitsFor 5 = .ok (.ifCond .eq 7, 3) := by decide +kernel
theorem dX4_waitsFor_8 : decode cX4_waitsFor 8 = .ok (.iconst 0, 1) := by decide +kernel
theorem dX4_waitsFor_9 : decode cX4_waitsFor 9 = .ok (.goto 4, 3) := by decide +kernel
theorem dX4_waitsFor_12 : decode cX4_waitsFor 12 = .ok (.iconst 1, 1) := by decide +kernel
theorem dX4_waitsFor_13 : decode cX4_waitsFor 13 = .ok (.putfield 32, 3) := by decide +kernel
theorem dX4_waitsFor_16 : decode cX4_waitsFor 16 = .ok (.aload_n 0, 1) := by decide +kernel
theorem dX4_waitsFor_17 : decode cX4_waitsFor 17 = .ok (.getfield 32, 3) := by decide +kernel
theorem dX4_waitsFor_20 : decode cX4_waitsFor 20 = .ok (.ifCond .le 7, 3) := by decide +kernel
theorem dX4_waitsFor_23 : decode cX4_waitsFor 23 = .ok (.iconst 0, 1) := by decide +kernel
theorem dX4_waitsFor_24 : decode cX4_waitsFor 24 = .ok (.goto 8, 3) := by decide +kernel
theorem dX4_waitsFor_27 : decode cX4_waitsFor 27 = .ok (.aload_n 0, 1) := by decide +kernel
theorem dX4_waitsFor_28 : decode cX4_waitsFor 28 = .ok (.iload_n 1, 1) := by decide +kernel
theorem dX4_waitsFor_29 : decode cX4_waitsFor 29 = .ok (.invokevirtual 189, 3) := by decide +kernel
theorem dX4_waitsFor_32 : decode cX4_waitsFor 32 = .ok (.ireturn, 1) := by decide +kernel
theorem dX4_blockerNow_0 : decode cX4_blockerNow 0 = .ok (.iconst (-1), 1) := by decide +kernel
theorem dX4_blockerNow_1 : decode cX4_blockerNow 1 = .ok (.istore_n 1, 1) := by decide +kernel
theorem dX4_blockerNow_2 : decode cX4_blockerNow 2 = .ok (.iconst 0, 1) := by decide +kernel
theorem dX4_blockerNow_3 : decode cX4_blockerNow 3 = .ok (.istore_n 2, 1) := by decide +kernel
theorem dX4_blockerNow_4 : decode cX4_blockerNow 4 = .ok (.iconst 0, 1) := by decide +kernel
theorem dX4_blockerNow_5 : decode cX4_blockerNow 5 = .ok (.istore_n 3, 1) := by decide +kernel
theorem dX4_blockerNow_6 : decode cX4_blockerNow 6 = .ok (.iload_n 3, 1) := by decide +kernel
theorem dX4_blockerNow_7 : decode cX4_blockerNow 7 = .ok (.bipush 8, 2) := by decide +kernel
theorem dX4_blockerNow_9 : decode cX4_blockerNow 9 = .ok (.if_icmp .ge 51, 3) := by decide +kernel
theorem dX4_blockerNow_12 : decode cX4_blockerNow 12 = .ok (.aload_n 0, 1) := by decide +kernel
theorem dX4_blockerNow_13 : decode cX4_blockerNow 13 = .ok (.getfield 7, 3) := by decide +kernel
theorem dX4_blockerNow_16 : decode cX4_blockerNow 16 = .ok (.bipush 17, 2) := by decide +kernel
theorem dX4_blockerNow_18 : decode cX4_blockerNow 18 = .ok (.iaload, 1) := by decide +kernel
theorem dX4_blockerNow_19 : decode cX4_blockerNow 19 = .ok (.ifCond .le 41, 3) := by decide +kernel
theorem dX4_blockerNow_22 : decode cX4_blockerNow 22 = .ok (.aload_n 0, 1) := by decide +kernel
theorem dX4_blockerNow_23 : decode cX4_blockerNow 23 = .ok (.iload_n 3, 1) := by decide +kernel
theorem dX4_blockerNow_24 : decode cX4_blockerNow 24 = .ok (.invokevirtual 58, 3) := by decide +kernel
theorem dX4_blockerNow_27 : decode cX4_blockerNow 27 = .ok (.istore 4, 2) := by decide +kernel
theorem dX4_blockerNow_29 : decode cX4_blockerNow 29 = .ok (.iload 4, 2) := by decide +kernel
theorem dX4_blockerNow_31 : decode cX4_blockerNow 31 = .ok (.iload_n 2, 1) := by decide +kernel
theorem dX4_blockerNow_32 : decode cX4_blockerNow 32 = .ok (.if_icmp .le 7, 3) := by decide +kernel
theorem dX4_blockerNow_35 : decode cX4_blockerNow 35 = .ok (.iload_n 3, 1) := by decide +kernel
theorem dX4_blockerNow_36 : decode cX4_blockerNow 36 = .ok (.goto 4, 3) := by decide +kernel
theorem dX4_blockerNow_39 : decode cX4_blockerNow 39 = .ok (.iload_n 1, 1) := by decide +kernel
theorem dX4_blockerNow_40 : decode cX4_blockerNow 40 = .ok (.istore_n 1, 1) := by decide +kernel
theorem dX4_blockerNow_41 : decode cX4_blockerNow 41 = .ok (.iload 4, 2) := by decide +kernel
theorem dX4_blockerNow_43 : decode cX4_blockerNow 43 = .ok (.iload_n 2, 1) := by decide +kernel
theorem dX4_blockerNow_44 : decode cX4_blockerNow 44 = .ok (.if_icmp .le 8, 3) := by decide +kernel
theorem dX4_blockerNow_47 : decode cX4_blockerNow 47 = .ok (.iload 4, 2) := by decide +kernel
theorem dX4_blockerNow_49 : decode cX4_blockerNow 49 = .ok (.goto 4, 3) := by decide +kernel
theorem dX4_blockerNow_52 : decode cX4_blockerNow 52 = .ok (.iload_n 2, 1) := by decide +kernel
theorem dX4_blockerNow_53 : decode cX4_blockerNow 53 = .ok (.istore_n 2, 1) := by decide +kernel
theorem dX4_blockerNow_54 : decode cX4_blockerNow 54 = .ok (.iinc 3 1, 3) := by decide +kernel
theorem dX4_blockerNow_57 : decode cX4_blockerNow 57 = .ok (.goto (-51), 3) := by decide +kernel
theorem dX4_blockerNow_60 : decode cX4_blockerNow 60 = .ok (.iload_n 1, 1) := by decide +kernel
theorem dX4_blockerNow_61 : decode cX4_blockerNow 61 = .ok (.ireturn, 1) := by decide +kernel
theorem dX4_blocker_0 : decode cX4_blocker 0 = .ok (.aload_n 0, 1) := by decide +kernel
theorem dX4_blocker_1 : decode cX4_blocker 1 = .ok (.iconst 0, 1) := by decide +kernel
theorem dX4_blocker_2 : decode cX4_blocker 2 = .ok (.putfield 32, 3) := by decide +kernel
theorem dX4_blocker_5 : decode cX4_blocker 5 = .ok (.aload_n 0, 1) := by decide +kernel
theorem dX4_blocker_6 : decode cX4_blocker 6 = .ok (.invokevirtual 192, 3) := by decide +kernel
theorem dX4_blocker_9 : decode cX4_blocker 9 = .ok (.ireturn, 1) := by decide +kernel
theorem dX4_evenness_0 : decode cX4_evenness 0 = .ok (.iconst 0, 1) := by decide +kernel
theorem dX4_evenness_1 : decode cX4_evenness 1 = .ok (.istore_n 1, 1) := by decide +kernel
theorem dX4_evenness_2 : decode cX4_evenness 2 = .ok (.iconst 0, 1) := by decide +kernel
theorem dX4_evenness_3 : decode cX4_evenness 3 = .ok (.istore_n 2, 1) := by decide +kernel
theorem dX4_evenness_4 : decode cX4_evenness 4 = .ok (.iconst 0, 1) := by decide +kernel
theorem dX4_evenness_5 : decode cX4_evenness 5 = .ok (.istore_n 3, 1) := by decide +kernel
theorem dX4_evenness_6 : decode cX4_evenness 6 = .ok (.iload_n 3, 1) := by decide +kernel
theorem dX4_evenness_7 : decode cX4_evenness 7 = .ok (.bipush 8, 2) := by decide +kernel
theorem dX4_evenness_9 : decode cX4_evenness 9 = .ok (.if_icmp .ge 52, 3) := by decide +kernel
theorem dX4_evenness_12 : decode cX4_evenness 12 = .ok (.aload_n 0, 1) := by decide +kernel
theorem dX4_evenness_13 : decode cX4_evenness 13 = .ok (.iload_n 3, 1) := by decide +kernel
theorem dX4_evenness_14 : decode cX4_evenness 14 = .ok (.iconst 2, 1) := by decide +kernel
theorem dX4_evenness_15 : decode cX4_evenness 15 = .ok (.invokevirtual 44, 3) := by decide +kernel
theorem dX4_evenness_18 : decode cX4_evenness 18 = .ok (.istore 4, 2) := by decide +kernel
theorem dX4_evenness_20 : decode cX4_evenness 20 = .ok (.iload 4, 2) := by decide +kernel
theorem dX4_evenness_22 : decode cX4_evenness 22 = .ok (.ifCond .le 18, 3) := by decide +kernel
theorem dX4_evenness_25 : decode cX4_evenness 25 = .ok (.iload_n 1, 1) := by decide +kernel
theorem dX4_evenness_26 : decode cX4_evenness 26 = .ok (.ifCond .eq 9, 3) := by decide +kernel
theorem dX4_evenness_29 : decode cX4_evenness 29 = .ok (.iload 4, 2) := by decide +kernel
theorem dX4_evenness_31 : decode cX4_evenness 31 = .ok (.iload_n 1, 1) := by decide +kernel
theorem dX4_evenness_32 : decode cX4_evenness 32 = .ok (.if_icmp .ge 8, 3) := by decide +kernel
theorem dX4_evenness_35 : decode cX4_evenness 35 = .ok (.iload 4, 2) := by decide +kernel
theorem dX4_evenness_37 : decode cX4_evenness 37 = .ok (.goto 4, 3) := by decide +kernel
theorem dX4_evenness_40 : decode cX4_evenness 40 = .ok (.iload_n 1, 1) := by decide +kernel
theorem dX4_evenness_41 : decode cX4_evenness 41 = .ok (.istore_n 1, 1) := by decide +kernel
theorem dX4_evenness_42 : decode cX4_evenness 42 = .ok (.iload 4, 2) := by decide +kernel
theorem dX4_evenness_44 : decode cX4_evenness 44 = .ok (.iload_n 2, 1) := by decide +kernel
theorem dX4_evenness_45 : decode cX4_evenness 45 = .ok (.if_icmp .le 8, 3) := by decide +kernel
theorem dX4_evenness_48 : decode cX4_evenness 48 = .ok (.iload 4, 2) := by decide +kernel
theorem dX4_evenness_50 : decode cX4_evenness 50 = .ok (.goto 4, 3) := by decide +kernel
theorem dX4_evenness_53 : decode cX4_evenness 53 = .ok (.iload_n 2, 1) := by decide +kernel
theorem dX4_evenness_54 : decode cX4_evenness 54 = .ok (.istore_n 2, 1) := by decide +kernel
theorem dX4_evenness_55 : decode cX4_evenness 55 = .ok (.iinc 3 1, 3) := by decide +kernel
theorem dX4_evenness_58 : decode cX4_evenness 58 = .ok (.goto (-52), 3) := by decide +kernel
theorem dX4_evenness_61 : decode cX4_evenness 61 = .ok (.iload_n 2, 1) := by decide +kernel
theorem dX4_evenness_62 : decode cX4_evenness 62 = .ok (.ifCond .ne 7, 3) := by decide +kernel
theorem dX4_evenness_65 : decode cX4_evenness 65 = .ok (.dconst 1, 1) := by decide +kernel
theorem dX4_evenness_66 : decode cX4_evenness 66 = .ok (.goto 8, 3) := by decide +kernel
theorem dX4_evenness_69 : decode cX4_evenness 69 = .ok (.iload_n 1, 1) := by decide +kernel
theorem dX4_evenness_70 : decode cX4_evenness 70 = .ok (.i2d, 1) := by decide +kernel
theorem dX4_evenness_71 : decode cX4_evenness 71 = .ok (.iload_n 2, 1) := by decide +kernel
theorem dX4_evenness_72 : decode cX4_evenness 72 = .ok (.i2d, 1) := by decide +kernel
theorem dX4_evenness_73 : decode cX4_evenness 73 = .ok (.ddiv, 1) := by decide +kernel
theorem dX4_evenness_74 : decode cX4_evenness 74 = .ok (.dreturn, 1) := by decide +kernel
theorem dX4_fairness_0 : decode cX4_fairness 0 = .ok (.aload_n 0, 1) := by decide +kernel
theorem dX4_fairness_1 : decode cX4_fairness 1 = .ok (.iconst 0, 1) := by decide +kernel
theorem dX4_fairness_2 : decode cX4_fairness 2 = .ok (.putfield 32, 3) := by decide +kernel
theorem dX4_fairness_5 : decode cX4_fairness 5 = .ok (.aload_n 0, 1) := by decide +kernel
theorem dX4_fairness_6 : decode cX4_fairness 6 = .ok (.invokevirtual 195, 3) := by decide +kernel
theorem dX4_fairness_9 : decode cX4_fairness 9 = .ok (.dreturn, 1) := by decide +kernel
theorem dX4_bitsOf_0 : decode cX4_bitsOf 0 = .ok (.dload_n 0, 1) := by decide +kernel
theorem dX4_bitsOf_1 : decode cX4_bitsOf 1 = .ok (.dconst 0, 1) := by decide +kernel
theorem dX4_bitsOf_2 : decode cX4_bitsOf 2 = .ok (.dcmp .l, 1) := by decide +kernel
theorem dX4_bitsOf_3 : decode cX4_bitsOf 3 = .ok (.ifCond .ne 5, 3) := by decide +kernel
theorem dX4_bitsOf_6 : decode cX4_bitsOf 6 = .ok (.lconst 0, 1) := by decide +kernel
theorem dX4_bitsOf_7 : decode cX4_bitsOf 7 = .ok (.lreturn, 1) := by decide +kernel
theorem dX4_bitsOf_8 : decode cX4_bitsOf 8 = .ok (.dload_n 0, 1) := by decide +kernel
theorem dX4_bitsOf_9 : decode cX4_bitsOf 9 = .ok (.dstore_n 2, 1) := by decide +kernel
theorem dX4_bitsOf_10 : decode cX4_bitsOf 10 = .ok (.ldc2_w 199, 3) := by decide +kernel
theorem dX4_bitsOf_13 : decode cX4_bitsOf 13 = .ok (.lstore 4, 2) := by decide +kernel
theorem dX4_bitsOf_15 : decode cX4_bitsOf 15 = .ok (.dload_n 2, 1) := by decide +kernel
theorem dX4_bitsOf_16 : decode cX4_bitsOf 16 = .ok (.ldc2_w 201, 3) := by decide +kernel
theorem dX4_bitsOf_19 : decode cX4_bitsOf 19 = .ok (.dcmp .l, 1) := by decide +kernel
theorem dX4_bitsOf_20 : decode cX4_bitsOf 20 = .ok (.ifCond .lt 18, 3) := by decide +kernel
theorem dX4_bitsOf_23 : decode cX4_bitsOf 23 = .ok (.dload_n 2, 1) := by decide +kernel
theorem dX4_bitsOf_24 : decode cX4_bitsOf 24 = .ok (.ldc2_w 201, 3) := by decide +kernel
theorem dX4_bitsOf_27 : decode cX4_bitsOf 27 = .ok (.ddiv, 1) := by decide +kernel
theorem dX4_bitsOf_28 : decode cX4_bitsOf 28 = .ok (.dstore_n 2, 1) := by decide +kernel
theorem dX4_bitsOf_29 : decode cX4_bitsOf 29 = .ok (.lload 4, 2) := by decide +kernel
theorem dX4_bitsOf_31 : decode cX4_bitsOf 31 = .ok (.lconst 1, 1) := by decide +kernel
theorem dX4_bitsOf_32 : decode cX4_bitsOf 32 = .ok (.ladd, 1) := by decide +kernel
theorem dX4_bitsOf_33 : decode cX4_bitsOf 33 = .ok (.lstore 4, 2) := by decide +kernel
theorem dX4_bitsOf_35 : decode cX4_bitsOf 35 = .ok (.goto (-20), 3) := by decide +kernel
theorem dX4_bitsOf_38 : decode cX4_bitsOf 38 = .ok (.dload_n 2, 1) := by decide +kernel
theorem dX4_bitsOf_39 : decode cX4_bitsOf 39 = .ok (.dconst 1, 1) := by decide +kernel
theorem dX4_bitsOf_40 : decode cX4_bitsOf 40 = .ok (.dcmp .g, 1) := by decide +kernel
theorem dX4_bitsOf_41 : decode cX4_bitsOf 41 = .ok (.ifCond .ge 18, 3) := by decide +kernel
theorem dX4_bitsOf_44 : decode cX4_bitsOf 44 = .ok (.dload_n 2, 1) := by decide +kernel
theorem dX4_bitsOf_45 : decode cX4_bitsOf 45 = .ok (.ldc2_w 201, 3) := by decide +kernel
theorem dX4_bitsOf_48 : decode cX4_bitsOf 48 = .ok (.dmul, 1) := by decide +kernel
theorem dX4_bitsOf_49 : decode cX4_bitsOf 49 = .ok (.dstore_n 2, 1) := by decide +kernel
theorem dX4_bitsOf_50 : decode cX4_bitsOf 50 = .ok (.lload 4, 2) := by decide +kernel
theorem dX4_bitsOf_52 : decode cX4_bitsOf 52 = .ok (.lconst 1, 1) := by decide +kernel
theorem dX4_bitsOf_53 : decode cX4_bitsOf 53 = .ok (.lsub, 1) := by decide +kernel
theorem dX4_bitsOf_54 : decode cX4_bitsOf 54 = .ok (.lstore 4, 2) := by decide +kernel
theorem dX4_bitsOf_56 : decode cX4_bitsOf 56 = .ok (.goto (-18), 3) := by decide +kernel
theorem dX4_bitsOf_59 : decode cX4_bitsOf 59 = .ok (.lload 4, 2) := by decide +kernel
theorem dX4_bitsOf_61 : decode cX4_bitsOf 61 = .ok (.bipush 52, 2) := by decide +kernel
theorem dX4_bitsOf_63 : decode cX4_bitsOf 63 = .ok (.lshl, 1) := by decide +kernel
theorem dX4_bitsOf_64 : decode cX4_bitsOf 64 = .ok (.dload_n 2, 1) := by decide +kernel
theorem dX4_bitsOf_65 : decode cX4_bitsOf 65 = .ok (.ldc2_w 203, 3) := by decide +kernel
theorem dX4_bitsOf_68 : decode cX4_bitsOf 68 = .ok (.dmul, 1) := by decide +kernel
theorem dX4_bitsOf_69 : decode cX4_bitsOf 69 = .ok (.d2l, 1) := by decide +kernel
theorem dX4_bitsOf_70 : decode cX4_bitsOf 70 = .ok (.ladd, 1) := by decide +kernel
theorem dX4_bitsOf_71 : decode cX4_bitsOf 71 = .ok (.ldc2_w 205, 3) := by decide +kernel
theorem dX4_bitsOf_74 : decode cX4_bitsOf 74 = .ok (.lsub, 1) := by decide +kernel
theorem dX4_bitsOf_75 : decode cX4_bitsOf 75 = .ok (.lreturn, 1) := by decide +kernel
theorem dX4_mix_0 : decode cX4_mix 0 = .ok (.aload_n 0, 1) := by decide +kernel
theorem dX4_mix_1 : decode cX4_mix 1 = .ok (.ldc2_w 207, 3) := by decide +kernel
theorem dX4_mix_4 : decode cX4_mix 4 = .ok (.aload_n 0, 1) := by decide +kernel
theorem dX4_mix_5 : decode cX4_mix 5 = .ok (.getfield 209, 3) := by decide +kernel
theorem dX4_mix_8 : decode cX4_mix 8 = .ok (.lmul, 1) := by decide +kernel
theorem dX4_mix_9 : decode cX4_mix 9 = .ok (.lload_n 1, 1) := by decide +kernel
theorem dX4_mix_10 : decode cX4_mix 10 = .ok (.ladd, 1) := by decide +kernel
theorem dX4_mix_11 : decode cX4_mix 11 = .ok (.putfield 209, 3) := by decide +kernel
theorem dX4_mix_14 : decode cX4_mix 14 = .ok (.return_, 1) := by decide +kernel
theorem dX4_mixOwner_0 : decode cX4_mixOwner 0 = .ok (.iconst 0, 1) := by decide +kernel
theorem dX4_mixOwner_1 : decode cX4_mixOwner 1 = .ok (.istore_n 2, 1) := by decide +kernel
theorem dX4_mixOwner_2 : decode cX4_mixOwner 2 = .ok (.iload_n 2, 1) := by decide +kernel
theorem dX4_mixOwner_3 : decode cX4_mixOwner 3 = .ok (.bipush 6, 2) := by decide +kernel
theorem dX4_mixOwner_5 : decode cX4_mixOwner 5 = .ok (.if_icmp .gt 20, 3) := by decide +kernel
theorem dX4_mixOwner_8 : decode cX4_mixOwner 8 = .ok (.aload_n 0, 1) := by decide +kernel
theorem dX4_mixOwner_9 : decode cX4_mixOwner 9 = .ok (.aload_n 0, 1) := by decide +kernel
theorem dX4_mixOwner_10 : decode cX4_mixOwner 10 = .ok (.iload_n 1, 1) := by decide +kernel
theorem dX4_mixOwner_11 : decode cX4_mixOwner 11 = .ok (.iload_n 2, 1) := by decide +kernel
theorem dX4_mixOwner_12 : decode cX4_mixOwner 12 = .ok (.invokevirtual 168, 3) := by decide +kernel
theorem dX4_mixOwner_15 : decode cX4_mixOwner 15 = .ok (.i2l, 1) := by decide +kernel
theorem dX4_mixOwner_16 : decode cX4_mixOwner 16 = .ok (.invokevirtual 213, 3) := by decide +kernel
theorem dX4_mixOwner_19 : decode cX4_mixOwner 19 = .ok (.iinc 2 1, 3) := by decide +kernel
theorem dX4_mixOwner_22 : decode cX4_mixOwner 22 = .ok (.goto (-20), 3) := by decide +kernel
theorem dX4_mixOwner_25 : decode cX4_mixOwner 25 = .ok (.iconst 0, 1) := by decide +kernel
theorem dX4_mixOwner_26 : decode cX4_mixOwner 26 = .ok (.istore_n 2, 1) := by decide +kernel
theorem dX4_mixOwner_27 : decode cX4_mixOwner 27 = .ok (.iload_n 2, 1) := by decide +kernel
theorem dX4_mixOwner_28 : decode cX4_mixOwner 28 = .ok (.iconst 2, 1) := by decide +kernel
theorem dX4_mixOwner_29 : decode cX4_mixOwner 29 = .ok (.if_icmp .gt 20, 3) := by decide +kernel
theorem dX4_mixOwner_32 : decode cX4_mixOwner 32 = .ok (.aload_n 0, 1) := by decide +kernel
theorem dX4_mixOwner_33 : decode cX4_mixOwner 33 = .ok (.aload_n 0, 1) := by decide +kernel
theorem dX4_mixOwner_34 : decode cX4_mixOwner 34 = .ok (.iload_n 1, 1) := by decide +kernel
theorem dX4_mixOwner_35 : decode cX4_mixOwner 35 = .ok (.iload_n 2, 1) := by decide +kernel
theorem dX4_mixOwner_36 : decode cX4_mixOwner 36 = .ok (.invokevirtual 183, 3) := by decide +kernel
theorem dX4_mixOwner_39 : decode cX4_mixOwner 39 = .ok (.i2l, 1) := by decide +kernel
theorem dX4_mixOwner_40 : decode cX4_mixOwner 40 = .ok (.invokevirtual 213, 3) := by decide +kernel
theorem dX4_mixOwner_43 : decode cX4_mixOwner 43 = .ok (.iinc 2 1, 3) := by decide +kernel
theorem dX4_mixOwner_46 : decode cX4_mixOwner 46 = .ok (.goto (-19), 3) := by decide +kernel
theorem dX4_mixOwner_49 : decode cX4_mixOwner 49 = .ok (.aload_n 0, 1) := by decide +kernel
theorem dX4_mixOwner_50 : decode cX4_mixOwner 50 = .ok (.aload_n 0, 1) := by decide +kernel
theorem dX4_mixOwner_51 : decode cX4_mixOwner 51 = .ok (.iload_n 1, 1) := by decide +kernel
theorem dX4_mixOwner_52 : decode cX4_mixOwner 52 = .ok (.invokevirtual 189, 3) := by decide +kernel
theorem dX4_mixOwner_55 : decode cX4_mixOwner 55 = .ok (.i2l, 1) := by decide +kernel
theorem dX4_mixOwner_56 : decode cX4_mixOwner 56 = .ok (.invokevirtual 213, 3) := by decide +kernel
theorem dX4_mixOwner_59 : decode cX4_mixOwner 59 = .ok (.return_, 1) := by decide +kernel
theorem dX4_digest_0 : decode cX4_digest 0 = .ok (.aload_n 0, 1) := by decide +kernel
theorem dX4_digest_1 : decode cX4_digest 1 = .ok (.iconst 0, 1) := by decide +kernel
theorem dX4_digest_2 : decode cX4_digest 2 = .ok (.putfield 32, 3) := by decide +kernel
theorem dX4_digest_5 : decode cX4_digest 5 = .ok (.aload_n 0, 1) := by decide +kernel
theorem dX4_digest_6 : decode cX4_digest 6 = .ok (.ldc2_w 217, 3) := by decide +kernel
theorem dX4_digest_9 : decode cX4_digest 9 = .ok (.putfield 209, 3) := by decide +kernel
theorem dX4_digest_12 : decode cX4_digest 12 = .ok (.iconst 0, 1) := by decide +kernel
theorem dX4_digest_13 : decode cX4_digest 13 = .ok (.istore_n 1, 1) := by decide +kernel
theorem dX4_digest_14 : decode cX4_digest 14 = .ok (.iload_n 1, 1) := by decide +kernel
theorem dX4_digest_15 : decode cX4_digest 15 = .ok (.bipush 13, 2) := by decide +kernel
theorem dX4_digest_17 : decode cX4_digest 17 = .ok (.if_icmp .gt 19, 3) := by decide +kernel
theorem dX4_digest_20 : decode cX4_digest 20 = .ok (.aload_n 0, 1) := by decide +kernel
theorem dX4_digest_21 : decode cX4_digest 21 = .ok (.aload_n 0, 1) := by decide +kernel
theorem dX4_digest_22 : decode cX4_digest 22 = .ok (.iload_n 1, 1) := by decide +kernel
theorem dX4_digest_23 : decode cX4_digest 23 = .ok (.invokevirtual 174, 3) := by decide +kernel
theorem dX4_digest_26 : decode cX4_digest 26 = .ok (.i2l, 1) := by decide +kernel
theorem dX4_digest_27 : decode cX4_digest 27 = .ok (.invokevirtual 213, 3) := by decide +kernel
theorem dX4_digest_30 : decode cX4_digest 30 = .ok (.iinc 1 1, 3) := by decide +kernel
theorem dX4_digest_33 : decode cX4_digest 33 = .ok (.goto (-19), 3) := by decide +kernel
theorem dX4_digest_36 : decode cX4_digest 36 = .ok (.iconst 0, 1) := by decide +kernel
theorem dX4_digest_37 : decode cX4_digest 37 = .ok (.istore_n 1, 1) := by decide +kernel
theorem dX4_digest_38 : decode cX4_digest 38 = .ok (.iload_n 1, 1) := by decide +kernel
theorem dX4_digest_39 : decode cX4_digest 39 = .ok (.bipush 9, 2) := by decide +kernel
theorem dX4_digest_41 : decode cX4_digest 41 = .ok (.if_icmp .ge 20, 3) := by decide +kernel
theorem dX4_digest_44 : decode cX4_digest 44 = .ok (.aload_n 0, 1) := by decide +kernel
theorem dX4_digest_45 : decode cX4_digest 45 = .ok (.aload_n 0, 1) := by decide +kernel
theorem dX4_digest_46 : decode cX4_digest 46 = .ok (.getfield 7, 3) := by decide +kernel
theorem dX4_digest_49 : decode cX4_digest 49 = .ok (.iload_n 1, 1) := by decide +kernel
theorem dX4_digest_50 : decode cX4_digest 50 = .ok (.iaload, 1) := by decide +kernel
theorem dX4_digest_51 : decode cX4_digest 51 = .ok (.i2l, 1) := by decide +kernel
theorem dX4_digest_52 : decode cX4_digest 52 = .ok (.invokevirtual 213, 3) := by decide +kernel
theorem dX4_digest_55 : decode cX4_digest 55 = .ok (.iinc 1 1, 3) := by decide +kernel
theorem dX4_digest_58 : decode cX4_digest 58 = .ok (.goto (-20), 3) := by decide +kernel
theorem dX4_digest_61 : decode cX4_digest 61 = .ok (.iconst 0, 1) := by decide +kernel
theorem dX4_digest_62 : decode cX4_digest 62 = .ok (.istore_n 1, 1) := by decide +kernel
theorem dX4_digest_63 : decode cX4_digest 63 = .ok (.iload_n 1, 1) := by decide +kernel
theorem dX4_digest_64 : decode cX4_digest 64 = .ok (.bipush 8, 2) := by decide +kernel
theorem dX4_digest_66 : decode cX4_digest 66 = .ok (.if_icmp .ge 33, 3) := by decide +kernel
theorem dX4_digest_69 : decode cX4_digest 69 = .ok (.iconst 0, 1) := by decide +kernel
theorem dX4_digest_70 : decode cX4_digest 70 = .ok (.istore_n 2, 1) := by decide +kernel
theorem dX4_digest_71 : decode cX4_digest 71 = .ok (.iload_n 2, 1) := by decide +kernel
theorem dX4_digest_72 : decode cX4_digest 72 = .ok (.iconst 5, 1) := by decide +kernel
theorem dX4_digest_73 : decode cX4_digest 73 = .ok (.if_icmp .gt 20, 3) := by decide +kernel
theorem dX4_digest_76 : decode cX4_digest 76 = .ok (.aload_n 0, 1) := by decide +kernel
theorem dX4_digest_77 : decode cX4_digest 77 = .ok (.aload_n 0, 1) := by decide +kernel
theorem dX4_digest_78 : decode cX4_digest 78 = .ok (.iload_n 1, 1) := by decide +kernel
theorem dX4_digest_79 : decode cX4_digest 79 = .ok (.iload_n 2, 1) := by decide +kernel
theorem dX4_digest_80 : decode cX4_digest 80 = .ok (.invokevirtual 165, 3) := by decide +kernel
theorem dX4_digest_83 : decode cX4_digest 83 = .ok (.i2l, 1) := by decide +kernel
theorem dX4_digest_84 : decode cX4_digest 84 = .ok (.invokevirtual 213, 3) := by decide +kernel
theorem dX4_digest_87 : decode cX4_digest 87 = .ok (.iinc 2 1, 3) := by decide +kernel
theorem dX4_digest_90 : decode cX4_digest 90 = .ok (.goto (-19), 3) := by decide +kernel
theorem dX4_digest_93 : decode cX4_digest 93 = .ok (.iinc 1 1, 3) := by decide +kernel
theorem dX4_digest_96 : decode cX4_digest 96 = .ok (.goto (-33), 3) := by decide +kernel
theorem dX4_digest_99 : decode cX4_digest 99 = .ok (.iconst 0, 1) := by decide +kernel
theorem dX4_digest_100 : decode cX4_digest 100 = .ok (.istore_n 1, 1) := by decide +kernel
theorem dX4_digest_101 : decode cX4_digest 101 = .ok (.iload_n 1, 1) := by decide +kernel
theorem dX4_digest_102 : decode cX4_digest 102 = .ok (.bipush 8, 2) := by decide +kernel
theorem dX4_digest_104 : decode cX4_digest 104 = .ok (.if_icmp .ge 14, 3) := by decide +kernel
theorem dX4_digest_107 : decode cX4_digest 107 = .ok (.aload_n 0, 1) := by decide +kernel
theorem dX4_digest_108 : decode cX4_digest 108 = .ok (.iload_n 1, 1) := by decide +kernel
theorem dX4_digest_109 : decode cX4_digest 109 = .ok (.invokevirtual 219, 3) := by decide +kernel
theorem dX4_digest_112 : decode cX4_digest 112 = .ok (.iinc 1 1, 3) := by decide +kernel
theorem dX4_digest_115 : decode cX4_digest 115 = .ok (.goto (-14), 3) := by decide +kernel
theorem dX4_digest_118 : decode cX4_digest 118 = .ok (.iconst 0, 1) := by decide +kernel
theorem dX4_digest_119 : decode cX4_digest 119 = .ok (.istore_n 1, 1) := by decide +kernel
theorem dX4_digest_120 : decode cX4_digest 120 = .ok (.iload_n 1, 1) := by decide +kernel
theorem dX4_digest_121 : decode cX4_digest 121 = .ok (.iconst 3, 1) := by decide +kernel
theorem dX4_digest_122 : decode cX4_digest 122 = .ok (.if_icmp .gt 21, 3) := by decide +kernel
theorem dX4_digest_125 : decode cX4_digest 125 = .ok (.aload_n 0, 1) := by decide +kernel
theorem dX4_digest_126 : decode cX4_digest 126 = .ok (.aload_n 0, 1) := by decide +kernel
theorem dX4_digest_127 : decode cX4_digest 127 = .ok (.bipush 12, 2) := by decide +kernel
theorem dX4_digest_129 : decode cX4_digest 129 = .ok (.iload_n 1, 1) := by decide +kernel
theorem dX4_digest_130 : decode cX4_digest 130 = .ok (.invokevirtual 186, 3) := by decide +kernel
theorem dX4_digest_133 : decode cX4_digest 133 = .ok (.i2l, 1) := by decide +kernel
theorem dX4_digest_134 : decode cX4_digest 134 = .ok (.invokevirtual 213, 3) := by decide +kernel
theorem dX4_digest_137 : decode cX4_digest 137 = .ok (.iinc 1 1, 3) := by decide +kernel
theorem dX4_digest_140 : decode cX4_digest 140 = .ok (.goto (-20), 3) := by decide +kernel
theorem dX4_digest_143 : decode cX4_digest 143 = .ok (.aload_n 0, 1) := by decide +kernel
theorem dX4_digest_144 : decode cX4_digest 144 = .ok (.aload_n 0, 1) := by decide +kernel
theorem dX4_digest_145 : decode cX4_digest 145 = .ok (.invokevirtual 192, 3) := by decide +kernel
theorem dX4_digest_148 : decode cX4_digest 148 = .ok (.i2l, 1) := by decide +kernel
theorem dX4_digest_149 : decode cX4_digest 149 = .ok (.invokevirtual 213, 3) := by decide +kernel
theorem dX4_digest_152 : decode cX4_digest 152 = .ok (.aload_n 0, 1) := by decide +kernel
theorem dX4_digest_153 : decode cX4_digest 153 = .ok (.aload_n 0, 1) := by decide +kernel
theorem dX4_digest_154 : decode cX4_digest 154 = .ok (.invokevirtual 195, 3) := by decide +kernel
theorem dX4_digest_157 : decode cX4_digest 157 = .ok (.invokestatic 222, 3) := by decide +kernel
theorem dX4_digest_160 : decode cX4_digest 160 = .ok (.invokevirtual 213, 3) := by decide +kernel
theorem dX4_digest_163 : decode cX4_digest 163 = .ok (.aload_n 0, 1) := by decide +kernel
theorem dX4_digest_164 : decode cX4_digest 164 = .ok (.aload_n 0, 1) := by decide +kernel
theorem dX4_digest_165 : decode cX4_digest 165 = .ok (.getfield 153, 3) := by decide +kernel
theorem dX4_digest_168 : decode cX4_digest 168 = .ok (.i2l, 1) := by decide +kernel
theorem dX4_digest_169 : decode cX4_digest 169 = .ok (.invokevirtual 213, 3) := by decide +kernel
theorem dX4_digest_172 : decode cX4_digest 172 = .ok (.iconst 0, 1) := by decide +kernel
theorem dX4_digest_173 : decode cX4_digest 173 = .ok (.istore_n 1, 1) := by decide +kernel
theorem dX4_digest_174 : decode cX4_digest 174 = .ok (.iload_n 1, 1) := by decide +kernel
theorem dX4_digest_175 : decode cX4_digest 175 = .ok (.aload_n 0, 1) := by decide +kernel
theorem dX4_digest_176 : decode cX4_digest 176 = .ok (.getfield 153, 3) := by decide +kernel
theorem dX4_digest_179 : decode cX4_digest 179 = .ok (.if_icmp .ge 20, 3) := by decide +kernel
theorem dX4_digest_182 : decode cX4_digest 182 = .ok (.aload_n 0, 1) := by decide +kernel
theorem dX4_digest_183 : decode cX4_digest 183 = .ok (.aload_n 0, 1) := by decide +kernel
theorem dX4_digest_184 : decode cX4_digest 184 = .ok (.getfield 19, 3) := by decide +kernel
theorem dX4_digest_187 : decode cX4_digest 187 = .ok (.iload_n 1, 1) := by decide +kernel
theorem dX4_digest_188 : decode cX4_digest 188 = .ok (.iaload, 1) := by decide +kernel
theorem dX4_digest_189 : decode cX4_digest 189 = .ok (.i2l, 1) := by decide +kernel
theorem dX4_digest_190 : decode cX4_digest 190 = .ok (.invokevirtual 213, 3) := by decide +kernel
theorem dX4_digest_193 : decode cX4_digest 193 = .ok (.iinc 1 1, 3) := by decide +kernel
theorem dX4_digest_196 : decode cX4_digest 196 = .ok (.goto (-22), 3) := by decide +kernel
theorem dX4_digest_199 : decode cX4_digest 199 = .ok (.aload_n 0, 1) := by decide +kernel
theorem dX4_digest_200 : decode cX4_digest 200 = .ok (.getfield 209, 3) := by decide +kernel
theorem dX4_digest_203 : decode cX4_digest 203 = .ok (.lreturn, 1) := by decide +kernel
theorem dJ9_max_7cf53_0 : decode cJ9_max_7cf53 0 = .ok (.iload_n 0, 1) := by decide +kernel
theorem dJ9_max_7cf53_1 : decode cJ9_max_7cf53 1 = .ok (.iload_n 1, 1) := by decide +kernel
theorem dJ9_max_7cf53_2 : decode cJ9_max_7cf53 2 = .ok (.if_icmp .lt 7, 3) := by decide +kernel
theorem dJ9_max_7cf53_5 : decode cJ9_max_7cf53 5 = .ok (.iload_n 0, 1) := by decide +kernel
theorem dJ9_max_7cf53_6 : decode cJ9_max_7cf53 6 = .ok (.goto 4, 3) := by decide +kernel
theorem dJ9_max_7cf53_9 : decode cJ9_max_7cf53 9 = .ok (.iload_n 1, 1) := by decide +kernel
theorem dJ9_max_7cf53_10 : decode cJ9_max_7cf53 10 = .ok (.ireturn, 1) := by decide +kernel
theorem dJ9_min_7cf53_0 : decode cJ9_min_7cf53 0 = .ok (.iload_n 0, 1) := by decide +kernel
theorem dJ9_min_7cf53_1 : decode cJ9_min_7cf53 1 = .ok (.iload_n 1, 1) := by decide +kernel
theorem dJ9_min_7cf53_2 : decode cJ9_min_7cf53 2 = .ok (.if_icmp .gt 7, 3) := by decide +kernel
theorem dJ9_min_7cf53_5 : decode cJ9_min_7cf53 5 = .ok (.iload_n 0, 1) := by decide +kernel
theorem dJ9_min_7cf53_6 : decode cJ9_min_7cf53 6 = .ok (.goto 4, 3) := by decide +kernel
theorem dJ9_min_7cf53_9 : decode cJ9_min_7cf53 9 = .ok (.iload_n 1, 1) := by decide +kernel
theorem dJ9_min_7cf53_10 : decode cJ9_min_7cf53 10 = .ok (.ireturn, 1) := by decide +kernel
