abbrev vwCl : List vw_C := [(RX0, TX0, 2), (RX1, TX1, 3), (RX2, TX2, 16), (RX3, TX3, 7)]
theorem dX0_init_0 : decode cX0_init 0 = .ok (.aload_n 0, 1) := by decide +kernel
theorem dX0_init_1 : decode cX0_init 1 = .ok (.invokespecial 1, 3) := by decide +kernel
theorem dX0_init_4 : decode cX0_init 4 = .ok (.aload_n 0, 1) := by decide +kernel
theorem dX0_init_5 : decode cX0_init 5 = .ok (.bipush 60, 2) := by decide +kernel
theorem dX0_init_7 : decode cX0_init 7 = .ok (.newarray .int, 2) := by decide +kernel
theorem dX0_init_9 : decode cX0_init 9 = .ok (.putfield 9, 3) := by decide +kernel
theorem dX0_init_12 : decode cX0_init 12 = .ok (.return_, 1) := by decide +kernel
theorem dX1_init_0 : decode cX1_init 0 = .ok (.aload_n 0, 1) := by decide +kernel
theorem dX1_init_1 : decode cX1_init 1 = .ok (.invokespecial 1, 3) := by decide +kernel
theorem dX1_init_4 : decode cX1_init 4 = .ok (.aload_n 0, 1) := by decide +kernel
theorem dX1_init_5 : decode cX1_init 5 = .ok (.bipush 6, 2) := by decide +kernel
theorem dX1_init_7 : decode cX1_init 7 = .ok (.anewarray 9, 3) := by decide +kernel
theorem dX1_init_10 : decode cX1_init 10 = .ok (.putfield 11, 3) := by decide +kernel
theorem dX1_init_13 : decode cX1_init 13 = .ok (.aload_n 0, 1) := by decide +kernel
theorem dX1_init_14 : decode cX1_init 14 = .ok (.iconst 5, 1) := by decide +kernel
theorem dX1_init_15 : decode cX1_init 15 = .ok (.putfield 15, 3) := by decide +kernel
theorem dX1_init_18 : decode cX1_init 18 = .ok (.iconst 0, 1) := by decide +kernel
theorem dX1_init_19 : decode cX1_init 19 = .ok (.istore_n 1, 1) := by decide +kernel
theorem dX1_init_20 : decode cX1_init 20 = .ok (.iload_n 1, 1) := by decide +kernel
theorem dX1_init_21 : decode cX1_init 21 = .ok (.bipush 6, 2) := by decide +kernel
theorem dX1_init_23 : decode cX1_init 23 = .ok (.if_icmp .ge 22, 3) := by decide +kernel
theorem dX1_init_26 : decode cX1_init 26 = .ok (.aload_n 0, 1) := by decide +kernel
theorem dX1_init_27 : decode cX1_init 27 = .ok (.getfield 11, 3) := by decide +kernel
theorem dX1_init_30 : decode cX1_init 30 = .ok (.iload_n 1, 1) := by decide +kernel
theorem dX1_init_31 : decode cX1_init 31 = .ok (.new 9, 3) := by decide +kernel
theorem dX1_init_34 : decode cX1_init 34 = .ok (.dup, 1) := by decide +kernel
theorem dX1_init_35 : decode cX1_init 35 = .ok (.invokespecial 19, 3) := by decide +kernel
theorem dX1_init_38 : decode cX1_init 38 = .ok (.aastore, 1) := by decide +kernel
theorem dX1_init_39 : decode cX1_init 39 = .ok (.iinc 1 1, 3) := by decide +kernel
theorem dX1_init_42 : decode cX1_init 42 = .ok (.goto (-22), 3) := by decide +kernel
theorem dX1_init_45 : decode cX1_init 45 = .ok (.return_, 1) := by decide +kernel
theorem dX1_save_0 : decode cX1_save 0 = .ok (.aload_n 0, 1) := by decide +kernel
theorem dX1_save_1 : decode cX1_save 1 = .ok (.aload_n 0, 1) := by decide +kernel
theorem dX1_save_2 : decode cX1_save 2 = .ok (.getfield 15, 3) := by decide +kernel
theorem dX1_save_5 : decode cX1_save 5 = .ok (.iconst 1, 1) := by decide +kernel
theorem dX1_save_6 : decode cX1_save 6 = .ok (.iadd, 1) := by decide +kernel
theorem dX1_save_7 : decode cX1_save 7 = .ok (.bipush 6, 2) := by decide +kernel
theorem dX1_save_9 : decode cX1_save 9 = .ok (.irem, 1) := by decide +kernel
theorem dX1_save_10 : decode cX1_save 10 = .ok (.putfield 15, 3) := by decide +kernel
theorem dX1_save_13 : decode cX1_save 13 = .ok (.aload_n 0, 1) := by decide +kernel
theorem dX1_save_14 : decode cX1_save 14 = .ok (.getfield 11, 3) := by decide +kernel
theorem dX1_save_17 : decode cX1_save 17 = .ok (.aload_n 0, 1) := by decide +kernel
theorem dX1_save_18 : decode cX1_save 18 = .ok (.getfield 15, 3) := by decide +kernel
theorem dX1_save_21 : decode cX1_save 21 = .ok (.aaload, 1) := by decide +kernel
theorem dX1_save_22 : decode cX1_save 22 = .ok (.aload_n 1, 1) := by decide +kernel
theorem dX1_save_23 : decode cX1_save 23 = .ok (.invokevirtual 20, 3) := by decide +kernel
theorem dX1_save_26 : decode cX1_save 26 = .ok (.aload_n 0, 1) := by decide +kernel
theorem dX1_save_27 : decode cX1_save 27 = .ok (.aload_n 0, 1) := by decide +kernel
theorem dX1_save_28 : decode cX1_save 28 = .ok (.getfield 24, 3) := by decide +kernel
theorem dX1_save_31 : decode cX1_save 31 = .ok (.iconst 1, 1) := by decide +kernel
theorem dX1_save_32 : decode cX1_save 32 = .ok (.iadd, 1) := by decide +kernel
theorem dX1_save_33 : decode cX1_save 33 = .ok (.bipush 6, 2) := by decide +kernel
theorem dX1_save_35 : decode cX1_save 35 = .ok (.invokestatic 27, 3) := by decide +kernel
theorem dX1_save_38 : decode cX1_save 38 = .ok (.putfield 24, 3) := by decide +kernel
theorem dX1_save_41 : decode cX1_save 41 = .ok (.return_, 1) := by decide +kernel
theorem dX2_init_0 : decode cX2_init 0 = .ok (.aload_n 0, 1) := by decide +kernel
theorem dX2_init_1 : decode cX2_init 1 = .ok (.invokespecial 3, 3) := by decide +kernel
theorem dX2_init_4 : decode cX2_init 4 = .ok (.aload_n 0, 1) := by decide +kernel
theorem dX2_init_5 : decode cX2_init 5 = .ok (.bipush 9, 2) := by decide +kernel
theorem dX2_init_7 : decode cX2_init 7 = .ok (.newarray .int, 2) := by decide +kernel
theorem dX2_init_9 : decode cX2_init 9 = .ok (.putfield 9, 3) := by decide +kernel
theorem dX2_init_12 : decode cX2_init 12 = .ok (.aload_n 0, 1) := by decide +kernel
theorem dX2_init_13 : decode cX2_init 13 = .ok (.bipush 8, 2) := by decide +kernel
theorem dX2_init_15 : decode cX2_init 15 = .ok (.newarray .int, 2) := by decide +kernel
theorem dX2_init_17 : decode cX2_init 17 = .ok (.putfield 15, 3) := by decide +kernel
theorem dX2_init_20 : decode cX2_init 20 = .ok (.aload_n 0, 1) := by decide +kernel
theorem dX2_init_21 : decode cX2_init 21 = .ok (.bipush 8, 2) := by decide +kernel
theorem dX2_init_23 : decode cX2_init 23 = .ok (.newarray .int, 2) := by decide +kernel
theorem dX2_init_25 : decode cX2_init 25 = .ok (.putfield 18, 3) := by decide +kernel
theorem dX2_init_28 : decode cX2_init 28 = .ok (.aload_n 0, 1) := by decide +kernel
theorem dX2_init_29 : decode cX2_init 29 = .ok (.bipush 8, 2) := by decide +kernel
theorem dX2_init_31 : decode cX2_init 31 = .ok (.newarray .boolean, 2) := by decide +kernel
theorem dX2_init_33 : decode cX2_init 33 = .ok (.putfield 21, 3) := by decide +kernel
theorem dX2_init_36 : decode cX2_init 36 = .ok (.aload_n 0, 1) := by decide +kernel
theorem dX2_init_37 : decode cX2_init 37 = .ok (.bipush 8, 2) := by decide +kernel
theorem dX2_init_39 : decode cX2_init 39 = .ok (.newarray .int, 2) := by decide +kernel
theorem dX2_init_41 : decode cX2_init 41 = .ok (.putfield 25, 3) := by decide +kernel
theorem dX2_init_44 : decode cX2_init 44 = .ok (.aload_n 0, 1) := by decide +kernel
theorem dX2_init_45 : decode cX2_init 45 = .ok (.bipush 8, 2) := by decide +kernel
theorem dX2_init_47 : decode cX2_init 47 = .ok (.newarray .int, 2) := by decide +kernel
theorem dX2_init_49 : decode cX2_init 49 = .ok (.putfield 28, 3) := by decide +kernel
theorem dX2_init_52 : decode cX2_init 52 = .ok (.aload_n 0, 1) := by decide +kernel
theorem dX2_init_53 : decode cX2_init 53 = .ok (.bipush 8, 2) := by decide +kernel
theorem dX2_init_55 : decode cX2_init 55 = .ok (.newarray .int, 2) := by decide +kernel
theorem dX2_init_57 : decode cX2_init 57 = .ok (.putfield 31, 3) := by decide +kernel
theorem dX2_init_60 : decode cX2_init 60 = .ok (.aload_n 0, 1) := by decide +kernel
theorem dX2_init_61 : decode cX2_init 61 = .ok (.bipush 8, 2) := by decide +kernel
theorem dX2_init_63 : decode cX2_init 63 = .ok (.newarray .boolean, 2) := by decide +kernel
theorem dX2_init_65 : decode cX2_init 65 = .ok (.putfield 34, 3) := by decide +kernel
theorem dX2_init_68 : decode cX2_init 68 = .ok (.aload_n 0, 1) := by decide +kernel
theorem dX2_init_69 : decode cX2_init 69 = .ok (.bipush 8, 2) := by decide +kernel
theorem dX2_init_71 : decode cX2_init 71 = .ok (.newarray .int, 2) := by decide +kernel
theorem dX2_init_73 : decode cX2_init 73 = .ok (.putfield 37, 3) := by decide +kernel
theorem dX2_init_76 : decode cX2_init 76 = .ok (.aload_n 0, 1) := by decide +kernel
theorem dX2_init_77 : decode cX2_init 77 = .ok (.bipush 8, 2) := by decide +kernel
theorem dX2_init_79 : decode cX2_init 79 = .ok (.newarray .int, 2) := by decide +kernel
theorem dX2_init_81 : decode cX2_init 81 = .ok (.putfield 40, 3) := by decide +kernel
theorem dX2_init_84 : decode cX2_init 84 = .ok (.aload_n 0, 1) := by decide +kernel
theorem dX2_init_85 : decode cX2_init 85 = .ok (.bipush 8, 2) := by decide +kernel
theorem dX2_init_87 : decode cX2_init 87 = .ok (.newarray .int, 2) := by decide +kernel
theorem dX2_init_89 : decode cX2_init 89 = .ok (.putfield 43, 3) := by decide +kernel
theorem dX2_init_92 : decode cX2_init 92 = .ok (.aload_n 0, 1) := by decide +kernel
theorem dX2_init_93 : decode cX2_init 93 = .ok (.bipush 8, 2) := by decide +kernel
theorem dX2_init_95 : decode cX2_init 95 = .ok (.newarray .int, 2) := by decide +kernel
theorem dX2_init_97 : decode cX2_init 97 = .ok (.putfield 46, 3) := by decide +kernel
theorem dX2_init_100 : decode cX2_init 100 = .ok (.aload_n 0, 1) := by decide +kernel
theorem dX2_init_101 : decode cX2_init 101 = .ok (.bipush 8, 2) := by decide +kernel
theorem dX2_init_103 : decode cX2_init 103 = .ok (.newarray .int, 2) := by decide +kernel
theorem dX2_init_105 : decode cX2_init 105 = .ok (.putfield 49, 3) := by decide +kernel
theorem dX2_init_108 : decode cX2_init 108 = .ok (.aload_n 0, 1) := by decide +kernel
theorem dX2_init_109 : decode cX2_init 109 = .ok (.bipush 7, 2) := by decide +kernel
theorem dX2_init_111 : decode cX2_init 111 = .ok (.newarray .int, 2) := by decide +kernel
theorem dX2_init_113 : decode cX2_init 113 = .ok (.putfield 52, 3) := by decide +kernel
theorem dX2_init_116 : decode cX2_init 116 = .ok (.getstatic 55, 3) := by decide +kernel
theorem dX2_init_119 : decode cX2_init 119 = .ok (.iconst 0, 1) := by decide +kernel
theorem dX2_init_120 : decode cX2_init 120 = .ok (.aload_n 0, 1) := by decide +kernel
theorem dX2_init_121 : decode cX2_init 121 = .ok (.getfield 9, 3) := by decide +kernel
theorem dX2_init_124 : decode cX2_init 124 = .ok (.iconst 0, 1) := by decide +kernel
theorem dX2_init_125 : decode cX2_init 125 = .ok (.bipush 9, 2) := by decide +kernel
theorem dX2_init_127 : decode cX2_init 127 = .ok (.invokestatic 58, 3) := by decide +kernel
theorem dX2_init_130 : decode cX2_init 130 = .ok (.return_, 1) := by decide +kernel
theorem dX2_copyFrom_0 : decode cX2_copyFrom 0 = .ok (.aload_n 0, 1) := by decide +kernel
theorem dX2_copyFrom_1 : decode cX2_copyFrom 1 = .ok (.aload_n 1, 1) := by decide +kernel
theorem dX2_copyFrom_2 : decode cX2_copyFrom 2 = .ok (.getfield 64, 3) := by decide +kernel
theorem dX2_copyFrom_5 : decode cX2_copyFrom 5 = .ok (.putfield 64, 3) := by decide +kernel
theorem dX2_copyFrom_8 : decode cX2_copyFrom 8 = .ok (.aload_n 1, 1) := by decide +kernel
theorem dX2_copyFrom_9 : decode cX2_copyFrom 9 = .ok (.getfield 9, 3) := by decide +kernel
theorem dX2_copyFrom_12 : decode cX2_copyFrom 12 = .ok (.iconst 0, 1) := by decide +kernel
theorem dX2_copyFrom_13 : decode cX2_copyFrom 13 = .ok (.aload_n 0, 1) := by decide +kernel
theorem dX2_copyFrom_14 : decode cX2_copyFrom 14 = .ok (.getfield 9, 3) := by decide +kernel
theorem dX2_copyFrom_17 : decode cX2_copyFrom 17 = .ok (.iconst 0, 1) := by decide +kernel
theorem dX2_copyFrom_18 : decode cX2_copyFrom 18 = .ok (.bipush 9, 2) := by decide +kernel
theorem dX2_copyFrom_20 : decode cX2_copyFrom 20 = .ok (.invokestatic 58, 3) := by decide +kernel
theorem dX2_copyFrom_23 : decode cX2_copyFrom 23 = .ok (.aload_n 1, 1) := by decide +kernel
theorem dX2_copyFrom_24 : decode cX2_copyFrom 24 = .ok (.getfield 15, 3) := by decide +kernel
theorem dX2_copyFrom_27 : decode cX2_copyFrom 27 = .ok (.iconst 0, 1) := by decide +kernel
theorem dX2_copyFrom_28 : decode cX2_copyFrom 28 = .ok (.aload_n 0, 1) := by decide +kernel
theorem dX2_copyFrom_29 : decode cX2_copyFrom 29 = .ok (.getfield 15, 3) := by decide +kernel
theorem dX2_copyFrom_32 : decode cX2_copyFrom 32 = .ok (.iconst 0, 1) := by decide +kernel
theorem dX2_copyFrom_33 : decode cX2_copyFrom 33 = .ok (.bipush 8, 2) := by decide +kernel
theorem dX2_copyFrom_35 : decode cX2_copyFrom 35 = .ok (.invokestatic 58, 3) := by decide +kernel
theorem dX2_copyFrom_38 : decode cX2_copyFrom 38 = .ok (.aload_n 1, 1) := by decide +kernel
theorem dX2_copyFrom_39 : decode cX2_copyFrom 39 = .ok (.getfield 18, 3) := by decide +kernel
theorem dX2_copyFrom_42 : decode cX2_copyFrom 42 = .ok (.iconst 0, 1) := by decide +kernel
theorem dX2_copyFrom_43 : decode cX2_copyFrom 43 = .ok (.aload_n 0, 1) := by decide +kernel
theorem dX2_copyFrom_44 : decode cX2_copyFrom 44 = .ok (.getfield 18, 3) := by decide +kernel
theorem dX2_copyFrom_47 : decode cX2_copyFrom 47 = .ok (.iconst 0, 1) := by decide +kernel
theorem dX2_copyFrom_48 : decode cX2_copyFrom 48 = .ok (.bipush 8, 2) := by decide +kernel
theorem dX2_copyFrom_50 : decode cX2_copyFrom 50 = .ok (.invokestatic 58, 3) := by decide +kernel
theorem dX2_copyFrom_53 : decode cX2_copyFrom 53 = .ok (.aload_n 1, 1) := by decide +kernel
theorem dX2_copyFrom_54 : decode cX2_copyFrom 54 = .ok (.getfield 21, 3) := by decide +kernel
theorem dX2_copyFrom_57 : decode cX2_copyFrom 57 = .ok (.iconst 0, 1) := by decide +kernel
theorem dX2_copyFrom_58 : decode cX2_copyFrom 58 = .ok (.aload_n 0, 1) := by decide +kernel
theorem dX2_copyFrom_59 : decode cX2_copyFrom 59 = .ok (.getfield 21, 3) := by decide +kernel
theorem dX2_copyFrom_62 : decode cX2_copyFrom 62 = .ok (.iconst 0, 1) := by decide +kernel
theorem dX2_copyFrom_63 : decode cX2_copyFrom 63 = .ok (.bipush 8, 2) := by decide +kernel
theorem dX2_copyFrom_65 : decode cX2_copyFrom 65 = .ok (.invokestatic 58, 3) := by decide +kernel
theorem dX2_copyFrom_68 : decode cX2_copyFrom 68 = .ok (.aload_n 1, 1) := by decide +kernel
theorem dX2_copyFrom_69 : decode cX2_copyFrom 69 = .ok (.getfield 25, 3) := by decide +kernel
theorem dX2_copyFrom_72 : decode cX2_copyFrom 72 = .ok (.iconst 0, 1) := by decide +kernel
theorem dX2_copyFrom_73 : decode cX2_copyFrom 73 = .ok (.aload_n 0, 1) := by decide +kernel
theorem dX2_copyFrom_74 : decode cX2_copyFrom 74 = .ok (.getfield 25, 3) := by decide +kernel
theorem dX2_copyFrom_77 : decode cX2_copyFrom 77 = .ok (.iconst 0, 1) := by decide +kernel
theorem dX2_copyFrom_78 : decode cX2_copyFrom 78 = .ok (.bipush 8, 2) := by decide +kernel
theorem dX2_copyFrom_80 : decode cX2_copyFrom 80 = .ok (.invokestatic 58, 3) := by decide +kernel
theorem dX2_copyFrom_83 : decode cX2_copyFrom 83 = .ok (.aload_n 1, 1) := by decide +kernel
theorem dX2_copyFrom_84 : decode cX2_copyFrom 84 = .ok (.getfield 28, 3) := by decide +kernel
theorem dX2_copyFrom_87 : decode cX2_copyFrom 87 = .ok (.iconst 0, 1) := by decide +kernel
theorem dX2_copyFrom_88 : decode cX2_copyFrom 88 = .ok (.aload_n 0, 1) := by decide +kernel
theorem dX2_copyFrom_89 : decode cX2_copyFrom 89 = .ok (.getfield 28, 3) := by decide +kernel
theorem dX2_copyFrom_92 : decode cX2_copyFrom 92 = .ok (.iconst 0, 1) := by decide +kernel
theorem dX2_copyFrom_93 : decode cX2_copyFrom 93 = .ok (.bipush 8, 2) := by decide +kernel
theorem dX2_copyFrom_95 : decode cX2_copyFrom 95 = .ok (.invokestatic 58, 3) := by decide +kernel
theorem dX2_copyFrom_98 : decode cX2_copyFrom 98 = .ok (.aload_n 1, 1) := by decide +kernel
theorem dX2_copyFrom_99 : decode cX2_copyFrom 99 = .ok (.getfield 31, 3) := by decide +kernel
theorem dX2_copyFrom_102 : decode cX2_copyFrom 102 = .ok (.iconst 0, 1) := by decide +kernel
theorem dX2_copyFrom_103 : decode cX2_copyFrom 103 = .ok (.aload_n 0, 1) := by decide +kernel
theorem dX2_copyFrom_104 : decode cX2_copyFrom 104 = .ok (.getfield 31, 3) := by decide +kernel
theorem dX2_copyFrom_107 : decode cX2_copyFrom 107 = .ok (.iconst 0, 1) := by decide +kernel
theorem dX2_copyFrom_108 : decode cX2_copyFrom 108 = .ok (.bipush 8, 2) := by decide +kernel
theorem dX2_copyFrom_110 : decode cX2_copyFrom 110 = .ok (.invokestatic 58, 3) := by decide +kernel
theorem dX2_copyFrom_113 : decode cX2_copyFrom 113 = .ok (.aload_n 1, 1) := by decide +kernel
theorem dX2_copyFrom_114 : decode cX2_copyFrom 114 = .ok (.getfield 34, 3) := by decide +kernel
theorem dX2_copyFrom_117 : decode cX2_copyFrom 117 = .ok (.iconst 0, 1) := by decide +kernel
theorem dX2_copyFrom_118 : decode cX2_copyFrom 118 = .ok (.aload_n 0, 1) := by decide +kernel
theorem dX2_copyFrom_119 : decode cX2_copyFrom 119 = .ok (.getfield 34, 3) := by decide +kernel
theorem dX2_copyFrom_122 : decode cX2_copyFrom 122 = .ok (.iconst 0, 1) := by decide +kernel
theorem dX2_copyFrom_123 : decode cX2_copyFrom 123 = .ok (.bipush 8, 2) := by decide +kernel
theorem dX2_copyFrom_125 : decode cX2_copyFrom 125 = .ok (.invokestatic 58, 3) := by decide +kernel
theorem dX2_copyFrom_128 : decode cX2_copyFrom 128 = .ok (.aload_n 1, 1) := by decide +kernel
theorem dX2_copyFrom_129 : decode cX2_copyFrom 129 = .ok (.getfield 37, 3) := by decide +kernel
theorem dX2_copyFrom_132 : decode cX2_copyFrom 132 = .ok (.iconst 0, 1) := by decide +kernel
theorem dX2_copyFrom_133 : decode cX2_copyFrom 133 = .ok (.aload_n 0, 1) := by decide +kernel
theorem dX2_copyFrom_134 : decode cX2_copyFrom 134 = .ok (.getfield 37, 3) := by decide +kernel
theorem dX2_copyFrom_137 : decode cX2_copyFrom 137 = .ok (.iconst 0, 1) := by decide +kernel
theorem dX2_copyFrom_138 : decode cX2_copyFrom 138 = .ok (.bipush 8, 2) := by decide +kernel
theorem dX2_copyFrom_140 : decode cX2_copyFrom 140 = .ok (.invokestatic 58, 3) := by decide +kernel
theorem dX2_copyFrom_143 : decode cX2_copyFrom 143 = .ok (.aload_n 1, 1) := by decide +kernel
theorem dX2_copyFrom_144 : decode cX2_copyFrom 144 = .ok (.getfield 40, 3) := by decide +kernel
theorem dX2_copyFrom_147 : decode cX2_copyFrom 147 = .ok (.iconst 0, 1) := by decide +kernel
theorem dX2_copyFrom_148 : decode cX2_copyFrom 148 = .ok (.aload_n 0, 1) := by decide +kernel
theorem dX2_copyFrom_149 : decode cX2_copyFrom 149 = .ok (.getfield 40, 3) := by decide +kernel
theorem dX2_copyFrom_152 : decode cX2_copyFrom 152 = .ok (.iconst 0, 1) := by decide +kernel
theorem dX2_copyFrom_153 : decode cX2_copyFrom 153 = .ok (.bipush 8, 2) := by decide +kernel
theorem dX2_copyFrom_155 : decode cX2_copyFrom 155 = .ok (.invokestatic 58, 3) := by decide +kernel
theorem dX2_copyFrom_158 : decode cX2_copyFrom 158 = .ok (.aload_n 1, 1) := by decide +kernel
theorem dX2_copyFrom_159 : decode cX2_copyFrom 159 = .ok (.getfield 43, 3) := by decide +kernel
theorem dX2_copyFrom_162 : decode cX2_copyFrom 162 = .ok (.iconst 0, 1) := by decide +kernel
theorem dX2_copyFrom_163 : decode cX2_copyFrom 163 = .ok (.aload_n 0, 1) := by decide +kernel
theorem dX2_copyFrom_164 : decode cX2_copyFrom 164 = .ok (.getfield 43, 3) := by decide +kernel
theorem dX2_copyFrom_167 : decode cX2_copyFrom 167 = .ok (.iconst 0, 1) := by decide +kernel
theorem dX2_copyFrom_168 : decode cX2_copyFrom 168 = .ok (.bipush 8, 2) := by decide +kernel
theorem dX2_copyFrom_170 : decode cX2_copyFrom 170 = .ok (.invokestatic 58, 3) := by decide +kernel
theorem dX2_copyFrom_173 : decode cX2_copyFrom 173 = .ok (.aload_n 1, 1) := by decide +kernel
theorem dX2_copyFrom_174 : decode cX2_copyFrom 174 = .ok (.getfield 46, 3) := by decide +kernel
theorem dX2_copyFrom_177 : decode cX2_copyFrom 177 = .ok (.iconst 0, 1) := by decide +kernel
theorem dX2_copyFrom_178 : decode cX2_copyFrom 178 = .ok (.aload_n 0, 1) := by decide +kernel
theorem dX2_copyFrom_179 : decode cX2_copyFrom 179 = .ok (.getfield 46, 3) := by decide +kernel
theorem dX2_copyFrom_182 : decode cX2_copyFrom 182 = .ok (.iconst 0, 1) := by decide +kernel
theorem dX2_copyFrom_183 : decode cX2_copyFrom 183 = .ok (.bipush 8, 2) := by decide +kernel
theorem dX2_copyFrom_185 : decode cX2_copyFrom 185 = .ok (.invokestatic 58, 3) := by decide +kernel
theorem dX2_copyFrom_188 : decode cX2_copyFrom 188 = .ok (.aload_n 1, 1) := by decide +kernel
theorem dX2_copyFrom_189 : decode cX2_copyFrom 189 = .ok (.getfield 49, 3) := by decide +kernel
theorem dX2_copyFrom_192 : decode cX2_copyFrom 192 = .ok (.iconst 0, 1) := by decide +kernel
theorem dX2_copyFrom_193 : decode cX2_copyFrom 193 = .ok (.aload_n 0, 1) := by decide +kernel
theorem dX2_copyFrom_194 : decode cX2_copyFrom 194 = .ok (.getfield 49, 3) := by decide +kernel
theorem dX2_copyFrom_197 : decode cX2_copyFrom 197 = .ok (.iconst 0, 1) := by decide +kernel
theorem dX2_copyFrom_198 : decode cX2_copyFrom 198 = .ok (.bipush 8, 2) := by decide +kernel
theorem dX2_copyFrom_200 : decode cX2_copyFrom 200 = .ok (.invokestatic 58, 3) := by decide +kernel
theorem dX2_copyFrom_203 : decode cX2_copyFrom 203 = .ok (.aload_n 0, 1) := by decide +kernel
theorem dX2_copyFrom_204 : decode cX2_copyFrom 204 = .ok (.aload_n 1, 1) := by decide +kernel
theorem dX2_copyFrom_205 : decode cX2_copyFrom 205 = .ok (.getfield 68, 3) := by decide +kernel
theorem dX2_copyFrom_208 : decode cX2_copyFrom 208 = .ok (.putfield 68, 3) := by decide +kernel
theorem dX2_copyFrom_211 : decode cX2_copyFrom 211 = .ok (.aload_n 1, 1) := by decide +kernel
theorem dX2_copyFrom_212 : decode cX2_copyFrom 212 = .ok (.getfield 52, 3) := by decide +kernel
theorem dX2_copyFrom_215 : decode cX2_copyFrom 215 = .ok (.iconst 0, 1) := by decide +kernel
theorem dX2_copyFrom_216 : decode cX2_copyFrom 216 = .ok (.aload_n 0, 1) := by decide +kernel
theorem dX2_copyFrom_217 : decode cX2_copyFrom 217 = .ok (.getfield 52, 3) := by decide +kernel
theorem dX2_copyFrom_220 : decode cX2_copyFrom 220 = .ok (.iconst 0, 1) := by decide +kernel
theorem dX2_copyFrom_221 : decode cX2_copyFrom 221 = .ok (.bipush 7, 2) := by decide +kernel
theorem dX2_copyFrom_223 : decode cX2_copyFrom 223 = .ok (.invokestatic 58, 3) := by decide +kernel
theorem dX2_copyFrom_226 : decode cX2_copyFrom 226 = .ok (.return_, 1) := by decide +kernel
theorem dX2_isEmpty_0 : decode cX2_isEmpty 0 = .ok (.aload_n 0, 1) := by decide +kernel
theorem dX2_isEmpty_1 : decode cX2_isEmpty 1 = .ok (.getfield 15, 3) := by decide +kernel
theorem dX2_isEmpty_4 : decode cX2_isEmpty 4 = .ok (.iload_n 1, 1) := by decide +kernel
theorem dX2_isEmpty_5 : decode cX2_isEmpty 5 = .ok (.iaload, 1) := by decide +kernel
theorem dX2_isEmpty_6 : decode cX2_isEmpty 6 = .ok (.ifCond .ne 7, 3) := by decide +kernel
theorem dX2_isEmpty_9 : decode cX2_isEmpty 9 = .ok (.iconst 1, 1) := by decide +kernel
theorem dX2_isEmpty_10 : decode cX2_isEmpty 10 = .ok (.goto 4, 3) := by decide +kernel
theorem dX2_isEmpty_13 : decode cX2_isEmpty 13 = .ok (.iconst 0, 1) := by decide +kernel
theorem dX2_isEmpty_14 : decode cX2_isEmpty 14 = .ok (.ireturn, 1) := by decide +kernel
theorem dX2_borrower_0 : decode cX2_borrower 0 = .ok (.aload_n 0, 1) := by decide +kernel
theorem dX2_borrower_1 : decode cX2_borrower 1 = .ok (.getfield 15, 3) := by decide +kernel
theorem dX2_borrower_4 : decode cX2_borrower 4 = .ok (.iload_n 1, 1) := by decide +kernel
theorem dX2_borrower_5 : decode cX2_borrower 5 = .ok (.iaload, 1) := by decide +kernel
theorem dX2_borrower_6 : decode cX2_borrower 6 = .ok (.iconst 2, 1) := by decide +kernel
theorem dX2_borrower_7 : decode cX2_borrower 7 = .ok (.if_icmp .ne 12, 3) := by decide +kernel
theorem dX2_borrower_10 : decode cX2_borrower 10 = .ok (.aload_n 0, 1) := by decide +kernel
theorem dX2_borrower_11 : decode cX2_borrower 11 = .ok (.getfield 18, 3) := by decide +kernel
theorem dX2_borrower_14 : decode cX2_borrower 14 = .ok (.iload_n 1, 1) := by decide +kernel
theorem dX2_borrower_15 : decode cX2_borrower 15 = .ok (.iaload, 1) := by decide +kernel
theorem dX2_borrower_16 : decode cX2_borrower 16 = .ok (.goto 4, 3) := by decide +kernel
theorem dX2_borrower_19 : decode cX2_borrower 19 = .ok (.iconst (-1), 1) := by decide +kernel
theorem dX2_borrower_20 : decode cX2_borrower 20 = .ok (.ireturn, 1) := by decide +kernel
theorem dX2_standingSo_0 : decode cX2_standingSo 0 = .ok (.iconst 0, 1) := by decide +kernel
theorem dX2_standingSo_1 : decode cX2_standingSo 1 = .ok (.istore_n 2, 1) := by decide +kernel
theorem dX2_standingSo_2 : decode cX2_standingSo 2 = .ok (.iconst 0, 1) := by decide +kernel
theorem dX2_standingSo_3 : decode cX2_standingSo 3 = .ok (.istore_n 3, 1) := by decide +kernel
theorem dX2_standingSo_4 : decode cX2_standingSo 4 = .ok (.iload_n 3, 1) := by decide +kernel
theorem dX2_standingSo_5 : decode cX2_standingSo 5 = .ok (.bipush 8, 2) := by decide +kernel
theorem dX2_standingSo_7 : decode cX2_standingSo 7 = .ok (.if_icmp .ge 22, 3) := by decide +kernel
theorem dX2_standingSo_10 : decode cX2_standingSo 10 = .ok (.aload_n 0, 1) := by decide +kernel
theorem dX2_standingSo_11 : decode cX2_standingSo 11 = .ok (.getfield 15, 3) := by decide +kernel
theorem dX2_standingSo_14 : decode cX2_standingSo 14 = .ok (.iload_n 3, 1) := by decide +kernel
theorem dX2_standingSo_15 : decode cX2_standingSo 15 = .ok (.iaload, 1) := by decide +kernel
theorem dX2_standingSo_16 : decode cX2_standingSo 16 = .ok (.iload_n 1, 1) := by decide +kernel
theorem dX2_standingSo_17 : decode cX2_standingSo 17 = .ok (.if_icmp .ne 6, 3) := by decide +kernel
theorem dX2_standingSo_20 : decode cX2_standingSo 20 = .ok (.iinc 2 1, 3) := by decide +kernel
theorem dX2_standingSo_23 : decode cX2_standingSo 23 = .ok (.iinc 3 1, 3) := by decide +kernel
theorem dX2_standingSo_26 : decode cX2_standingSo 26 = .ok (.goto (-22), 3) := by decide +kernel
theorem dX2_standingSo_29 : decode cX2_standingSo 29 = .ok (.iload_n 2, 1) := by decide +kernel
theorem dX2_standingSo_30 : decode cX2_standingSo 30 = .ok (.ireturn, 1) := by decide +kernel
theorem dX2_connections_0 : decode cX2_connections 0 = .ok (.bipush 8, 2) := by decide +kernel
theorem dX2_connections_2 : decode cX2_connections 2 = .ok (.aload_n 0, 1) := by decide +kernel
theorem dX2_connections_3 : decode cX2_connections 3 = .ok (.iconst 0, 1) := by decide +kernel
theorem dX2_connections_4 : decode cX2_connections 4 = .ok (.invokevirtual 71, 3) := by decide +kernel
theorem dX2_connections_7 : decode cX2_connections 7 = .ok (.isub, 1) := by decide +kernel
theorem dX2_connections_8 : decode cX2_connections 8 = .ok (.ireturn, 1) := by decide +kernel
theorem dX2_sickCount_0 : decode cX2_sickCount 0 = .ok (.iconst 0, 1) := by decide +kernel
theorem dX2_sickCount_1 : decode cX2_sickCount 1 = .ok (.istore_n 1, 1) := by decide +kernel
theorem dX2_sickCount_2 : decode cX2_sickCount 2 = .ok (.iconst 0, 1) := by decide +kernel
theorem dX2_sickCount_3 : decode cX2_sickCount 3 = .ok (.istore_n 2, 1) := by decide +kernel
theorem dX2_sickCount_4 : decode cX2_sickCount 4 = .ok (.iload_n 2, 1) := by decide +kernel
theorem dX2_sickCount_5 : decode cX2_sickCount 5 = .ok (.bipush 8, 2) := by decide +kernel
theorem dX2_sickCount_7 : decode cX2_sickCount 7 = .ok (.if_icmp .ge 21, 3) := by decide +kernel
theorem dX2_sickCount_10 : decode cX2_sickCount 10 = .ok (.aload_n 0, 1) := by decide +kernel
theorem dX2_sickCount_11 : decode cX2_sickCount 11 = .ok (.getfield 21, 3) := by decide +kernel
theorem dX2_sickCount_14 : decode cX2_sickCount 14 = .ok (.iload_n 2, 1) := by decide +kernel
theorem dX2_sickCount_15 : decode cX2_sickCount 15 = .ok (.baload, 1) := by decide +kernel
theorem dX2_sickCount_16 : decode cX2_sickCount 16 = .ok (.ifCond .eq 6, 3) := by decide +kernel
theorem dX2_sickCount_19 : decode cX2_sickCount 19 = .ok (.iinc 1 1, 3) := by decide +kernel
theorem dX2_sickCount_22 : decode cX2_sickCount 22 = .ok (.iinc 2 1, 3) := by decide +kernel
theorem dX2_sickCount_25 : decode cX2_sickCount 25 = .ok (.goto (-21), 3) := by decide +kernel
theorem dX2_sickCount_28 : decode cX2_sickCount 28 = .ok (.iload_n 1, 1) := by decide +kernel
theorem dX2_sickCount_29 : decode cX2_sickCount 29 = .ok (.ireturn, 1) := by decide +kernel
theorem dX2_lentCount_0 : decode cX2_lentCount 0 = .ok (.iconst 0, 1) := by decide +kernel
theorem dX2_lentCount_1 : decode cX2_lentCount 1 = .ok (.istore_n 2, 1) := by decide +kernel
theorem dX2_lentCount_2 : decode cX2_lentCount 2 = .ok (.iconst 0, 1) := by decide +kernel
theorem dX2_lentCount_3 : decode cX2_lentCount 3 = .ok (.istore_n 3, 1) := by decide +kernel
theorem dX2_lentCount_4 : decode cX2_lentCount 4 = .ok (.iload_n 3, 1) := by decide +kernel
theorem dX2_lentCount_5 : decode cX2_lentCount 5 = .ok (.bipush 8, 2) := by decide +kernel
theorem dX2_lentCount_7 : decode cX2_lentCount 7 = .ok (.if_icmp .ge 32, 3) := by decide +kernel
theorem dX2_lentCount_10 : decode cX2_lentCount 10 = .ok (.aload_n 0, 1) := by decide +kernel
theorem dX2_lentCount_11 : decode cX2_lentCount 11 = .ok (.getfield 15, 3) := by decide +kernel
theorem dX2_lentCount_14 : decode cX2_lentCount 14 = .ok (.iload_n 3, 1) := by decide +kernel
theorem dX2_lentCount_15 : decode cX2_lentCount 15 = .ok (.iaload, 1) := by decide +kernel
theorem dX2_lentCount_16 : decode cX2_lentCount 16 = .ok (.iconst 2, 1) := by decide +kernel
theorem dX2_lentCount_17 : decode cX2_lentCount 17 = .ok (.if_icmp .ne 16, 3) := by decide +kernel
theorem dX2_lentCount_20 : decode cX2_lentCount 20 = .ok (.aload_n 0, 1) := by decide +kernel
theorem dX2_lentCount_21 : decode cX2_lentCount 21 = .ok (.getfield 18, 3) := by decide +kernel
theorem dX2_lentCount_24 : decode cX2_lentCount 24 = .ok (.iload_n 3, 1) := by decide +kernel
theorem dX2_lentCount_25 : decode cX2_lentCount 25 = .ok (.iaload, 1) := by decide +kernel
theorem dX2_lentCount_26 : decode cX2_lentCount 26 = .ok (.iload_n 1, 1) := by decide +kernel
theorem dX2_lentCount_27 : decode cX2_lentCount 27 = .ok (.if_icmp .ne 6, 3) := by decide +kernel
theorem dX2_lentCount_30 : decode cX2_lentCount 30 = .ok (.iinc 2 1, 3) := by decide +kernel
theorem dX2_lentCount_33 : decode cX2_lentCount 33 = .ok (.iinc 3 1, 3) := by decide +kernel
theorem dX2_lentCount_36 : decode cX2_lentCount 36 = .ok (.goto (-32), 3) := by decide +kernel
theorem dX2_lentCount_39 : decode cX2_lentCount 39 = .ok (.iload_n 2, 1) := by decide +kernel
theorem dX2_lentCount_40 : decode cX2_lentCount 40 = .ok (.ireturn, 1) := by decide +kernel
theorem dX2_isThere_0 : decode cX2_isThere 0 = .ok (.aload_n 0, 1) := by decide +kernel
theorem dX2_isThere_1 : decode cX2_isThere 1 = .ok (.getfield 34, 3) := by decide +kernel
theorem dX2_isThere_4 : decode cX2_isThere 4 = .ok (.iload_n 1, 1) := by decide +kernel
theorem dX2_isThere_5 : decode cX2_isThere 5 = .ok (.baload, 1) := by decide +kernel
theorem dX2_isThere_6 : decode cX2_isThere 6 = .ok (.ifCond .ne 7, 3) := by decide +kernel
theorem dX2_isThere_9 : decode cX2_isThere 9 = .ok (.iconst 1, 1) := by decide +kernel
theorem dX2_isThere_10 : decode cX2_isThere 10 = .ok (.goto 4, 3) := by decide +kernel
theorem dX2_isThere_13 : decode cX2_isThere 13 = .ok (.iconst 0, 1) := by decide +kernel
theorem dX2_isThere_14 : decode cX2_isThere 14 = .ok (.ireturn, 1) := by decide +kernel
theorem dX2_mayHaveOneMore_0 : decode cX2_mayHaveOneMore 0 = .ok (.aload_n 0, 1) := by decide +kernel
theorem dX2_mayHaveOneMore_1 : decode cX2_mayHaveOneMore 1 = .ok (.iload_n 1, 1) := by decide +kernel
theorem dX2_mayHaveOneMore_2 : decode cX2_mayHaveOneMore 2 = .ok (.invokevirtual 75, 3) := by decide +kernel
theorem dX2_mayHaveOneMore_5 : decode cX2_mayHaveOneMore 5 = .ok (.aload_n 0, 1) := by decide +kernel
theorem dX2_mayHaveOneMore_6 : decode cX2_mayHaveOneMore 6 = .ok (.getfield 9, 3) := by decide +kernel
theorem dX2_mayHaveOneMore_9 : decode cX2_mayHaveOneMore 9 = .ok (.iconst 1, 1) := by decide +kernel
theorem dX2_mayHaveOneMore_10 : decode cX2_mayHaveOneMore 10 = .ok (.iaload, 1) := by decide +kernel
theorem dX2_mayHaveOneMore_11 : decode cX2_mayHaveOneMore 11 = .ok (.if_icmp .ge 7, 3) := by decide +kernel
theorem dX2_mayHaveOneMore_14 : decode cX2_mayHaveOneMore 14 = .ok (.iconst 1, 1) := by decide +kernel
theorem dX2_mayHaveOneMore_15 : decode cX2_mayHaveOneMore 15 = .ok (.goto 4, 3) := by decide +kernel
theorem dX2_mayHaveOneMore_18 : decode cX2_mayHaveOneMore 18 = .ok (.iconst 0, 1) := by decide +kernel
theorem dX2_mayHaveOneMore_19 : decode cX2_mayHaveOneMore 19 = .ok (.ireturn, 1) := by decide +kernel
theorem dX2_turnOf_0 : decode cX2_turnOf 0 = .ok (.iconst 0, 1) := by decide +kernel
theorem dX2_turnOf_1 : decode cX2_turnOf 1 = .ok (.istore_n 2, 1) := by decide +kernel
theorem dX2_turnOf_2 : decode cX2_turnOf 2 = .ok (.iload_n 2, 1) := by decide +kernel
theorem dX2_turnOf_3 : decode cX2_turnOf 3 = .ok (.aload_n 0, 1) := by decide +kernel
theorem dX2_turnOf_4 : decode cX2_turnOf 4 = .ok (.getfield 68, 3) := by decide +kernel
theorem dX2_turnOf_7 : decode cX2_turnOf 7 = .ok (.if_icmp .ge 21, 3) := by decide +kernel
theorem dX2_turnOf_10 : decode cX2_turnOf 10 = .ok (.aload_n 0, 1) := by decide +kernel
theorem dX2_turnOf_11 : decode cX2_turnOf 11 = .ok (.getfield 49, 3) := by decide +kernel
theorem dX2_turnOf_14 : decode cX2_turnOf 14 = .ok (.iload_n 2, 1) := by decide +kernel
theorem dX2_turnOf_15 : decode cX2_turnOf 15 = .ok (.iaload, 1) := by decide +kernel
theorem dX2_turnOf_16 : decode cX2_turnOf 16 = .ok (.iload_n 1, 1) := by decide +kernel
theorem dX2_turnOf_17 : decode cX2_turnOf 17 = .ok (.if_icmp .ne 5, 3) := by decide +kernel
theorem dX2_turnOf_20 : decode cX2_turnOf 20 = .ok (.iload_n 2, 1) := by decide +kernel
theorem dX2_turnOf_21 : decode cX2_turnOf 21 = .ok (.ireturn, 1) := by decide +kernel
theorem dX2_turnOf_22 : decode cX2_turnOf 22 = .ok (.iinc 2 1, 3) := by decide +kernel
theorem dX2_turnOf_25 : decode cX2_turnOf 25 = .ok (.goto (-23), 3) := by decide +kernel
theorem dX2_turnOf_28 : decode cX2_turnOf 28 = .ok (.iconst (-1), 1) := by decide +kernel
theorem dX2_turnOf_29 : decode cX2_turnOf 29 = .ok (.ireturn, 1) := by decide +kernel
theorem dX2_waitOf_0 : decode cX2_waitOf 0 = .ok (.aload_n 0, 1) := by decide +kernel
theorem dX2_waitOf_1 : decode cX2_waitOf 1 = .ok (.iload_n 1, 1) := by decide +kernel
theorem dX2_waitOf_2 : decode cX2_waitOf 2 = .ok (.invokevirtual 78, 3) := by decide +kernel
theorem dX2_waitOf_5 : decode cX2_waitOf 5 = .ok (.iconst (-1), 1) := by decide +kernel
theorem dX2_waitOf_6 : decode cX2_waitOf 6 = .ok (.if_icmp .ne 7, 3) := by decide +kernel
theorem dX2_waitOf_9 : decode cX2_waitOf 9 = .ok (.iconst 0, 1) := by decide +kernel
theorem dX2_waitOf_10 : decode cX2_waitOf 10 = .ok (.goto 14, 3) := by decide +kernel
theorem dX2_waitOf_13 : decode cX2_waitOf 13 = .ok (.aload_n 0, 1) := by decide +kernel
theorem dX2_waitOf_14 : decode cX2_waitOf 14 = .ok (.getfield 64, 3) := by decide +kernel
theorem dX2_waitOf_17 : decode cX2_waitOf 17 = .ok (.aload_n 0, 1) := by decide +kernel
theorem dX2_waitOf_18 : decode cX2_waitOf 18 = .ok (.getfield 46, 3) := by decide +kernel
theorem dX2_waitOf_21 : decode cX2_waitOf 21 = .ok (.iload_n 1, 1) := by decide +kernel
theorem dX2_waitOf_22 : decode cX2_waitOf 22 = .ok (.iaload, 1) := by decide +kernel
theorem dX2_waitOf_23 : decode cX2_waitOf 23 = .ok (.isub, 1) := by decide +kernel
theorem dX2_waitOf_24 : decode cX2_waitOf 24 = .ok (.ireturn, 1) := by decide +kernel
theorem dX2_placeProperty_0 : decode cX2_placeProperty 0 = .ok (.iload_n 2, 1) := by decide +kernel
theorem dX2_placeProperty_1 : decode cX2_placeProperty 1 = .ok (.tableswitch 94 0 4 #[35, 42, 48, 63, 70], 35) := by decide +kernel
theorem dX2_placeProperty_36 : decode cX2_placeProperty 36 = .ok (.aload_n 0, 1) := by decide +kernel
theorem dX2_placeProperty_37 : decode cX2_placeProperty 37 = .ok (.getfield 15, 3) := by decide +kernel
theorem dX2_placeProperty_40 : decode cX2_placeProperty 40 = .ok (.iload_n 1, 1) := by decide +kernel
theorem dX2_placeProperty_41 : decode cX2_placeProperty 41 = .ok (.iaload, 1) := by decide +kernel
theorem dX2_placeProperty_42 : decode cX2_placeProperty 42 = .ok (.ireturn, 1) := by decide +kernel
theorem dX2_placeProperty_43 : decode cX2_placeProperty 43 = .ok (.aload_n 0, 1) := by decide +kernel
theorem dX2_placeProperty_44 : decode cX2_placeProperty 44 = .ok (.iload_n 1, 1) := by decide +kernel
theorem dX2_placeProperty_45 : decode cX2_placeProperty 45 = .ok (.invokevirtual 81, 3) := by decide +kernel
theorem dX2_placeProperty_48 : decode cX2_placeProperty 48 = .ok (.ireturn, 1) := by decide +kernel
theorem dX2_placeProperty_49 : decode cX2_placeProperty 49 = .ok (.aload_n 0, 1) := by decide +kernel
theorem dX2_placeProperty_50 : decode cX2_placeProperty 50 = .ok (.getfield 21, 3) := by decide +kernel
theorem dX2_placeProperty_53 : decode cX2_placeProperty 53 = .ok (.iload_n 1, 1) := by decide +kernel
theorem dX2_placeProperty_54 : decode cX2_placeProperty 54 = .ok (.baload, 1) := by decide +kernel
theorem dX2_placeProperty_55 : decode cX2_placeProperty 55 = .ok (.ifCond .eq 7, 3) := by decide +kernel
theorem dX2_placeProperty_58 : decode cX2_placeProperty 58 = .ok (.iconst 1, 1) := by decide +kernel
theorem dX2_placeProperty_59 : decode cX2_placeProperty 59 = .ok (.goto 4, 3) := by decide +kernel
theorem dX2_placeProperty_62 : decode cX2_placeProperty 62 = .ok (.iconst 0, 1) := by decide +kernel
theorem dX2_placeProperty_63 : decode cX2_placeProperty 63 = .ok (.ireturn, 1) := by decide +kernel
theorem dX2_placeProperty_64 : decode cX2_placeProperty 64 = .ok (.aload_n 0, 1) := by decide +kernel
theorem dX2_placeProperty_65 : decode cX2_placeProperty 65 = .ok (.getfield 25, 3) := by decide +kernel
theorem dX2_placeProperty_68 : decode cX2_placeProperty 68 = .ok (.iload_n 1, 1) := by decide +kernel
theorem dX2_placeProperty_69 : decode cX2_placeProperty 69 = .ok (.iaload, 1) := by decide +kernel
theorem dX2_placeProperty_70 : decode cX2_placeProperty 70 = .ok (.ireturn, 1) := by decide +kernel
theorem dX2_placeProperty_71 : decode cX2_placeProperty 71 = .ok (.aload_n 0, 1) := by decide +kernel
theorem dX2_placeProperty_72 : decode cX2_placeProperty 72 = .ok (.iload_n 1, 1) := by decide +kernel
theorem dX2_placeProperty_73 : decode cX2_placeProperty 73 = .ok (.invokevirtual 84, 3) := by decide +kernel
theorem dX2_placeProperty_76 : decode cX2_placeProperty 76 = .ok (.ifCond .eq 7, 3) := by decide +kernel
theorem dX2_placeProperty_79 : decode cX2_placeProperty 79 = .ok (.iconst 0, 1) := by decide +kernel
theorem dX2_placeProperty_80 : decode cX2_placeProperty 80 = .ok (.goto 14, 3) := by decide +kernel
theorem dX2_placeProperty_83 : decode cX2_placeProperty 83 = .ok (.aload_n 0, 1) := by decide +kernel
theorem dX2_placeProperty_84 : decode cX2_placeProperty 84 = .ok (.getfield 64, 3) := by decide +kernel
theorem dX2_placeProperty_87 : decode cX2_placeProperty 87 = .ok (.aload_n 0, 1) := by decide +kernel
theorem dX2_placeProperty_88 : decode cX2_placeProperty 88 = .ok (.getfield 28, 3) := by decide +kernel
theorem dX2_placeProperty_91 : decode cX2_placeProperty 91 = .ok (.iload_n 1, 1) := by decide +kernel
theorem dX2_placeProperty_92 : decode cX2_placeProperty 92 = .ok (.iaload, 1) := by decide +kernel
theorem dX2_placeProperty_93 : decode cX2_placeProperty 93 = .ok (.isub, 1) := by decide +kernel
theorem dX2_placeProperty_94 : decode cX2_placeProperty 94 = .ok (.ireturn, 1) := by decide +kernel
theorem dX2_placeProperty_95 : decode cX2_placeProperty 95 = .ok (.aload_n 0, 1) := by decide +kernel
theorem dX2_placeProperty_96 : decode cX2_placeProperty 96 = .ok (.getfield 31, 3) := by decide +kernel
theorem dX2_placeProperty_99 : decode cX2_placeProperty 99 = .ok (.iload_n 1, 1) := by decide +kernel
theorem dX2_placeProperty_100 : decode cX2_placeProperty 100 = .ok (.iaload, 1) := by decide +kernel
theorem dX2_placeProperty_101 : decode cX2_placeProperty 101 = .ok (.ireturn, 1) := by decide +kernel
theorem dX2_ownerProperty_0 : decode cX2_ownerProperty 0 = .ok (.iload_n 2, 1) := by decide +kernel
theorem dX2_ownerProperty_1 : decode cX2_ownerProperty 1 = .ok (.tableswitch 85 0 5 #[39, 53, 59, 65, 71, 78], 39) := by decide +kernel
theorem dX2_ownerProperty_40 : decode cX2_ownerProperty 40 = .ok (.aload_n 0, 1) := by decide +kernel
theorem dX2_ownerProperty_41 : decode cX2_ownerProperty 41 = .ok (.iload_n 1, 1) := by decide +kernel
theorem dX2_ownerProperty_42 : decode cX2_ownerProperty 42 = .ok (.invokevirtual 88, 3) := by decide +kernel
theorem dX2_ownerProperty_45 : decode cX2_ownerProperty 45 = .ok (.ifCond .eq 7, 3) := by decide +kernel
theorem dX2_ownerProperty_48 : decode cX2_ownerProperty 48 = .ok (.iconst 1, 1) := by decide +kernel
theorem dX2_ownerProperty_49 : decode cX2_ownerProperty 49 = .ok (.goto 4, 3) := by decide +kernel
theorem dX2_ownerProperty_52 : decode cX2_ownerProperty 52 = .ok (.iconst 0, 1) := by decide +kernel
theorem dX2_ownerProperty_53 : decode cX2_ownerProperty 53 = .ok (.ireturn, 1) := by decide +kernel
theorem dX2_ownerProperty_54 : decode cX2_ownerProperty 54 = .ok (.aload_n 0, 1) := by decide +kernel
theorem dX2_ownerProperty_55 : decode cX2_ownerProperty 55 = .ok (.iload_n 1, 1) := by decide +kernel
theorem dX2_ownerProperty_56 : decode cX2_ownerProperty 56 = .ok (.invokevirtual 75, 3) := by decide +kernel
theorem dX2_ownerProperty_59 : decode cX2_ownerProperty 59 = .ok (.ireturn, 1) := by decide +kernel
theorem dX2_ownerProperty_60 : decode cX2_ownerProperty 60 = .ok (.aload_n 0, 1) := by decide +kernel
theorem dX2_ownerProperty_61 : decode cX2_ownerProperty 61 = .ok (.iload_n 1, 1) := by decide +kernel
theorem dX2_ownerProperty_62 : decode cX2_ownerProperty 62 = .ok (.invokevirtual 78, 3) := by decide +kernel
theorem dX2_ownerProperty_65 : decode cX2_ownerProperty 65 = .ok (.ireturn, 1) := by decide +kernel
theorem dX2_ownerProperty_66 : decode cX2_ownerProperty 66 = .ok (.aload_n 0, 1) := by decide +kernel
theorem dX2_ownerProperty_67 : decode cX2_ownerProperty 67 = .ok (.iload_n 1, 1) := by decide +kernel
theorem dX2_ownerProperty_68 : decode cX2_ownerProperty 68 = .ok (.invokevirtual 91, 3) := by decide +kernel
theorem dX2_ownerProperty_71 : decode cX2_ownerProperty 71 = .ok (.ireturn, 1) := by decide +kernel
theorem dX2_ownerProperty_72 : decode cX2_ownerProperty 72 = .ok (.aload_n 0, 1) := by decide +kernel
theorem dX2_ownerProperty_73 : decode cX2_ownerProperty 73 = .ok (.getfield 37, 3) := by decide +kernel
theorem dX2_ownerProperty_76 : decode cX2_ownerProperty 76 = .ok (.iload_n 1, 1) := by decide +kernel
theorem dX2_ownerProperty_77 : decode cX2_ownerProperty 77 = .ok (.iaload, 1) := by decide +kernel
theorem dX2_ownerProperty_78 : decode cX2_ownerProperty 78 = .ok (.ireturn, 1) := by decide +kernel
theorem dX2_ownerProperty_79 : decode cX2_ownerProperty 79 = .ok (.aload_n 0, 1) := by decide +kernel
theorem dX2_ownerProperty_80 : decode cX2_ownerProperty 80 = .ok (.getfield 40, 3) := by decide +kernel
theorem dX2_ownerProperty_83 : decode cX2_ownerProperty 83 = .ok (.iload_n 1, 1) := by decide +kernel
theorem dX2_ownerProperty_84 : decode cX2_ownerProperty 84 = .ok (.iaload, 1) := by decide +kernel
theorem dX2_ownerProperty_85 : decode cX2_ownerProperty 85 = .ok (.ireturn, 1) := by decide +kernel
theorem dX2_ownerProperty_86 : decode cX2_ownerProperty 86 = .ok (.aload_n 0, 1) := by decide +kernel
theorem dX2_ownerProperty_87 : decode cX2_ownerProperty 87 = .ok (.getfield 43, 3) := by decide +kernel
theorem dX2_ownerProperty_90 : decode cX2_ownerProperty 90 = .ok (.iload_n 1, 1) := by decide +kernel
theorem dX2_ownerProperty_91 : decode cX2_ownerProperty 91 = .ok (.iaload, 1) := by decide +kernel
theorem dX2_ownerProperty_92 : decode cX2_ownerProperty 92 = .ok (.ireturn, 1) := by decide +kernel
theorem dX2_number_0 : decode cX2_number 0 = .ok (.iload_n 1, 1) := by decide +kernel
theorem dX2_number_1 : decode cX2_number 1 = .ok (.tableswitch 71 0 5 #[39, 44, 49, 55, 61, 66], 39) := by decide +kernel
theorem dX2_number_40 : decode cX2_number 40 = .ok (.aload_n 0, 1) := by decide +kernel
theorem dX2_number_41 : decode cX2_number 41 = .ok (.getfield 64, 3) := by decide +kernel
theorem dX2_number_44 : decode cX2_number 44 = .ok (.ireturn, 1) := by decide +kernel
theorem dX2_number_45 : decode cX2_number 45 = .ok (.aload_n 0, 1) := by decide +kernel
theorem dX2_number_46 : decode cX2_number 46 = .ok (.invokevirtual 94, 3) := by decide +kernel
theorem dX2_number_49 : decode cX2_number 49 = .ok (.ireturn, 1) := by decide +kernel
theorem dX2_number_50 : decode cX2_number 50 = .ok (.aload_n 0, 1) := by decide +kernel
theorem dX2_number_51 : decode cX2_number 51 = .ok (.iconst 1, 1) := by decide +kernel
theorem dX2_number_52 : decode cX2_number 52 = .ok (.invokevirtual 71, 3) := by decide +kernel
theorem dX2_number_55 : decode cX2_number 55 = .ok (.ireturn, 1) := by decide +kernel
theorem dX2_number_56 : decode cX2_number 56 = .ok (.aload_n 0, 1) := by decide +kernel
theorem dX2_number_57 : decode cX2_number 57 = .ok (.iconst 2, 1) := by decide +kernel
theorem dX2_number_58 : decode cX2_number 58 = .ok (.invokevirtual 71, 3) := by decide +kernel
theorem dX2_number_61 : decode cX2_number 61 = .ok (.ireturn, 1) := by decide +kernel
theorem dX2_number_62 : decode cX2_number 62 = .ok (.aload_n 0, 1) := by decide +kernel
theorem dX2_number_63 : decode cX2_number 63 = .ok (.invokevirtual 98, 3) := by decide +kernel
theorem dX2_number_66 : decode cX2_number 66 = .ok (.ireturn, 1) := by decide +kernel
theorem dX2_number_67 : decode cX2_number 67 = .ok (.aload_n 0, 1) := by decide +kernel
theorem dX2_number_68 : decode cX2_number 68 = .ok (.getfield 68, 3) := by decide +kernel
theorem dX2_number_71 : decode cX2_number 71 = .ok (.ireturn, 1) := by decide +kernel
theorem dX2_number_72 : decode cX2_number 72 = .ok (.iload_n 1, 1) := by decide +kernel
theorem dX2_number_73 : decode cX2_number 73 = .ok (.bipush 6, 2) := by decide +kernel
theorem dX2_number_75 : decode cX2_number 75 = .ok (.isub, 1) := by decide +kernel
theorem dX2_number_76 : decode cX2_number 76 = .ok (.istore_n 2, 1) := by decide +kernel
theorem dX2_number_77 : decode cX2_number 77 = .ok (.iload_n 2, 1) := by decide +kernel
theorem dX2_number_78 : decode cX2_number 78 = .ok (.ifCond .lt 18, 3) := by decide +kernel
theorem dX2_number_81 : decode cX2_number 81 = .ok (.iload_n 2, 1) := by decide +kernel
theorem dX2_number_82 : decode cX2_number 82 = .ok (.bipush 7, 2) := by decide +kernel
theorem dX2_number_84 : decode cX2_number 84 = .ok (.if_icmp .ge 12, 3) := by decide +kernel
theorem dX2_number_87 : decode cX2_number 87 = .ok (.aload_n 0, 1) := by decide +kernel
theorem dX2_number_88 : decode cX2_number 88 = .ok (.getfield 52, 3) := by decide +kernel
theorem dX2_number_91 : decode cX2_number 91 = .ok (.iload_n 2, 1) := by decide +kernel
theorem dX2_number_92 : decode cX2_number 92 = .ok (.iaload, 1) := by decide +kernel
theorem dX2_number_93 : decode cX2_number 93 = .ok (.goto 4, 3) := by decide +kernel
theorem dX2_number_96 : decode cX2_number 96 = .ok (.iconst 0, 1) := by decide +kernel
theorem dX2_number_97 : decode cX2_number 97 = .ok (.ireturn, 1) := by decide +kernel
theorem dX2_canRequest_0 : decode cX2_canRequest 0 = .ok (.aload_n 0, 1) := by decide +kernel
theorem dX2_canRequest_1 : decode cX2_canRequest 1 = .ok (.iload_n 1, 1) := by decide +kernel
theorem dX2_canRequest_2 : decode cX2_canRequest 2 = .ok (.invokevirtual 88, 3) := by decide +kernel
theorem dX2_canRequest_5 : decode cX2_canRequest 5 = .ok (.ifCond .eq 16, 3) := by decide +kernel
theorem dX2_canRequest_8 : decode cX2_canRequest 8 = .ok (.aload_n 0, 1) := by decide +kernel
theorem dX2_canRequest_9 : decode cX2_canRequest 9 = .ok (.iload_n 1, 1) := by decide +kernel
theorem dX2_canRequest_10 : decode cX2_canRequest 10 = .ok (.invokevirtual 78, 3) := by decide +kernel
theorem dX2_canRequest_13 : decode cX2_canRequest 13 = .ok (.iconst (-1), 1) := by decide +kernel
theorem dX2_canRequest_14 : decode cX2_canRequest 14 = .ok (.if_icmp .ne 7, 3) := by decide +kernel
theorem dX2_canRequest_17 : decode cX2_canRequest 17 = .ok (.iconst 1, 1) := by decide +kernel
theorem dX2_canRequest_18 : decode cX2_canRequest 18 = .ok (.goto 4, 3) := by decide +kernel
theorem dX2_canRequest_21 : decode cX2_canRequest 21 = .ok (.iconst 0, 1) := by decide +kernel
theorem dX2_canRequest_22 : decode cX2_canRequest 22 = .ok (.ireturn, 1) := by decide +kernel
theorem dX2_request_0 : decode cX2_request 0 = .ok (.aload_n 0, 1) := by decide +kernel
theorem dX2_request_1 : decode cX2_request 1 = .ok (.getfield 68, 3) := by decide +kernel
theorem dX2_request_4 : decode cX2_request 4 = .ok (.bipush 8, 2) := by decide +kernel
theorem dX2_request_6 : decode cX2_request 6 = .ok (.if_icmp .ge 33, 3) := by decide +kernel
theorem dX2_request_9 : decode cX2_request 9 = .ok (.aload_n 0, 1) := by decide +kernel
theorem dX2_request_10 : decode cX2_request 10 = .ok (.getfield 49, 3) := by decide +kernel
theorem dX2_request_13 : decode cX2_request 13 = .ok (.aload_n 0, 1) := by decide +kernel
theorem dX2_request_14 : decode cX2_request 14 = .ok (.getfield 68, 3) := by decide +kernel
theorem dX2_request_17 : decode cX2_request 17 = .ok (.iload_n 1, 1) := by decide +kernel
theorem dX2_request_18 : decode cX2_request 18 = .ok (.iastore, 1) := by decide +kernel
theorem dX2_request_19 : decode cX2_request 19 = .ok (.aload_n 0, 1) := by decide +kernel
theorem dX2_request_20 : decode cX2_request 20 = .ok (.dup, 1) := by decide +kernel
theorem dX2_request_21 : decode cX2_request 21 = .ok (.getfield 68, 3) := by decide +kernel
theorem dX2_request_24 : decode cX2_request 24 = .ok (.iconst 1, 1) := by decide +kernel
theorem dX2_request_25 : decode cX2_request 25 = .ok (.iadd, 1) := by decide +kernel
theorem dX2_request_26 : decode cX2_request 26 = .ok (.putfield 68, 3) := by decide +kernel
theorem dX2_request_29 : decode cX2_request 29 = .ok (.aload_n 0, 1) := by decide +kernel
theorem dX2_request_30 : decode cX2_request 30 = .ok (.getfield 46, 3) := by decide +kernel
theorem dX2_request_33 : decode cX2_request 33 = .ok (.iload_n 1, 1) := by decide +kernel
theorem dX2_request_34 : decode cX2_request 34 = .ok (.aload_n 0, 1) := by decide +kernel
theorem dX2_request_35 : decode cX2_request 35 = .ok (.getfield 64, 3) := by decide +kernel
theorem dX2_request_38 : decode cX2_request 38 = .ok (.iastore, 1) := by decide +kernel
theorem dX2_request_39 : decode cX2_request 39 = .ok (.aload_n 0, 1) := by decide +kernel
theorem dX2_request_40 : decode cX2_request 40 = .ok (.iload_n 1, 1) := by decide +kernel
theorem dX2_request_41 : decode cX2_request 41 = .ok (.invokevirtual 101, 3) := by decide +kernel
theorem dX2_request_44 : decode cX2_request 44 = .ok (.ireturn, 1) := by decide +kernel
theorem dX2_canTakeBack_0 : decode cX2_canTakeBack 0 = .ok (.aload_n 0, 1) := by decide +kernel
theorem dX2_canTakeBack_1 : decode cX2_canTakeBack 1 = .ok (.getfield 15, 3) := by decide +kernel
theorem dX2_canTakeBack_4 : decode cX2_canTakeBack 4 = .ok (.iload_n 1, 1) := by decide +kernel
theorem dX2_canTakeBack_5 : decode cX2_canTakeBack 5 = .ok (.iaload, 1) := by decide +kernel
theorem dX2_canTakeBack_6 : decode cX2_canTakeBack 6 = .ok (.iconst 2, 1) := by decide +kernel
theorem dX2_canTakeBack_7 : decode cX2_canTakeBack 7 = .ok (.if_icmp .ne 20, 3) := by decide +kernel
theorem dX2_canTakeBack_10 : decode cX2_canTakeBack 10 = .ok (.aload_n 0, 1) := by decide +kernel
theorem dX2_canTakeBack_11 : decode cX2_canTakeBack 11 = .ok (.aload_n 0, 1) := by decide +kernel
theorem dX2_canTakeBack_12 : decode cX2_canTakeBack 12 = .ok (.getfield 18, 3) := by decide +kernel
theorem dX2_canTakeBack_15 : decode cX2_canTakeBack 15 = .ok (.iload_n 1, 1) := by decide +kernel
theorem dX2_canTakeBack_16 : decode cX2_canTakeBack 16 = .ok (.iaload, 1) := by decide +kernel
theorem dX2_canTakeBack_17 : decode cX2_canTakeBack 17 = .ok (.invokevirtual 88, 3) := by decide +kernel
theorem dX2_canTakeBack_20 : decode cX2_canTakeBack 20 = .ok (.ifCond .eq 7, 3) := by decide +kernel
theorem dX2_canTakeBack_23 : decode cX2_canTakeBack 23 = .ok (.iconst 1, 1) := by decide +kernel
theorem dX2_canTakeBack_24 : decode cX2_canTakeBack 24 = .ok (.goto 4, 3) := by decide +kernel
theorem dX2_canTakeBack_27 : decode cX2_canTakeBack 27 = .ok (.iconst 0, 1) := by decide +kernel
theorem dX2_canTakeBack_28 : decode cX2_canTakeBack 28 = .ok (.ireturn, 1) := by decide +kernel
theorem dX2_takeBack_0 : decode cX2_takeBack 0 = .ok (.aload_n 0, 1) := by decide +kernel
theorem dX2_takeBack_1 : decode cX2_takeBack 1 = .ok (.getfield 15, 3) := by decide +kernel
theorem dX2_takeBack_4 : decode cX2_takeBack 4 = .ok (.iload_n 1, 1) := by decide +kernel
theorem dX2_takeBack_5 : decode cX2_takeBack 5 = .ok (.iconst 1, 1) := by decide +kernel
theorem dX2_takeBack_6 : decode cX2_takeBack 6 = .ok (.iastore, 1) := by decide +kernel
theorem dX2_takeBack_7 : decode cX2_takeBack 7 = .ok (.aload_n 0, 1) := by decide +kernel
theorem dX2_takeBack_8 : decode cX2_takeBack 8 = .ok (.getfield 28, 3) := by decide +kernel
theorem dX2_takeBack_11 : decode cX2_takeBack 11 = .ok (.iload_n 1, 1) := by decide +kernel
theorem dX2_takeBack_12 : decode cX2_takeBack 12 = .ok (.aload_n 0, 1) := by decide +kernel
theorem dX2_takeBack_13 : decode cX2_takeBack 13 = .ok (.getfield 64, 3) := by decide +kernel
theorem dX2_takeBack_16 : decode cX2_takeBack 16 = .ok (.iastore, 1) := by decide +kernel
theorem dX2_takeBack_17 : decode cX2_takeBack 17 = .ok (.aload_n 0, 1) := by decide +kernel
theorem dX2_takeBack_18 : decode cX2_takeBack 18 = .ok (.iconst (-1), 1) := by decide +kernel
theorem dX2_takeBack_19 : decode cX2_takeBack 19 = .ok (.invokevirtual 101, 3) := by decide +kernel
theorem dX2_takeBack_22 : decode cX2_takeBack 22 = .ok (.pop, 1) := by decide +kernel
theorem dX2_takeBack_23 : decode cX2_takeBack 23 = .ok (.return_, 1) := by decide +kernel
theorem dX2_stopWaiting_0 : decode cX2_stopWaiting 0 = .ok (.aload_n 0, 1) := by decide +kernel
theorem dX2_stopWaiting_1 : decode cX2_stopWaiting 1 = .ok (.aload_n 0, 1) := by decide +kernel
theorem dX2_stopWaiting_2 : decode cX2_stopWaiting 2 = .ok (.iload_n 1, 1) := by decide +kernel
theorem dX2_stopWaiting_3 : decode cX2_stopWaiting 3 = .ok (.invokevirtual 78, 3) := by decide +kernel
theorem dX2_stopWaiting_6 : decode cX2_stopWaiting 6 = .ok (.invokevirtual 104, 3) := by decide +kernel
theorem dX2_stopWaiting_9 : decode cX2_stopWaiting 9 = .ok (.aload_n 0, 1) := by decide +kernel
theorem dX2_stopWaiting_10 : decode cX2_stopWaiting 10 = .ok (.getfield 40, 3) := by decide +kernel
theorem dX2_stopWaiting_13 : decode cX2_stopWaiting 13 = .ok (.iload_n 1, 1) := by decide +kernel
theorem dX2_stopWaiting_14 : decode cX2_stopWaiting 14 = .ok (.dup2, 1) := by decide +kernel
theorem dX2_stopWaiting_15 : decode cX2_stopWaiting 15 = .ok (.iaload, 1) := by decide +kernel
theorem dX2_stopWaiting_16 : decode cX2_stopWaiting 16 = .ok (.iconst 1, 1) := by decide +kernel
theorem dX2_stopWaiting_17 : decode cX2_stopWaiting 17 = .ok (.iadd, 1) := by decide +kernel
theorem dX2_stopWaiting_18 : decode cX2_stopWaiting 18 = .ok (.iastore, 1) := by decide +kernel
theorem dX2_stopWaiting_19 : decode cX2_stopWaiting 19 = .ok (.aload_n 0, 1) := by decide +kernel
theorem dX2_stopWaiting_20 : decode cX2_stopWaiting 20 = .ok (.iconst (-1), 1) := by decide +kernel
theorem dX2_stopWaiting_21 : decode cX2_stopWaiting 21 = .ok (.invokevirtual 101, 3) := by decide +kernel
theorem dX2_stopWaiting_24 : decode cX2_stopWaiting 24 = .ok (.pop, 1) := by decide +kernel
theorem dX2_stopWaiting_25 : decode cX2_stopWaiting 25 = .ok (.return_, 1) := by decide +kernel
theorem dX2_turnUp_0 : decode cX2_turnUp 0 = .ok (.aload_n 0, 1) := by decide +kernel
theorem dX2_turnUp_1 : decode cX2_turnUp 1 = .ok (.getfield 34, 3) := by decide +kernel
theorem dX2_turnUp_4 : decode cX2_turnUp 4 = .ok (.iload_n 1, 1) := by decide +kernel
theorem dX2_turnUp_5 : decode cX2_turnUp 5 = .ok (.iload_n 2, 1) := by decide +kernel
theorem dX2_turnUp_6 : decode cX2_turnUp 6 = .ok (.ifCond .ne 7, 3) := by decide +kernel
theorem dX2_turnUp_9 : decode cX2_turnUp 9 = .ok (.iconst 1, 1) := by decide +kernel
theorem dX2_turnUp_10 : decode cX2_turnUp 10 = .ok (.goto 4, 3) := by decide +kernel
theorem dX2_turnUp_13 : decode cX2_turnUp 13 = .ok (.iconst 0, 1) := by decide +kernel
theorem dX2_turnUp_14 : decode cX2_turnUp 14 = .ok (.bastore, 1) := by decide +kernel
theorem dX2_turnUp_15 : decode cX2_turnUp 15 = .ok (.aload_n 0, 1) := by decide +kernel
theorem dX2_turnUp_16 : decode cX2_turnUp 16 = .ok (.aload_n 0, 1) := by decide +kernel
theorem dX2_turnUp_17 : decode cX2_turnUp 17 = .ok (.iload_n 1, 1) := by decide +kernel
theorem dX2_turnUp_18 : decode cX2_turnUp 18 = .ok (.invokevirtual 78, 3) := by decide +kernel
theorem dX2_turnUp_21 : decode cX2_turnUp 21 = .ok (.invokevirtual 104, 3) := by decide +kernel
theorem dX2_turnUp_24 : decode cX2_turnUp 24 = .ok (.aload_n 0, 1) := by decide +kernel
theorem dX2_turnUp_25 : decode cX2_turnUp 25 = .ok (.iconst (-1), 1) := by decide +kernel
theorem dX2_turnUp_26 : decode cX2_turnUp 26 = .ok (.invokevirtual 101, 3) := by decide +kernel
theorem dX2_turnUp_29 : decode cX2_turnUp 29 = .ok (.pop, 1) := by decide +kernel
theorem dX2_turnUp_30 : decode cX2_turnUp 30 = .ok (.return_, 1) := by decide +kernel
theorem dX2_makeSick_0 : decode cX2_makeSick 0 = .ok (.aload_n 0, 1) := by decide +kernel
theorem dX2_makeSick_1 : decode cX2_makeSick 1 = .ok (.getfield 21, 3) := by decide +kernel
theorem dX2_makeSick_4 : decode cX2_makeSick 4 = .ok (.iload_n 1, 1) := by decide +kernel
theorem dX2_makeSick_5 : decode cX2_makeSick 5 = .ok (.baload, 1) := by decide +kernel
theorem dX2_makeSick_6 : decode cX2_makeSick 6 = .ok (.ifCond .ne 7, 3) := by decide +kernel
theorem dX2_makeSick_9 : decode cX2_makeSick 9 = .ok (.iconst 1, 1) := by decide +kernel
theorem dX2_makeSick_10 : decode cX2_makeSick 10 = .ok (.goto 4, 3) := by decide +kernel
theorem dX2_makeSick_13 : decode cX2_makeSick 13 = .ok (.iconst 0, 1) := by decide +kernel
theorem dX2_makeSick_14 : decode cX2_makeSick 14 = .ok (.istore_n 2, 1) := by decide +kernel
theorem dX2_makeSick_15 : decode cX2_makeSick 15 = .ok (.aload_n 0, 1) := by decide +kernel
theorem dX2_makeSick_16 : decode cX2_makeSick 16 = .ok (.getfield 21, 3) := by decide +kernel
theorem dX2_makeSick_19 : decode cX2_makeSick 19 = .ok (.iload_n 1, 1) := by decide +kernel
theorem dX2_makeSick_20 : decode cX2_makeSick 20 = .ok (.iconst 1, 1) := by decide +kernel
theorem dX2_makeSick_21 : decode cX2_makeSick 21 = .ok (.bastore, 1) := by decide +kernel
theorem dX2_makeSick_22 : decode cX2_makeSick 22 = .ok (.iload_n 2, 1) := by decide +kernel
theorem dX2_makeSick_23 : decode cX2_makeSick 23 = .ok (.ireturn, 1) := by decide +kernel
theorem dX2_change_0 : decode cX2_change 0 = .ok (.aload_n 0, 1) := by decide +kernel
theorem dX2_change_1 : decode cX2_change 1 = .ok (.getfield 9, 3) := by decide +kernel
theorem dX2_change_4 : decode cX2_change 4 = .ok (.iload_n 1, 1) := by decide +kernel
theorem dX2_change_5 : decode cX2_change 5 = .ok (.iaload, 1) := by decide +kernel
theorem dX2_change_6 : decode cX2_change 6 = .ok (.istore_n 3, 1) := by decide +kernel
theorem dX2_change_7 : decode cX2_change 7 = .ok (.aload_n 0, 1) := by decide +kernel
theorem dX2_change_8 : decode cX2_change 8 = .ok (.getfield 9, 3) := by decide +kernel
theorem dX2_change_11 : decode cX2_change 11 = .ok (.iload_n 1, 1) := by decide +kernel
theorem dX2_change_12 : decode cX2_change 12 = .ok (.iload_n 2, 1) := by decide +kernel
theorem dX2_change_13 : decode cX2_change 13 = .ok (.iastore, 1) := by decide +kernel
theorem dX2_change_14 : decode cX2_change 14 = .ok (.aload_n 0, 1) := by decide +kernel
theorem dX2_change_15 : decode cX2_change 15 = .ok (.iconst (-1), 1) := by decide +kernel
theorem dX2_change_16 : decode cX2_change 16 = .ok (.invokevirtual 101, 3) := by decide +kernel
theorem dX2_change_19 : decode cX2_change 19 = .ok (.pop, 1) := by decide +kernel
theorem dX2_change_20 : decode cX2_change 20 = .ok (.iload_n 3, 1) := by decide +kernel
theorem dX2_change_21 : decode cX2_change 21 = .ok (.ireturn, 1) := by decide +kernel
theorem dX2_canPassUnits_0 : decode cX2_canPassUnits 0 = .ok (.iload_n 1, 1) := by decide +kernel
theorem dX2_canPassUnits_1 : decode cX2_canPassUnits 1 = .ok (.sipush 9999, 3) := by decide +kernel
theorem dX2_canPassUnits_4 : decode cX2_canPassUnits 4 = .ok (.aload_n 0, 1) := by decide +kernel
theorem dX2_canPassUnits_5 : decode cX2_canPassUnits 5 = .ok (.getfield 64, 3) := by decide +kernel
theorem dX2_canPassUnits_8 : decode cX2_canPassUnits 8 = .ok (.isub, 1) := by decide +kernel
theorem dX2_canPassUnits_9 : decode cX2_canPassUnits 9 = .ok (.if_icmp .gt 7, 3) := by decide +kernel
theorem dX2_canPassUnits_12 : decode cX2_canPassUnits 12 = .ok (.iconst 1, 1) := by decide +kernel
theorem dX2_canPassUnits_13 : decode cX2_canPassUnits 13 = .ok (.goto 4, 3) := by decide +kernel
theorem dX2_canPassUnits_16 : decode cX2_canPassUnits 16 = .ok (.iconst 0, 1) := by decide +kernel
theorem dX2_canPassUnits_17 : decode cX2_canPassUnits 17 = .ok (.ireturn, 1) := by decide +kernel
theorem dX2_passUnits_0 : decode cX2_passUnits 0 = .ok (.iconst 0, 1) := by decide +kernel
theorem dX2_passUnits_1 : decode cX2_passUnits 1 = .ok (.istore_n 2, 1) := by decide +kernel
theorem dX2_passUnits_2 : decode cX2_passUnits 2 = .ok (.iconst 0, 1) := by decide +kernel
theorem dX2_passUnits_3 : decode cX2_passUnits 3 = .ok (.istore_n 3, 1) := by decide +kernel
theorem dX2_passUnits_4 : decode cX2_passUnits 4 = .ok (.iload_n 3, 1) := by decide +kernel
theorem dX2_passUnits_5 : decode cX2_passUnits 5 = .ok (.iload_n 1, 1) := by decide +kernel
theorem dX2_passUnits_6 : decode cX2_passUnits 6 = .ok (.if_icmp .ge 69, 3) := by decide +kernel
theorem dX2_passUnits_9 : decode cX2_passUnits 9 = .ok (.aload_n 0, 1) := by decide +kernel
theorem dX2_passUnits_10 : decode cX2_passUnits 10 = .ok (.dup, 1) := by decide +kernel
theorem dX2_passUnits_11 : decode cX2_passUnits 11 = .ok (.getfield 64, 3) := by decide +kernel
theorem dX2_passUnits_14 : decode cX2_passUnits 14 = .ok (.iconst 1, 1) := by decide +kernel
theorem dX2_passUnits_15 : decode cX2_passUnits 15 = .ok (.iadd, 1) := by decide +kernel
theorem dX2_passUnits_16 : decode cX2_passUnits 16 = .ok (.putfield 64, 3) := by decide +kernel
theorem dX2_passUnits_19 : decode cX2_passUnits 19 = .ok (.aload_n 0, 1) := by decide +kernel
theorem dX2_passUnits_20 : decode cX2_passUnits 20 = .ok (.invokevirtual 108, 3) := by decide +kernel
theorem dX2_passUnits_23 : decode cX2_passUnits 23 = .ok (.aload_n 0, 1) := by decide +kernel
theorem dX2_passUnits_24 : decode cX2_passUnits 24 = .ok (.getfield 9, 3) := by decide +kernel
theorem dX2_passUnits_27 : decode cX2_passUnits 27 = .ok (.bipush 6, 2) := by decide +kernel
theorem dX2_passUnits_29 : decode cX2_passUnits 29 = .ok (.iaload, 1) := by decide +kernel
theorem dX2_passUnits_30 : decode cX2_passUnits 30 = .ok (.istore 4, 2) := by decide +kernel
theorem dX2_passUnits_32 : decode cX2_passUnits 32 = .ok (.iload 4, 2) := by decide +kernel
theorem dX2_passUnits_34 : decode cX2_passUnits 34 = .ok (.ifCond .le 18, 3) := by decide +kernel
theorem dX2_passUnits_37 : decode cX2_passUnits 37 = .ok (.aload_n 0, 1) := by decide +kernel
theorem dX2_passUnits_38 : decode cX2_passUnits 38 = .ok (.getfield 64, 3) := by decide +kernel
theorem dX2_passUnits_41 : decode cX2_passUnits 41 = .ok (.iload 4, 2) := by decide +kernel
theorem dX2_passUnits_43 : decode cX2_passUnits 43 = .ok (.irem, 1) := by decide +kernel
theorem dX2_passUnits_44 : decode cX2_passUnits 44 = .ok (.ifCond .ne 8, 3) := by decide +kernel
theorem dX2_passUnits_47 : decode cX2_passUnits 47 = .ok (.aload_n 0, 1) := by decide +kernel
theorem dX2_passUnits_48 : decode cX2_passUnits 48 = .ok (.invokevirtual 111, 3) := by decide +kernel
theorem dX2_passUnits_51 : decode cX2_passUnits 51 = .ok (.pop, 1) := by decide +kernel
theorem dX2_passUnits_52 : decode cX2_passUnits 52 = .ok (.aload_n 0, 1) := by decide +kernel
theorem dX2_passUnits_53 : decode cX2_passUnits 53 = .ok (.invokevirtual 114, 3) := by decide +kernel
theorem dX2_passUnits_56 : decode cX2_passUnits 56 = .ok (.iload_n 2, 1) := by decide +kernel
theorem dX2_passUnits_57 : decode cX2_passUnits 57 = .ok (.aload_n 0, 1) := by decide +kernel
theorem dX2_passUnits_58 : decode cX2_passUnits 58 = .ok (.invokevirtual 117, 3) := by decide +kernel
theorem dX2_passUnits_61 : decode cX2_passUnits 61 = .ok (.iadd, 1) := by decide +kernel
theorem dX2_passUnits_62 : decode cX2_passUnits 62 = .ok (.istore_n 2, 1) := by decide +kernel
theorem dX2_passUnits_63 : decode cX2_passUnits 63 = .ok (.aload_n 0, 1) := by decide +kernel
theorem dX2_passUnits_64 : decode cX2_passUnits 64 = .ok (.iconst (-1), 1) := by decide +kernel
theorem dX2_passUnits_65 : decode cX2_passUnits 65 = .ok (.invokevirtual 101, 3) := by decide +kernel
theorem dX2_passUnits_68 : decode cX2_passUnits 68 = .ok (.pop, 1) := by decide +kernel
theorem dX2_passUnits_69 : decode cX2_passUnits 69 = .ok (.iinc 3 1, 3) := by decide +kernel
theorem dX2_passUnits_72 : decode cX2_passUnits 72 = .ok (.goto (-68), 3) := by decide +kernel
theorem dX2_passUnits_75 : decode cX2_passUnits 75 = .ok (.iload_n 2, 1) := by decide +kernel
theorem dX2_passUnits_76 : decode cX2_passUnits 76 = .ok (.ireturn, 1) := by decide +kernel
theorem dX2_checkIdle_0 : decode cX2_checkIdle 0 = .ok (.iconst 0, 1) := by decide +kernel
theorem dX2_checkIdle_1 : decode cX2_checkIdle 1 = .ok (.istore_n 1, 1) := by decide +kernel
theorem dX2_checkIdle_2 : decode cX2_checkIdle 2 = .ok (.iconst 0, 1) := by decide +kernel
theorem dX2_checkIdle_3 : decode cX2_checkIdle 3 = .ok (.istore_n 2, 1) := by decide +kernel
theorem dX2_checkIdle_4 : decode cX2_checkIdle 4 = .ok (.iload_n 2, 1) := by decide +kernel
theorem dX2_checkIdle_5 : decode cX2_checkIdle 5 = .ok (.bipush 8, 2) := by decide +kernel
theorem dX2_checkIdle_7 : decode cX2_checkIdle 7 = .ok (.if_icmp .ge 30, 3) := by decide +kernel
theorem dX2_checkIdle_10 : decode cX2_checkIdle 10 = .ok (.aload_n 0, 1) := by decide +kernel
theorem dX2_checkIdle_11 : decode cX2_checkIdle 11 = .ok (.getfield 15, 3) := by decide +kernel
theorem dX2_checkIdle_14 : decode cX2_checkIdle 14 = .ok (.iload_n 2, 1) := by decide +kernel
theorem dX2_checkIdle_15 : decode cX2_checkIdle 15 = .ok (.iaload, 1) := by decide +kernel
theorem dX2_checkIdle_16 : decode cX2_checkIdle 16 = .ok (.iconst 1, 1) := by decide +kernel
theorem dX2_checkIdle_17 : decode cX2_checkIdle 17 = .ok (.if_icmp .ne 14, 3) := by decide +kernel
theorem dX2_checkIdle_20 : decode cX2_checkIdle 20 = .ok (.aload_n 0, 1) := by decide +kernel
theorem dX2_checkIdle_21 : decode cX2_checkIdle 21 = .ok (.iload_n 2, 1) := by decide +kernel
theorem dX2_checkIdle_22 : decode cX2_checkIdle 22 = .ok (.invokevirtual 120, 3) := by decide +kernel
theorem dX2_checkIdle_25 : decode cX2_checkIdle 25 = .ok (.ifCond .eq 6, 3) := by decide +kernel
theorem dX2_checkIdle_28 : decode cX2_checkIdle 28 = .ok (.iinc 1 1, 3) := by decide +kernel
theorem dX2_checkIdle_31 : decode cX2_checkIdle 31 = .ok (.iinc 2 1, 3) := by decide +kernel
theorem dX2_checkIdle_34 : decode cX2_checkIdle 34 = .ok (.goto (-30), 3) := by decide +kernel
theorem dX2_checkIdle_37 : decode cX2_checkIdle 37 = .ok (.iload_n 1, 1) := by decide +kernel
theorem dX2_checkIdle_38 : decode cX2_checkIdle 38 = .ok (.ireturn, 1) := by decide +kernel
theorem dX2_closeIdle_0 : decode cX2_closeIdle 0 = .ok (.iconst 0, 1) := by decide +kernel
theorem dX2_closeIdle_1 : decode cX2_closeIdle 1 = .ok (.istore_n 1, 1) := by decide +kernel
theorem dX2_closeIdle_2 : decode cX2_closeIdle 2 = .ok (.iconst 0, 1) := by decide +kernel
theorem dX2_closeIdle_3 : decode cX2_closeIdle 3 = .ok (.istore_n 2, 1) := by decide +kernel
theorem dX2_closeIdle_4 : decode cX2_closeIdle 4 = .ok (.iload_n 2, 1) := by decide +kernel
theorem dX2_closeIdle_5 : decode cX2_closeIdle 5 = .ok (.bipush 8, 2) := by decide +kernel
theorem dX2_closeIdle_7 : decode cX2_closeIdle 7 = .ok (.if_icmp .ge 27, 3) := by decide +kernel
theorem dX2_closeIdle_10 : decode cX2_closeIdle 10 = .ok (.aload_n 0, 1) := by decide +kernel
theorem dX2_closeIdle_11 : decode cX2_closeIdle 11 = .ok (.getfield 15, 3) := by decide +kernel
theorem dX2_closeIdle_14 : decode cX2_closeIdle 14 = .ok (.iload_n 2, 1) := by decide +kernel
theorem dX2_closeIdle_15 : decode cX2_closeIdle 15 = .ok (.iaload, 1) := by decide +kernel
theorem dX2_closeIdle_16 : decode cX2_closeIdle 16 = .ok (.iconst 1, 1) := by decide +kernel
theorem dX2_closeIdle_17 : decode cX2_closeIdle 17 = .ok (.if_icmp .ne 11, 3) := by decide +kernel
theorem dX2_closeIdle_20 : decode cX2_closeIdle 20 = .ok (.aload_n 0, 1) := by decide +kernel
theorem dX2_closeIdle_21 : decode cX2_closeIdle 21 = .ok (.iload_n 2, 1) := by decide +kernel
theorem dX2_closeIdle_22 : decode cX2_closeIdle 22 = .ok (.invokevirtual 123, 3) := by decide +kernel
theorem dX2_closeIdle_25 : decode cX2_closeIdle 25 = .ok (.iinc 1 1, 3) := by decide +kernel
theorem dX2_closeIdle_28 : decode cX2_closeIdle 28 = .ok (.iinc 2 1, 3) := by decide +kernel
theorem dX2_closeIdle_31 : decode cX2_closeIdle 31 = .ok (.goto (-27), 3) := by decide +kernel
theorem dX2_closeIdle_34 : decode cX2_closeIdle 34 = .ok (.iload_n 1, 1) := by decide +kernel
theorem dX2_closeIdle_35 : decode cX2_closeIdle 35 = .ok (.ireturn, 1) := by decide +kernel
theorem dX2_closeLeasesOfVanished_0 : decode cX2_closeLeasesOfVanished 0 = .ok (.iconst 0, 1) := by decide +kernel
theorem dX2_closeLeasesOfVanished_1 : decode cX2_closeLeasesOfVanished 1 = .ok (.istore_n 1, 1) := by decide +kernel
theorem dX2_closeLeasesOfVanished_2 : decode cX2_closeLeasesOfVanished 2 = .ok (.iload_n 1, 1) := by decide +kernel
theorem dX2_closeLeasesOfVanished_3 : decode cX2_closeLeasesOfVanished 3 = .ok (.bipush 8, 2) := by decide +kernel
theorem dX2_closeLeasesOfVanished_5 : decode cX2_closeLeasesOfVanished 5 = .ok (.if_icmp .ge 68, 3) := by decide +kernel
theorem dX2_closeLeasesOfVanished_8 : decode cX2_closeLeasesOfVanished 8 = .ok (.aload_n 0, 1) := by decide +kernel
theorem dX2_closeLeasesOfVanished_9 : decode cX2_closeLeasesOfVanished 9 = .ok (.getfield 15, 3) := by decide +kernel
theorem dX2_closeLeasesOfVanished_12 : decode cX2_closeLeasesOfVanished 12 = .ok (.iload_n 1, 1) := by decide +kernel
theorem dX2_closeLeasesOfVanished_13 : decode cX2_closeLeasesOfVanished 13 = .ok (.iaload, 1) := by decide +kernel
theorem dX2_closeLeasesOfVanished_14 : decode cX2_closeLeasesOfVanished 14 = .ok (.iconst 2, 1) := by decide +kernel
theorem dX2_closeLeasesOfVanished_15 : decode cX2_closeLeasesOfVanished 15 = .ok (.if_icmp .ne 52, 3) := by decide +kernel
theorem dX2_closeLeasesOfVanished_18 : decode cX2_closeLeasesOfVanished 18 = .ok (.aload_n 0, 1) := by decide +kernel
theorem dX2_closeLeasesOfVanished_19 : decode cX2_closeLeasesOfVanished 19 = .ok (.getfield 34, 3) := by decide +kernel
theorem dX2_closeLeasesOfVanished_22 : decode cX2_closeLeasesOfVanished 22 = .ok (.aload_n 0, 1) := by decide +kernel
theorem dX2_closeLeasesOfVanished_23 : decode cX2_closeLeasesOfVanished 23 = .ok (.getfield 18, 3) := by decide +kernel
theorem dX2_closeLeasesOfVanished_26 : decode cX2_closeLeasesOfVanished 26 = .ok (.iload_n 1, 1) := by decide +kernel
theorem dX2_closeLeasesOfVanished_27 : decode cX2_closeLeasesOfVanished 27 = .ok (.iaload, 1) := by decide +kernel
theorem dX2_closeLeasesOfVanished_28 : decode cX2_closeLeasesOfVanished 28 = .ok (.baload, 1) := by decide +kernel
theorem dX2_closeLeasesOfVanished_29 : decode cX2_closeLeasesOfVanished 29 = .ok (.ifCond .eq 38, 3) := by decide +kernel
theorem dX2_closeLeasesOfVanished_32 : decode cX2_closeLeasesOfVanished 32 = .ok (.aload_n 0, 1) := by decide +kernel
theorem dX2_closeLeasesOfVanished_33 : decode cX2_closeLeasesOfVanished 33 = .ok (.getfield 64, 3) := by decide +kernel
theorem dX2_closeLeasesOfVanished_36 : decode cX2_closeLeasesOfVanished 36 = .ok (.aload_n 0, 1) := by decide +kernel
theorem dX2_closeLeasesOfVanished_37 : decode cX2_closeLeasesOfVanished 37 = .ok (.getfield 28, 3) := by decide +kernel
theorem dX2_closeLeasesOfVanished_40 : decode cX2_closeLeasesOfVanished 40 = .ok (.iload_n 1, 1) := by decide +kernel
theorem dX2_closeLeasesOfVanished_41 : decode cX2_closeLeasesOfVanished 41 = .ok (.iaload, 1) := by decide +kernel
theorem dX2_closeLeasesOfVanished_42 : decode cX2_closeLeasesOfVanished 42 = .ok (.isub, 1) := by decide +kernel
theorem dX2_closeLeasesOfVanished_43 : decode cX2_closeLeasesOfVanished 43 = .ok (.aload_n 0, 1) := by decide +kernel
theorem dX2_closeLeasesOfVanished_44 : decode cX2_closeLeasesOfVanished 44 = .ok (.getfield 9, 3) := by decide +kernel
theorem dX2_closeLeasesOfVanished_47 : decode cX2_closeLeasesOfVanished 47 = .ok (.iconst 5, 1) := by decide +kernel
theorem dX2_closeLeasesOfVanished_48 : decode cX2_closeLeasesOfVanished 48 = .ok (.iaload, 1) := by decide +kernel
theorem dX2_closeLeasesOfVanished_49 : decode cX2_closeLeasesOfVanished 49 = .ok (.if_icmp .lt 18, 3) := by decide +kernel
theorem dX2_closeLeasesOfVanished_52 : decode cX2_closeLeasesOfVanished 52 = .ok (.aload_n 0, 1) := by decide +kernel
theorem dX2_closeLeasesOfVanished_53 : decode cX2_closeLeasesOfVanished 53 = .ok (.iload_n 1, 1) := by decide +kernel
theorem dX2_closeLeasesOfVanished_54 : decode cX2_closeLeasesOfVanished 54 = .ok (.invokevirtual 123, 3) := by decide +kernel
theorem dX2_closeLeasesOfVanished_57 : decode cX2_closeLeasesOfVanished 57 = .ok (.aload_n 0, 1) := by decide +kernel
theorem dX2_closeLeasesOfVanished_58 : decode cX2_closeLeasesOfVanished 58 = .ok (.getfield 52, 3) := by decide +kernel
theorem dX2_closeLeasesOfVanished_61 : decode cX2_closeLeasesOfVanished 61 = .ok (.iconst 4, 1) := by decide +kernel
theorem dX2_closeLeasesOfVanished_62 : decode cX2_closeLeasesOfVanished 62 = .ok (.dup2, 1) := by decide +kernel
theorem dX2_closeLeasesOfVanished_63 : decode cX2_closeLeasesOfVanished 63 = .ok (.iaload, 1) := by decide +kernel
theorem dX2_closeLeasesOfVanished_64 : decode cX2_closeLeasesOfVanished 64 = .ok (.iconst 1, 1) := by decide +kernel
theorem dX2_closeLeasesOfVanished_65 : decode cX2_closeLeasesOfVanished 65 = .ok (.iadd, 1) := by decide +kernel
theorem dX2_closeLeasesOfVanished_66 : decode cX2_closeLeasesOfVanished 66 = .ok (.iastore, 1) := by decide +kernel
theorem dX2_closeLeasesOfVanished_67 : decode cX2_closeLeasesOfVanished 67 = .ok (.iinc 1 1, 3) := by decide +kernel
theorem dX2_closeLeasesOfVanished_70 : decode cX2_closeLeasesOfVanished 70 = .ok (.goto (-68), 3) := by decide +kernel
theorem dX2_closeLeasesOfVanished_73 : decode cX2_closeLeasesOfVanished 73 = .ok (.return_, 1) := by decide +kernel
theorem dX2_closeIdleTooLong_0 : decode cX2_closeIdleTooLong 0 = .ok (.aload_n 0, 1) := by decide +kernel
theorem dX2_closeIdleTooLong_1 : decode cX2_closeIdleTooLong 1 = .ok (.invokevirtual 94, 3) := by decide +kernel
theorem dX2_closeIdleTooLong_4 : decode cX2_closeIdleTooLong 4 = .ok (.istore_n 1, 1) := by decide +kernel
theorem dX2_closeIdleTooLong_5 : decode cX2_closeIdleTooLong 5 = .ok (.iconst 0, 1) := by decide +kernel
theorem dX2_closeIdleTooLong_6 : decode cX2_closeIdleTooLong 6 = .ok (.istore_n 2, 1) := by decide +kernel
theorem dX2_closeIdleTooLong_7 : decode cX2_closeIdleTooLong 7 = .ok (.iload_n 2, 1) := by decide +kernel
theorem dX2_closeIdleTooLong_8 : decode cX2_closeIdleTooLong 8 = .ok (.bipush 8, 2) := by decide +kernel
theorem dX2_closeIdleTooLong_10 : decode cX2_closeIdleTooLong 10 = .ok (.if_icmp .ge 68, 3) := by decide +kernel
theorem dX2_closeIdleTooLong_13 : decode cX2_closeIdleTooLong 13 = .ok (.iload_n 1, 1) := by decide +kernel
theorem dX2_closeIdleTooLong_14 : decode cX2_closeIdleTooLong 14 = .ok (.aload_n 0, 1) := by decide +kernel
theorem dX2_closeIdleTooLong_15 : decode cX2_closeIdleTooLong 15 = .ok (.getfield 9, 3) := by decide +kernel
theorem dX2_closeIdleTooLong_18 : decode cX2_closeIdleTooLong 18 = .ok (.iconst 2, 1) := by decide +kernel
theorem dX2_closeIdleTooLong_19 : decode cX2_closeIdleTooLong 19 = .ok (.iaload, 1) := by decide +kernel
theorem dX2_closeIdleTooLong_20 : decode cX2_closeIdleTooLong 20 = .ok (.if_icmp .le 58, 3) := by decide +kernel
theorem dX2_closeIdleTooLong_23 : decode cX2_closeIdleTooLong 23 = .ok (.aload_n 0, 1) := by decide +kernel
theorem dX2_closeIdleTooLong_24 : decode cX2_closeIdleTooLong 24 = .ok (.getfield 15, 3) := by decide +kernel
theorem dX2_closeIdleTooLong_27 : decode cX2_closeIdleTooLong 27 = .ok (.iload_n 2, 1) := by decide +kernel
theorem dX2_closeIdleTooLong_28 : decode cX2_closeIdleTooLong 28 = .ok (.iaload, 1) := by decide +kernel
theorem dX2_closeIdleTooLong_29 : decode cX2_closeIdleTooLong 29 = .ok (.iconst 1, 1) := by decide +kernel
theorem dX2_closeIdleTooLong_30 : decode cX2_closeIdleTooLong 30 = .ok (.if_icmp .ne 42, 3) := by decide +kernel
theorem dX2_closeIdleTooLong_33 : decode cX2_closeIdleTooLong 33 = .ok (.aload_n 0, 1) := by decide +kernel
theorem dX2_closeIdleTooLong_34 : decode cX2_closeIdleTooLong 34 = .ok (.getfield 64, 3) := by decide +kernel
theorem dX2_closeIdleTooLong_37 : decode cX2_closeIdleTooLong 37 = .ok (.aload_n 0, 1) := by decide +kernel
theorem dX2_closeIdleTooLong_38 : decode cX2_closeIdleTooLong 38 = .ok (.getfield 28, 3) := by decide +kernel
theorem dX2_closeIdleTooLong_41 : decode cX2_closeIdleTooLong 41 = .ok (.iload_n 2, 1) := by decide +kernel
theorem dX2_closeIdleTooLong_42 : decode cX2_closeIdleTooLong 42 = .ok (.iaload, 1) := by decide +kernel
theorem dX2_closeIdleTooLong_43 : decode cX2_closeIdleTooLong 43 = .ok (.isub, 1) := by decide +kernel
theorem dX2_closeIdleTooLong_44 : decode cX2_closeIdleTooLong 44 = .ok (.aload_n 0, 1) := by decide +kernel
theorem dX2_closeIdleTooLong_45 : decode cX2_closeIdleTooLong 45 = .ok (.getfield 9, 3) := by decide +kernel
theorem dX2_closeIdleTooLong_48 : decode cX2_closeIdleTooLong 48 = .ok (.bipush 7, 2) := by decide +kernel
theorem dX2_closeIdleTooLong_50 : decode cX2_closeIdleTooLong 50 = .ok (.iaload, 1) := by decide +kernel
theorem dX2_closeIdleTooLong_51 : decode cX2_closeIdleTooLong 51 = .ok (.if_icmp .lt 21, 3) := by decide +kernel
theorem dX2_closeIdleTooLong_54 : decode cX2_closeIdleTooLong 54 = .ok (.aload_n 0, 1) := by decide +kernel
theorem dX2_closeIdleTooLong_55 : decode cX2_closeIdleTooLong 55 = .ok (.iload_n 2, 1) := by decide +kernel
theorem dX2_closeIdleTooLong_56 : decode cX2_closeIdleTooLong 56 = .ok (.invokevirtual 123, 3) := by decide +kernel
theorem dX2_closeIdleTooLong_59 : decode cX2_closeIdleTooLong 59 = .ok (.aload_n 0, 1) := by decide +kernel
theorem dX2_closeIdleTooLong_60 : decode cX2_closeIdleTooLong 60 = .ok (.getfield 52, 3) := by decide +kernel
theorem dX2_closeIdleTooLong_63 : decode cX2_closeIdleTooLong 63 = .ok (.iconst 3, 1) := by decide +kernel
theorem dX2_closeIdleTooLong_64 : decode cX2_closeIdleTooLong 64 = .ok (.dup2, 1) := by decide +kernel
theorem dX2_closeIdleTooLong_65 : decode cX2_closeIdleTooLong 65 = .ok (.iaload, 1) := by decide +kernel
theorem dX2_closeIdleTooLong_66 : decode cX2_closeIdleTooLong 66 = .ok (.iconst 1, 1) := by decide +kernel
theorem dX2_closeIdleTooLong_67 : decode cX2_closeIdleTooLong 67 = .ok (.iadd, 1) := by decide +kernel
theorem dX2_closeIdleTooLong_68 : decode cX2_closeIdleTooLong 68 = .ok (.iastore, 1) := by decide +kernel
theorem dX2_closeIdleTooLong_69 : decode cX2_closeIdleTooLong 69 = .ok (.iinc 1 (-1), 3) := by decide +kernel
theorem dX2_closeIdleTooLong_72 : decode cX2_closeIdleTooLong 72 = .ok (.iinc 2 1, 3) := by decide +kernel
theorem dX2_closeIdleTooLong_75 : decode cX2_closeIdleTooLong 75 = .ok (.goto (-68), 3) := by decide +kernel
theorem dX2_closeIdleTooLong_78 : decode cX2_closeIdleTooLong 78 = .ok (.return_, 1) := by decide +kernel
theorem dX2_dropTiredWaiters_0 : decode cX2_dropTiredWaiters 0 = .ok (.iconst 0, 1) := by decide +kernel
theorem dX2_dropTiredWaiters_1 : decode cX2_dropTiredWaiters 1 = .ok (.istore_n 1, 1) := by decide +kernel
theorem dX2_dropTiredWaiters_2 : decode cX2_dropTiredWaiters 2 = .ok (.aload_n 0, 1) := by decide +kernel
theorem dX2_dropTiredWaiters_3 : decode cX2_dropTiredWaiters 3 = .ok (.getfield 68, 3) := by decide +kernel
theorem dX2_dropTiredWaiters_6 : decode cX2_dropTiredWaiters 6 = .ok (.iconst 1, 1) := by decide +kernel
theorem dX2_dropTiredWaiters_7 : decode cX2_dropTiredWaiters 7 = .ok (.isub, 1) := by decide +kernel
theorem dX2_dropTiredWaiters_8 : decode cX2_dropTiredWaiters 8 = .ok (.istore_n 2, 1) := by decide +kernel
theorem dX2_dropTiredWaiters_9 : decode cX2_dropTiredWaiters 9 = .ok (.iload_n 2, 1) := by decide +kernel
theorem dX2_dropTiredWaiters_10 : decode cX2_dropTiredWaiters 10 = .ok (.ifCond .lt 55, 3) := by decide +kernel
theorem dX2_dropTiredWaiters_13 : decode cX2_dropTiredWaiters 13 = .ok (.aload_n 0, 1) := by decide +kernel
theorem dX2_dropTiredWaiters_14 : decode cX2_dropTiredWaiters 14 = .ok (.getfield 49, 3) := by decide +kernel
theorem dX2_dropTiredWaiters_17 : decode cX2_dropTiredWaiters 17 = .ok (.iload_n 2, 1) := by decide +kernel
theorem dX2_dropTiredWaiters_18 : decode cX2_dropTiredWaiters 18 = .ok (.iaload, 1) := by decide +kernel
theorem dX2_dropTiredWaiters_19 : decode cX2_dropTiredWaiters 19 = .ok (.istore_n 3, 1) := by decide +kernel
theorem dX2_dropTiredWaiters_20 : decode cX2_dropTiredWaiters 20 = .ok (.aload_n 0, 1) := by decide +kernel
theorem dX2_dropTiredWaiters_21 : decode cX2_dropTiredWaiters 21 = .ok (.getfield 64, 3) := by decide +kernel
theorem dX2_dropTiredWaiters_24 : decode cX2_dropTiredWaiters 24 = .ok (.aload_n 0, 1) := by decide +kernel
theorem dX2_dropTiredWaiters_25 : decode cX2_dropTiredWaiters 25 = .ok (.getfield 46, 3) := by decide +kernel
theorem dX2_dropTiredWaiters_28 : decode cX2_dropTiredWaiters 28 = .ok (.iload_n 3, 1) := by decide +kernel
theorem dX2_dropTiredWaiters_29 : decode cX2_dropTiredWaiters 29 = .ok (.iaload, 1) := by decide +kernel
theorem dX2_dropTiredWaiters_30 : decode cX2_dropTiredWaiters 30 = .ok (.isub, 1) := by decide +kernel
theorem dX2_dropTiredWaiters_31 : decode cX2_dropTiredWaiters 31 = .ok (.aload_n 0, 1) := by decide +kernel
theorem dX2_dropTiredWaiters_32 : decode cX2_dropTiredWaiters 32 = .ok (.getfield 9, 3) := by decide +kernel
theorem dX2_dropTiredWaiters_35 : decode cX2_dropTiredWaiters 35 = .ok (.bipush 8, 2) := by decide +kernel
theorem dX2_dropTiredWaiters_37 : decode cX2_dropTiredWaiters 37 = .ok (.iaload, 1) := by decide +kernel
theorem dX2_dropTiredWaiters_38 : decode cX2_dropTiredWaiters 38 = .ok (.if_icmp .lt 21, 3) := by decide +kernel
theorem dX2_dropTiredWaiters_41 : decode cX2_dropTiredWaiters 41 = .ok (.aload_n 0, 1) := by decide +kernel
theorem dX2_dropTiredWaiters_42 : decode cX2_dropTiredWaiters 42 = .ok (.iload_n 2, 1) := by decide +kernel
theorem dX2_dropTiredWaiters_43 : decode cX2_dropTiredWaiters 43 = .ok (.invokevirtual 104, 3) := by decide +kernel
theorem dX2_dropTiredWaiters_46 : decode cX2_dropTiredWaiters 46 = .ok (.aload_n 0, 1) := by decide +kernel
theorem dX2_dropTiredWaiters_47 : decode cX2_dropTiredWaiters 47 = .ok (.getfield 40, 3) := by decide +kernel
theorem dX2_dropTiredWaiters_50 : decode cX2_dropTiredWaiters 50 = .ok (.iload_n 3, 1) := by decide +kernel
theorem dX2_dropTiredWaiters_51 : decode cX2_dropTiredWaiters 51 = .ok (.dup2, 1) := by decide +kernel
theorem dX2_dropTiredWaiters_52 : decode cX2_dropTiredWaiters 52 = .ok (.iaload, 1) := by decide +kernel
theorem dX2_dropTiredWaiters_53 : decode cX2_dropTiredWaiters 53 = .ok (.iconst 1, 1) := by decide +kernel
theorem dX2_dropTiredWaiters_54 : decode cX2_dropTiredWaiters 54 = .ok (.iadd, 1) := by decide +kernel
theorem dX2_dropTiredWaiters_55 : decode cX2_dropTiredWaiters 55 = .ok (.iastore, 1) := by decide +kernel
theorem dX2_dropTiredWaiters_56 : decode cX2_dropTiredWaiters 56 = .ok (.iinc 1 1, 3) := by decide +kernel
theorem dX2_dropTiredWaiters_59 : decode cX2_dropTiredWaiters 59 = .ok (.iinc 2 (-1), 3) := by decide +kernel
theorem dX2_dropTiredWaiters_62 : decode cX2_dropTiredWaiters 62 = .ok (.goto (-53), 3) := by decide +kernel
theorem dX2_dropTiredWaiters_65 : decode cX2_dropTiredWaiters 65 = .ok (.iload_n 1, 1) := by decide +kernel
theorem dX2_dropTiredWaiters_66 : decode cX2_dropTiredWaiters 66 = .ok (.ireturn, 1) := by decide +kernel
theorem dX2_leave_0 : decode cX2_leave 0 = .ok (.iload_n 1, 1) := by decide +kernel
theorem dX2_leave_1 : decode cX2_leave 1 = .ok (.ifCond .lt 11, 3) := by decide +kernel
theorem dX2_leave_4 : decode cX2_leave 4 = .ok (.iload_n 1, 1) := by decide +kernel
theorem dX2_leave_5 : decode cX2_leave 5 = .ok (.aload_n 0, 1) := by decide +kernel
theorem dX2_leave_6 : decode cX2_leave 6 = .ok (.getfield 68, 3) := by decide +kernel
theorem dX2_leave_9 : decode cX2_leave 9 = .ok (.if_icmp .lt 4, 3) := by decide +kernel
theorem dX2_leave_12 : decode cX2_leave 12 = .ok (.return_, 1) := by decide +kernel
theorem dX2_leave_13 : decode cX2_leave 13 = .ok (.iload_n 1, 1) := by decide +kernel
theorem dX2_leave_14 : decode cX2_leave 14 = .ok (.istore_n 2, 1) := by decide +kernel
theorem dX2_leave_15 : decode cX2_leave 15 = .ok (.iload_n 2, 1) := by decide +kernel
theorem dX2_leave_16 : decode cX2_leave 16 = .ok (.iconst 1, 1) := by decide +kernel
theorem dX2_leave_17 : decode cX2_leave 17 = .ok (.iadd, 1) := by decide +kernel
theorem dX2_leave_18 : decode cX2_leave 18 = .ok (.aload_n 0, 1) := by decide +kernel
theorem dX2_leave_19 : decode cX2_leave 19 = .ok (.getfield 68, 3) := by decide +kernel
theorem dX2_leave_22 : decode cX2_leave 22 = .ok (.if_icmp .ge 23, 3) := by decide +kernel
theorem dX2_leave_25 : decode cX2_leave 25 = .ok (.aload_n 0, 1) := by decide +kernel
theorem dX2_leave_26 : decode cX2_leave 26 = .ok (.getfield 49, 3) := by decide +kernel
theorem dX2_leave_29 : decode cX2_leave 29 = .ok (.iload_n 2, 1) := by decide +kernel
theorem dX2_leave_30 : decode cX2_leave 30 = .ok (.aload_n 0, 1) := by decide +kernel
theorem dX2_leave_31 : decode cX2_leave 31 = .ok (.getfield 49, 3) := by decide +kernel
theorem dX2_leave_34 : decode cX2_leave 34 = .ok (.iload_n 2, 1) := by decide +kernel
theorem dX2_leave_35 : decode cX2_leave 35 = .ok (.iconst 1, 1) := by decide +kernel
theorem dX2_leave_36 : decode cX2_leave 36 = .ok (.iadd, 1) := by decide +kernel
theorem dX2_leave_37 : decode cX2_leave 37 = .ok (.iaload, 1) := by decide +kernel
theorem dX2_leave_38 : decode cX2_leave 38 = .ok (.iastore, 1) := by decide +kernel
theorem dX2_leave_39 : decode cX2_leave 39 = .ok (.iinc 2 1, 3) := by decide +kernel
theorem dX2_leave_42 : decode cX2_leave 42 = .ok (.goto (-27), 3) := by decide +kernel
theorem dX2_leave_45 : decode cX2_leave 45 = .ok (.aload_n 0, 1) := by decide +kernel
theorem dX2_leave_46 : decode cX2_leave 46 = .ok (.dup, 1) := by decide +kernel
theorem dX2_leave_47 : decode cX2_leave 47 = .ok (.getfield 68, 3) := by decide +kernel
theorem dX2_leave_50 : decode cX2_leave 50 = .ok (.iconst 1, 1) := by decide +kernel
theorem dX2_leave_51 : decode cX2_leave 51 = .ok (.isub, 1) := by decide +kernel
theorem dX2_leave_52 : decode cX2_leave 52 = .ok (.putfield 68, 3) := by decide +kernel
theorem dX2_leave_55 : decode cX2_leave 55 = .ok (.return_, 1) := by decide +kernel
theorem dX2_serveWaiters_0 : decode cX2_serveWaiters 0 = .ok (.iconst (-1), 1) := by decide +kernel
theorem dX2_serveWaiters_1 : decode cX2_serveWaiters 1 = .ok (.istore_n 2, 1) := by decide +kernel
theorem dX2_serveWaiters_2 : decode cX2_serveWaiters 2 = .ok (.iconst 0, 1) := by decide +kernel
theorem dX2_serveWaiters_3 : decode cX2_serveWaiters 3 = .ok (.istore_n 3, 1) := by decide +kernel
theorem dX2_serveWaiters_4 : decode cX2_serveWaiters 4 = .ok (.iload_n 3, 1) := by decide +kernel
theorem dX2_serveWaiters_5 : decode cX2_serveWaiters 5 = .ok (.bipush 8, 2) := by decide +kernel
theorem dX2_serveWaiters_7 : decode cX2_serveWaiters 7 = .ok (.if_icmp .ge 94, 3) := by decide +kernel
theorem dX2_serveWaiters_10 : decode cX2_serveWaiters 10 = .ok (.aload_n 0, 1) := by decide +kernel
theorem dX2_serveWaiters_11 : decode cX2_serveWaiters 11 = .ok (.invokevirtual 126, 3) := by decide +kernel
theorem dX2_serveWaiters_14 : decode cX2_serveWaiters 14 = .ok (.istore 4, 2) := by decide +kernel
theorem dX2_serveWaiters_16 : decode cX2_serveWaiters 16 = .ok (.iload 4, 2) := by decide +kernel
theorem dX2_serveWaiters_18 : decode cX2_serveWaiters 18 = .ok (.iconst (-1), 1) := by decide +kernel
theorem dX2_serveWaiters_19 : decode cX2_serveWaiters 19 = .ok (.if_icmp .ne 7, 3) := by decide +kernel
theorem dX2_serveWaiters_22 : decode cX2_serveWaiters 22 = .ok (.iconst (-1), 1) := by decide +kernel
theorem dX2_serveWaiters_23 : decode cX2_serveWaiters 23 = .ok (.goto 7, 3) := by decide +kernel
theorem dX2_serveWaiters_26 : decode cX2_serveWaiters 26 = .ok (.aload_n 0, 1) := by decide +kernel
theorem dX2_serveWaiters_27 : decode cX2_serveWaiters 27 = .ok (.invokevirtual 129, 3) := by decide +kernel
theorem dX2_serveWaiters_30 : decode cX2_serveWaiters 30 = .ok (.istore 5, 2) := by decide +kernel
theorem dX2_serveWaiters_32 : decode cX2_serveWaiters 32 = .ok (.iload 5, 2) := by decide +kernel
theorem dX2_serveWaiters_34 : decode cX2_serveWaiters 34 = .ok (.iconst (-1), 1) := by decide +kernel
theorem dX2_serveWaiters_35 : decode cX2_serveWaiters 35 = .ok (.if_icmp .ne 6, 3) := by decide +kernel
theorem dX2_serveWaiters_38 : decode cX2_serveWaiters 38 = .ok (.goto 63, 3) := by decide +kernel
theorem dX2_serveWaiters_41 : decode cX2_serveWaiters 41 = .ok (.aload_n 0, 1) := by decide +kernel
theorem dX2_serveWaiters_42 : decode cX2_serveWaiters 42 = .ok (.getfield 49, 3) := by decide +kernel
theorem dX2_serveWaiters_45 : decode cX2_serveWaiters 45 = .ok (.iload 4, 2) := by decide +kernel
theorem dX2_serveWaiters_47 : decode cX2_serveWaiters 47 = .ok (.iaload, 1) := by decide +kernel
theorem dX2_serveWaiters_48 : decode cX2_serveWaiters 48 = .ok (.istore 6, 2) := by decide +kernel
theorem dX2_serveWaiters_50 : decode cX2_serveWaiters 50 = .ok (.aload_n 0, 1) := by decide +kernel
theorem dX2_serveWaiters_51 : decode cX2_serveWaiters 51 = .ok (.getfield 43, 3) := by decide +kernel
theorem dX2_serveWaiters_54 : decode cX2_serveWaiters 54 = .ok (.iload 6, 2) := by decide +kernel
theorem dX2_serveWaiters_56 : decode cX2_serveWaiters 56 = .ok (.dup2, 1) := by decide +kernel
theorem dX2_serveWaiters_57 : decode cX2_serveWaiters 57 = .ok (.iaload, 1) := by decide +kernel
theorem dX2_serveWaiters_58 : decode cX2_serveWaiters 58 = .ok (.aload_n 0, 1) := by decide +kernel
theorem dX2_serveWaiters_59 : decode cX2_serveWaiters 59 = .ok (.getfield 64, 3) := by decide +kernel
theorem dX2_serveWaiters_62 : decode cX2_serveWaiters 62 = .ok (.aload_n 0, 1) := by decide +kernel
theorem dX2_serveWaiters_63 : decode cX2_serveWaiters 63 = .ok (.getfield 46, 3) := by decide +kernel
theorem dX2_serveWaiters_66 : decode cX2_serveWaiters 66 = .ok (.iload 6, 2) := by decide +kernel
theorem dX2_serveWaiters_68 : decode cX2_serveWaiters 68 = .ok (.iaload, 1) := by decide +kernel
theorem dX2_serveWaiters_69 : decode cX2_serveWaiters 69 = .ok (.isub, 1) := by decide +kernel
theorem dX2_serveWaiters_70 : decode cX2_serveWaiters 70 = .ok (.iadd, 1) := by decide +kernel
theorem dX2_serveWaiters_71 : decode cX2_serveWaiters 71 = .ok (.iastore, 1) := by decide +kernel
theorem dX2_serveWaiters_72 : decode cX2_serveWaiters 72 = .ok (.aload_n 0, 1) := by decide +kernel
theorem dX2_serveWaiters_73 : decode cX2_serveWaiters 73 = .ok (.iload 4, 2) := by decide +kernel
theorem dX2_serveWaiters_75 : decode cX2_serveWaiters 75 = .ok (.invokevirtual 104, 3) := by decide +kernel
theorem dX2_serveWaiters_78 : decode cX2_serveWaiters 78 = .ok (.aload_n 0, 1) := by decide +kernel
theorem dX2_serveWaiters_79 : decode cX2_serveWaiters 79 = .ok (.iload 5, 2) := by decide +kernel
theorem dX2_serveWaiters_81 : decode cX2_serveWaiters 81 = .ok (.iload 6, 2) := by decide +kernel
theorem dX2_serveWaiters_83 : decode cX2_serveWaiters 83 = .ok (.invokevirtual 132, 3) := by decide +kernel
theorem dX2_serveWaiters_86 : decode cX2_serveWaiters 86 = .ok (.iload 6, 2) := by decide +kernel
theorem dX2_serveWaiters_88 : decode cX2_serveWaiters 88 = .ok (.iload_n 1, 1) := by decide +kernel
theorem dX2_serveWaiters_89 : decode cX2_serveWaiters 89 = .ok (.if_icmp .ne 6, 3) := by decide +kernel
theorem dX2_serveWaiters_92 : decode cX2_serveWaiters 92 = .ok (.iload 5, 2) := by decide +kernel
theorem dX2_serveWaiters_94 : decode cX2_serveWaiters 94 = .ok (.istore_n 2, 1) := by decide +kernel
theorem dX2_serveWaiters_95 : decode cX2_serveWaiters 95 = .ok (.iinc 3 1, 3) := by decide +kernel
theorem dX2_serveWaiters_98 : decode cX2_serveWaiters 98 = .ok (.goto (-94), 3) := by decide +kernel
theorem dX2_serveWaiters_101 : decode cX2_serveWaiters 101 = .ok (.iload_n 2, 1) := by decide +kernel
theorem dX2_serveWaiters_102 : decode cX2_serveWaiters 102 = .ok (.ireturn, 1) := by decide +kernel
theorem dX2_firstTurnThatMayHaveOne_0 : decode cX2_firstTurnThatMayHaveOne 0 = .ok (.iconst 0, 1) := by decide +kernel
theorem dX2_firstTurnThatMayHaveOne_1 : decode cX2_firstTurnThatMayHaveOne 1 = .ok (.istore_n 1, 1) := by decide +kernel
theorem dX2_firstTurnThatMayHaveOne_2 : decode cX2_firstTurnThatMayHaveOne 2 = .ok (.iload_n 1, 1) := by decide +kernel
theorem dX2_firstTurnThatMayHaveOne_3 : decode cX2_firstTurnThatMayHaveOne 3 = .ok (.aload_n 0, 1) := by decide +kernel
theorem dX2_firstTurnThatMayHaveOne_4 : decode cX2_firstTurnThatMayHaveOne 4 = .ok (.getfield 68, 3) := by decide +kernel
theorem dX2_firstTurnThatMayHaveOne_7 : decode cX2_firstTurnThatMayHaveOne 7 = .ok (.if_icmp .ge 24, 3) := by decide +kernel
theorem dX2_firstTurnThatMayHaveOne_10 : decode cX2_firstTurnThatMayHaveOne 10 = .ok (.aload_n 0, 1) := by decide +kernel
theorem dX2_firstTurnThatMayHaveOne_11 : decode cX2_firstTurnThatMayHaveOne 11 = .ok (.aload_n 0, 1) := by decide +kernel
theorem dX2_firstTurnThatMayHaveOne_12 : decode cX2_firstTurnThatMayHaveOne 12 = .ok (.getfield 49, 3) := by decide +kernel
theorem dX2_firstTurnThatMayHaveOne_15 : decode cX2_firstTurnThatMayHaveOne 15 = .ok (.iload_n 1, 1) := by decide +kernel
theorem dX2_firstTurnThatMayHaveOne_16 : decode cX2_firstTurnThatMayHaveOne 16 = .ok (.iaload, 1) := by decide +kernel
theorem dX2_firstTurnThatMayHaveOne_17 : decode cX2_firstTurnThatMayHaveOne 17 = .ok (.invokevirtual 136, 3) := by decide +kernel
theorem dX2_firstTurnThatMayHaveOne_20 : decode cX2_firstTurnThatMayHaveOne 20 = .ok (.ifCond .eq 5, 3) := by decide +kernel
theorem dX2_firstTurnThatMayHaveOne_23 : decode cX2_firstTurnThatMayHaveOne 23 = .ok (.iload_n 1, 1) := by decide +kernel
theorem dX2_firstTurnThatMayHaveOne_24 : decode cX2_firstTurnThatMayHaveOne 24 = .ok (.ireturn, 1) := by decide +kernel
theorem dX2_firstTurnThatMayHaveOne_25 : decode cX2_firstTurnThatMayHaveOne 25 = .ok (.iinc 1 1, 3) := by decide +kernel
theorem dX2_firstTurnThatMayHaveOne_28 : decode cX2_firstTurnThatMayHaveOne 28 = .ok (.goto (-26), 3) := by decide +kernel
theorem dX2_firstTurnThatMayHaveOne_31 : decode cX2_firstTurnThatMayHaveOne 31 = .ok (.iconst (-1), 1) := by decide +kernel
theorem dX2_firstTurnThatMayHaveOne_32 : decode cX2_firstTurnThatMayHaveOne 32 = .ok (.ireturn, 1) := by decide +kernel
theorem dX2_findConnection_0 : decode cX2_findConnection 0 = .ok (.iconst 0, 1) := by decide +kernel
theorem dX2_findConnection_1 : decode cX2_findConnection 1 = .ok (.istore_n 1, 1) := by decide +kernel
theorem dX2_findConnection_2 : decode cX2_findConnection 2 = .ok (.iload_n 1, 1) := by decide +kernel
theorem dX2_findConnection_3 : decode cX2_findConnection 3 = .ok (.bipush 8, 2) := by decide +kernel
theorem dX2_findConnection_5 : decode cX2_findConnection 5 = .ok (.if_icmp .ge 41, 3) := by decide +kernel
theorem dX2_findConnection_8 : decode cX2_findConnection 8 = .ok (.aload_n 0, 1) := by decide +kernel
theorem dX2_findConnection_9 : decode cX2_findConnection 9 = .ok (.invokevirtual 139, 3) := by decide +kernel
theorem dX2_findConnection_12 : decode cX2_findConnection 12 = .ok (.istore_n 2, 1) := by decide +kernel
theorem dX2_findConnection_13 : decode cX2_findConnection 13 = .ok (.iload_n 2, 1) := by decide +kernel
theorem dX2_findConnection_14 : decode cX2_findConnection 14 = .ok (.iconst (-1), 1) := by decide +kernel
theorem dX2_findConnection_15 : decode cX2_findConnection 15 = .ok (.if_icmp .ne 6, 3) := by decide +kernel
theorem dX2_findConnection_18 : decode cX2_findConnection 18 = .ok (.goto 28, 3) := by decide +kernel
theorem dX2_findConnection_21 : decode cX2_findConnection 21 = .ok (.aload_n 0, 1) := by decide +kernel
theorem dX2_findConnection_22 : decode cX2_findConnection 22 = .ok (.getfield 9, 3) := by decide +kernel
theorem dX2_findConnection_25 : decode cX2_findConnection 25 = .ok (.iconst 4, 1) := by decide +kernel
theorem dX2_findConnection_26 : decode cX2_findConnection 26 = .ok (.iaload, 1) := by decide +kernel
theorem dX2_findConnection_27 : decode cX2_findConnection 27 = .ok (.ifCond .eq 11, 3) := by decide +kernel
theorem dX2_findConnection_30 : decode cX2_findConnection 30 = .ok (.aload_n 0, 1) := by decide +kernel
theorem dX2_findConnection_31 : decode cX2_findConnection 31 = .ok (.iload_n 2, 1) := by decide +kernel
theorem dX2_findConnection_32 : decode cX2_findConnection 32 = .ok (.invokevirtual 120, 3) := by decide +kernel
theorem dX2_findConnection_35 : decode cX2_findConnection 35 = .ok (.ifCond .ne 5, 3) := by decide +kernel
theorem dX2_findConnection_38 : decode cX2_findConnection 38 = .ok (.iload_n 2, 1) := by decide +kernel
theorem dX2_findConnection_39 : decode cX2_findConnection 39 = .ok (.ireturn, 1) := by decide +kernel
theorem dX2_findConnection_40 : decode cX2_findConnection 40 = .ok (.iinc 1 1, 3) := by decide +kernel
theorem dX2_findConnection_43 : decode cX2_findConnection 43 = .ok (.goto (-41), 3) := by decide +kernel
theorem dX2_findConnection_46 : decode cX2_findConnection 46 = .ok (.aload_n 0, 1) := by decide +kernel
theorem dX2_findConnection_47 : decode cX2_findConnection 47 = .ok (.invokevirtual 94, 3) := by decide +kernel
theorem dX2_findConnection_50 : decode cX2_findConnection 50 = .ok (.aload_n 0, 1) := by decide +kernel
theorem dX2_findConnection_51 : decode cX2_findConnection 51 = .ok (.getfield 9, 3) := by decide +kernel
theorem dX2_findConnection_54 : decode cX2_findConnection 54 = .ok (.iconst 0, 1) := by decide +kernel
theorem dX2_findConnection_55 : decode cX2_findConnection 55 = .ok (.iaload, 1) := by decide +kernel
theorem dX2_findConnection_56 : decode cX2_findConnection 56 = .ok (.if_icmp .ge 10, 3) := by decide +kernel
theorem dX2_findConnection_59 : decode cX2_findConnection 59 = .ok (.aload_n 0, 1) := by decide +kernel
theorem dX2_findConnection_60 : decode cX2_findConnection 60 = .ok (.invokevirtual 142, 3) := by decide +kernel
theorem dX2_findConnection_63 : decode cX2_findConnection 63 = .ok (.goto 4, 3) := by decide +kernel
theorem dX2_findConnection_66 : decode cX2_findConnection 66 = .ok (.iconst (-1), 1) := by decide +kernel
theorem dX2_findConnection_67 : decode cX2_findConnection 67 = .ok (.ireturn, 1) := by decide +kernel
theorem dX2_nextIdle_0 : decode cX2_nextIdle 0 = .ok (.iconst (-1), 1) := by decide +kernel
theorem dX2_nextIdle_1 : decode cX2_nextIdle 1 = .ok (.istore_n 1, 1) := by decide +kernel
theorem dX2_nextIdle_2 : decode cX2_nextIdle 2 = .ok (.iconst 0, 1) := by decide +kernel
theorem dX2_nextIdle_3 : decode cX2_nextIdle 3 = .ok (.istore_n 2, 1) := by decide +kernel
theorem dX2_nextIdle_4 : decode cX2_nextIdle 4 = .ok (.iload_n 2, 1) := by decide +kernel
theorem dX2_nextIdle_5 : decode cX2_nextIdle 5 = .ok (.bipush 8, 2) := by decide +kernel
theorem dX2_nextIdle_7 : decode cX2_nextIdle 7 = .ok (.if_icmp .ge 48, 3) := by decide +kernel
theorem dX2_nextIdle_10 : decode cX2_nextIdle 10 = .ok (.aload_n 0, 1) := by decide +kernel
theorem dX2_nextIdle_11 : decode cX2_nextIdle 11 = .ok (.getfield 15, 3) := by decide +kernel
theorem dX2_nextIdle_14 : decode cX2_nextIdle 14 = .ok (.iload_n 2, 1) := by decide +kernel
theorem dX2_nextIdle_15 : decode cX2_nextIdle 15 = .ok (.iaload, 1) := by decide +kernel
theorem dX2_nextIdle_16 : decode cX2_nextIdle 16 = .ok (.iconst 1, 1) := by decide +kernel
theorem dX2_nextIdle_17 : decode cX2_nextIdle 17 = .ok (.if_icmp .eq 6, 3) := by decide +kernel
theorem dX2_nextIdle_20 : decode cX2_nextIdle 20 = .ok (.goto 29, 3) := by decide +kernel
theorem dX2_nextIdle_23 : decode cX2_nextIdle 23 = .ok (.iload_n 1, 1) := by decide +kernel
theorem dX2_nextIdle_24 : decode cX2_nextIdle 24 = .ok (.iconst (-1), 1) := by decide +kernel
theorem dX2_nextIdle_25 : decode cX2_nextIdle 25 = .ok (.if_icmp .eq 22, 3) := by decide +kernel
theorem dX2_nextIdle_28 : decode cX2_nextIdle 28 = .ok (.aload_n 0, 1) := by decide +kernel
theorem dX2_nextIdle_29 : decode cX2_nextIdle 29 = .ok (.aload_n 0, 1) := by decide +kernel
theorem dX2_nextIdle_30 : decode cX2_nextIdle 30 = .ok (.getfield 28, 3) := by decide +kernel
theorem dX2_nextIdle_33 : decode cX2_nextIdle 33 = .ok (.iload_n 2, 1) := by decide +kernel
theorem dX2_nextIdle_34 : decode cX2_nextIdle 34 = .ok (.iaload, 1) := by decide +kernel
theorem dX2_nextIdle_35 : decode cX2_nextIdle 35 = .ok (.aload_n 0, 1) := by decide +kernel
theorem dX2_nextIdle_36 : decode cX2_nextIdle 36 = .ok (.getfield 28, 3) := by decide +kernel
theorem dX2_nextIdle_39 : decode cX2_nextIdle 39 = .ok (.iload_n 1, 1) := by decide +kernel
theorem dX2_nextIdle_40 : decode cX2_nextIdle 40 = .ok (.iaload, 1) := by decide +kernel
theorem dX2_nextIdle_41 : decode cX2_nextIdle 41 = .ok (.invokevirtual 145, 3) := by decide +kernel
theorem dX2_nextIdle_44 : decode cX2_nextIdle 44 = .ok (.ifCond .eq 5, 3) := by decide +kernel
theorem dX2_nextIdle_47 : decode cX2_nextIdle 47 = .ok (.iload_n 2, 1) := by decide +kernel
theorem dX2_nextIdle_48 : decode cX2_nextIdle 48 = .ok (.istore_n 1, 1) := by decide +kernel
theorem dX2_nextIdle_49 : decode cX2_nextIdle 49 = .ok (.iinc 2 1, 3) := by decide +kernel
theorem dX2_nextIdle_52 : decode cX2_nextIdle 52 = .ok (.goto (-48), 3) := by decide +kernel
theorem dX2_nextIdle_55 : decode cX2_nextIdle 55 = .ok (.iload_n 1, 1) := by decide +kernel
theorem dX2_nextIdle_56 : decode cX2_nextIdle 56 = .ok (.ireturn, 1) := by decide +kernel
theorem dX2_isAhead_0 : decode cX2_isAhead 0 = .ok (.aload_n 0, 1) := by decide +kernel
theorem dX2_isAhead_1 : decode cX2_isAhead 1 = .ok (.getfield 9, 3) := by decide +kernel
theorem dX2_isAhead_4 : decode cX2_isAhead 4 = .ok (.iconst 3, 1) := by decide +kernel
theorem dX2_isAhead_5 : decode cX2_isAhead 5 = .ok (.iaload, 1) := by decide +kernel
theorem dX2_isAhead_6 : decode cX2_isAhead 6 = .ok (.iconst 1, 1) := by decide +kernel
theorem dX2_isAhead_7 : decode cX2_isAhead 7 = .ok (.if_icmp .ne 16, 3) := by decide +kernel
theorem dX2_isAhead_10 : decode cX2_isAhead 10 = .ok (.iload_n 1, 1) := by decide +kernel
theorem dX2_isAhead_11 : decode cX2_isAhead 11 = .ok (.iload_n 2, 1) := by decide +kernel
theorem dX2_isAhead_12 : decode cX2_isAhead 12 = .ok (.if_icmp .ge 7, 3) := by decide +kernel
theorem dX2_isAhead_15 : decode cX2_isAhead 15 = .ok (.iconst 1, 1) := by decide +kernel
theorem dX2_isAhead_16 : decode cX2_isAhead 16 = .ok (.goto 17, 3) := by decide +kernel
theorem dX2_isAhead_19 : decode cX2_isAhead 19 = .ok (.iconst 0, 1) := by decide +kernel
theorem dX2_isAhead_20 : decode cX2_isAhead 20 = .ok (.goto 13, 3) := by decide +kernel
theorem dX2_isAhead_23 : decode cX2_isAhead 23 = .ok (.iload_n 1, 1) := by decide +kernel
theorem dX2_isAhead_24 : decode cX2_isAhead 24 = .ok (.iload_n 2, 1) := by decide +kernel
theorem dX2_isAhead_25 : decode cX2_isAhead 25 = .ok (.if_icmp .le 7, 3) := by decide +kernel
theorem dX2_isAhead_28 : decode cX2_isAhead 28 = .ok (.iconst 1, 1) := by decide +kernel
theorem dX2_isAhead_29 : decode cX2_isAhead 29 = .ok (.goto 4, 3) := by decide +kernel
theorem dX2_isAhead_32 : decode cX2_isAhead 32 = .ok (.iconst 0, 1) := by decide +kernel
theorem dX2_isAhead_33 : decode cX2_isAhead 33 = .ok (.ireturn, 1) := by decide +kernel
theorem dX2_closeIfSick_0 : decode cX2_closeIfSick 0 = .ok (.aload_n 0, 1) := by decide +kernel
theorem dX2_closeIfSick_1 : decode cX2_closeIfSick 1 = .ok (.getfield 52, 3) := by decide +kernel
theorem dX2_closeIfSick_4 : decode cX2_closeIfSick 4 = .ok (.iconst 5, 1) := by decide +kernel
theorem dX2_closeIfSick_5 : decode cX2_closeIfSick 5 = .ok (.dup2, 1) := by decide +kernel
theorem dX2_closeIfSick_6 : decode cX2_closeIfSick 6 = .ok (.iaload, 1) := by decide +kernel
theorem dX2_closeIfSick_7 : decode cX2_closeIfSick 7 = .ok (.iconst 1, 1) := by decide +kernel
theorem dX2_closeIfSick_8 : decode cX2_closeIfSick 8 = .ok (.iadd, 1) := by decide +kernel
theorem dX2_closeIfSick_9 : decode cX2_closeIfSick 9 = .ok (.iastore, 1) := by decide +kernel
theorem dX2_closeIfSick_10 : decode cX2_closeIfSick 10 = .ok (.aload_n 0, 1) := by decide +kernel
theorem dX2_closeIfSick_11 : decode cX2_closeIfSick 11 = .ok (.getfield 21, 3) := by decide +kernel
theorem dX2_closeIfSick_14 : decode cX2_closeIfSick 14 = .ok (.iload_n 1, 1) := by decide +kernel
theorem dX2_closeIfSick_15 : decode cX2_closeIfSick 15 = .ok (.baload, 1) := by decide +kernel
theorem dX2_closeIfSick_16 : decode cX2_closeIfSick 16 = .ok (.ifCond .ne 5, 3) := by decide +kernel
theorem dX2_closeIfSick_19 : decode cX2_closeIfSick 19 = .ok (.iconst 0, 1) := by decide +kernel
theorem dX2_closeIfSick_20 : decode cX2_closeIfSick 20 = .ok (.ireturn, 1) := by decide +kernel
theorem dX2_closeIfSick_21 : decode cX2_closeIfSick 21 = .ok (.aload_n 0, 1) := by decide +kernel
theorem dX2_closeIfSick_22 : decode cX2_closeIfSick 22 = .ok (.iload_n 1, 1) := by decide +kernel
theorem dX2_closeIfSick_23 : decode cX2_closeIfSick 23 = .ok (.invokevirtual 123, 3) := by decide +kernel
theorem dX2_closeIfSick_26 : decode cX2_closeIfSick 26 = .ok (.aload_n 0, 1) := by decide +kernel
theorem dX2_closeIfSick_27 : decode cX2_closeIfSick 27 = .ok (.getfield 52, 3) := by decide +kernel
theorem dX2_closeIfSick_30 : decode cX2_closeIfSick 30 = .ok (.iconst 2, 1) := by decide +kernel
theorem dX2_closeIfSick_31 : decode cX2_closeIfSick 31 = .ok (.dup2, 1) := by decide +kernel
theorem dX2_closeIfSick_32 : decode cX2_closeIfSick 32 = .ok (.iaload, 1) := by decide +kernel
theorem dX2_closeIfSick_33 : decode cX2_closeIfSick 33 = .ok (.iconst 1, 1) := by decide +kernel
theorem dX2_closeIfSick_34 : decode cX2_closeIfSick 34 = .ok (.iadd, 1) := by decide +kernel
theorem dX2_closeIfSick_35 : decode cX2_closeIfSick 35 = .ok (.iastore, 1) := by decide +kernel
theorem dX2_closeIfSick_36 : decode cX2_closeIfSick 36 = .ok (.iconst 1, 1) := by decide +kernel
theorem dX2_closeIfSick_37 : decode cX2_closeIfSick 37 = .ok (.ireturn, 1) := by decide +kernel
theorem dX2_open_0 : decode cX2_open 0 = .ok (.iconst 0, 1) := by decide +kernel
theorem dX2_open_1 : decode cX2_open 1 = .ok (.istore_n 1, 1) := by decide +kernel
theorem dX2_open_2 : decode cX2_open 2 = .ok (.iload_n 1, 1) := by decide +kernel
theorem dX2_open_3 : decode cX2_open 3 = .ok (.bipush 8, 2) := by decide +kernel
theorem dX2_open_5 : decode cX2_open 5 = .ok (.if_icmp .ge 56, 3) := by decide +kernel
theorem dX2_open_8 : decode cX2_open 8 = .ok (.aload_n 0, 1) := by decide +kernel
theorem dX2_open_9 : decode cX2_open 9 = .ok (.iload_n 1, 1) := by decide +kernel
theorem dX2_open_10 : decode cX2_open 10 = .ok (.invokevirtual 84, 3) := by decide +kernel
theorem dX2_open_13 : decode cX2_open 13 = .ok (.ifCond .eq 42, 3) := by decide +kernel
theorem dX2_open_16 : decode cX2_open 16 = .ok (.aload_n 0, 1) := by decide +kernel
theorem dX2_open_17 : decode cX2_open 17 = .ok (.getfield 15, 3) := by decide +kernel
theorem dX2_open_20 : decode cX2_open 20 = .ok (.iload_n 1, 1) := by decide +kernel
theorem dX2_open_21 : decode cX2_open 21 = .ok (.iconst 1, 1) := by decide +kernel
theorem dX2_open_22 : decode cX2_open 22 = .ok (.iastore, 1) := by decide +kernel
theorem dX2_open_23 : decode cX2_open 23 = .ok (.aload_n 0, 1) := by decide +kernel
theorem dX2_open_24 : decode cX2_open 24 = .ok (.getfield 28, 3) := by decide +kernel
theorem dX2_open_27 : decode cX2_open 27 = .ok (.iload_n 1, 1) := by decide +kernel
theorem dX2_open_28 : decode cX2_open 28 = .ok (.aload_n 0, 1) := by decide +kernel
theorem dX2_open_29 : decode cX2_open 29 = .ok (.getfield 64, 3) := by decide +kernel
theorem dX2_open_32 : decode cX2_open 32 = .ok (.iastore, 1) := by decide +kernel
theorem dX2_open_33 : decode cX2_open 33 = .ok (.aload_n 0, 1) := by decide +kernel
theorem dX2_open_34 : decode cX2_open 34 = .ok (.getfield 31, 3) := by decide +kernel
theorem dX2_open_37 : decode cX2_open 37 = .ok (.iload_n 1, 1) := by decide +kernel
theorem dX2_open_38 : decode cX2_open 38 = .ok (.dup2, 1) := by decide +kernel
theorem dX2_open_39 : decode cX2_open 39 = .ok (.iaload, 1) := by decide +kernel
theorem dX2_open_40 : decode cX2_open 40 = .ok (.iconst 1, 1) := by decide +kernel
theorem dX2_open_41 : decode cX2_open 41 = .ok (.iadd, 1) := by decide +kernel
theorem dX2_open_42 : decode cX2_open 42 = .ok (.iastore, 1) := by decide +kernel
theorem dX2_open_43 : decode cX2_open 43 = .ok (.aload_n 0, 1) := by decide +kernel
theorem dX2_open_44 : decode cX2_open 44 = .ok (.getfield 52, 3) := by decide +kernel
theorem dX2_open_47 : decode cX2_open 47 = .ok (.iconst 0, 1) := by decide +kernel
theorem dX2_open_48 : decode cX2_open 48 = .ok (.dup2, 1) := by decide +kernel
theorem dX2_open_49 : decode cX2_open 49 = .ok (.iaload, 1) := by decide +kernel
theorem dX2_open_50 : decode cX2_open 50 = .ok (.iconst 1, 1) := by decide +kernel
theorem dX2_open_51 : decode cX2_open 51 = .ok (.iadd, 1) := by decide +kernel
theorem dX2_open_52 : decode cX2_open 52 = .ok (.iastore, 1) := by decide +kernel
theorem dX2_open_53 : decode cX2_open 53 = .ok (.iload_n 1, 1) := by decide +kernel
theorem dX2_open_54 : decode cX2_open 54 = .ok (.ireturn, 1) := by decide +kernel
theorem dX2_open_55 : decode cX2_open 55 = .ok (.iinc 1 1, 3) := by decide +kernel
theorem dX2_open_58 : decode cX2_open 58 = .ok (.goto (-56), 3) := by decide +kernel
theorem dX2_open_61 : decode cX2_open 61 = .ok (.iconst (-1), 1) := by decide +kernel
theorem dX2_open_62 : decode cX2_open 62 = .ok (.ireturn, 1) := by decide +kernel
theorem dX2_lend_0 : decode cX2_lend 0 = .ok (.aload_n 0, 1) := by decide +kernel
theorem dX2_lend_1 : decode cX2_lend 1 = .ok (.getfield 15, 3) := by decide +kernel
theorem dX2_lend_4 : decode cX2_lend 4 = .ok (.iload_n 1, 1) := by decide +kernel
theorem dX2_lend_5 : decode cX2_lend 5 = .ok (.iconst 2, 1) := by decide +kernel
theorem dX2_lend_6 : decode cX2_lend 6 = .ok (.iastore, 1) := by decide +kernel
theorem dX2_lend_7 : decode cX2_lend 7 = .ok (.aload_n 0, 1) := by decide +kernel
theorem dX2_lend_8 : decode cX2_lend 8 = .ok (.getfield 18, 3) := by decide +kernel
theorem dX2_lend_11 : decode cX2_lend 11 = .ok (.iload_n 1, 1) := by decide +kernel
theorem dX2_lend_12 : decode cX2_lend 12 = .ok (.iload_n 2, 1) := by decide +kernel
theorem dX2_lend_13 : decode cX2_lend 13 = .ok (.iastore, 1) := by decide +kernel
theorem dX2_lend_14 : decode cX2_lend 14 = .ok (.aload_n 0, 1) := by decide +kernel
theorem dX2_lend_15 : decode cX2_lend 15 = .ok (.getfield 28, 3) := by decide +kernel
theorem dX2_lend_18 : decode cX2_lend 18 = .ok (.iload_n 1, 1) := by decide +kernel
theorem dX2_lend_19 : decode cX2_lend 19 = .ok (.aload_n 0, 1) := by decide +kernel
theorem dX2_lend_20 : decode cX2_lend 20 = .ok (.getfield 64, 3) := by decide +kernel
theorem dX2_lend_23 : decode cX2_lend 23 = .ok (.iastore, 1) := by decide +kernel
theorem dX2_lend_24 : decode cX2_lend 24 = .ok (.aload_n 0, 1) := by decide +kernel
theorem dX2_lend_25 : decode cX2_lend 25 = .ok (.getfield 25, 3) := by decide +kernel
theorem dX2_lend_28 : decode cX2_lend 28 = .ok (.iload_n 1, 1) := by decide +kernel
theorem dX2_lend_29 : decode cX2_lend 29 = .ok (.dup2, 1) := by decide +kernel
theorem dX2_lend_30 : decode cX2_lend 30 = .ok (.iaload, 1) := by decide +kernel
theorem dX2_lend_31 : decode cX2_lend 31 = .ok (.iconst 1, 1) := by decide +kernel
theorem dX2_lend_32 : decode cX2_lend 32 = .ok (.iadd, 1) := by decide +kernel
theorem dX2_lend_33 : decode cX2_lend 33 = .ok (.iastore, 1) := by decide +kernel
theorem dX2_lend_34 : decode cX2_lend 34 = .ok (.aload_n 0, 1) := by decide +kernel
theorem dX2_lend_35 : decode cX2_lend 35 = .ok (.getfield 37, 3) := by decide +kernel
theorem dX2_lend_38 : decode cX2_lend 38 = .ok (.iload_n 2, 1) := by decide +kernel
theorem dX2_lend_39 : decode cX2_lend 39 = .ok (.dup2, 1) := by decide +kernel
theorem dX2_lend_40 : decode cX2_lend 40 = .ok (.iaload, 1) := by decide +kernel
theorem dX2_lend_41 : decode cX2_lend 41 = .ok (.iconst 1, 1) := by decide +kernel
theorem dX2_lend_42 : decode cX2_lend 42 = .ok (.iadd, 1) := by decide +kernel
theorem dX2_lend_43 : decode cX2_lend 43 = .ok (.iastore, 1) := by decide +kernel
theorem dX2_lend_44 : decode cX2_lend 44 = .ok (.aload_n 0, 1) := by decide +kernel
theorem dX2_lend_45 : decode cX2_lend 45 = .ok (.getfield 52, 3) := by decide +kernel
theorem dX2_lend_48 : decode cX2_lend 48 = .ok (.bipush 6, 2) := by decide +kernel
theorem dX2_lend_50 : decode cX2_lend 50 = .ok (.dup2, 1) := by decide +kernel
theorem dX2_lend_51 : decode cX2_lend 51 = .ok (.iaload, 1) := by decide +kernel
theorem dX2_lend_52 : decode cX2_lend 52 = .ok (.iconst 1, 1) := by decide +kernel
theorem dX2_lend_53 : decode cX2_lend 53 = .ok (.iadd, 1) := by decide +kernel
theorem dX2_lend_54 : decode cX2_lend 54 = .ok (.iastore, 1) := by decide +kernel
theorem dX2_lend_55 : decode cX2_lend 55 = .ok (.return_, 1) := by decide +kernel
theorem dX2_close_0 : decode cX2_close 0 = .ok (.aload_n 0, 1) := by decide +kernel
theorem dX2_close_1 : decode cX2_close 1 = .ok (.getfield 15, 3) := by decide +kernel
theorem dX2_close_4 : decode cX2_close 4 = .ok (.iload_n 1, 1) := by decide +kernel
theorem dX2_close_5 : decode cX2_close 5 = .ok (.iconst 0, 1) := by decide +kernel
theorem dX2_close_6 : decode cX2_close 6 = .ok (.iastore, 1) := by decide +kernel
theorem dX2_close_7 : decode cX2_close 7 = .ok (.aload_n 0, 1) := by decide +kernel
theorem dX2_close_8 : decode cX2_close 8 = .ok (.getfield 21, 3) := by decide +kernel
theorem dX2_close_11 : decode cX2_close 11 = .ok (.iload_n 1, 1) := by decide +kernel
theorem dX2_close_12 : decode cX2_close 12 = .ok (.iconst 0, 1) := by decide +kernel
theorem dX2_close_13 : decode cX2_close 13 = .ok (.bastore, 1) := by decide +kernel
theorem dX2_close_14 : decode cX2_close 14 = .ok (.aload_n 0, 1) := by decide +kernel
theorem dX2_close_15 : decode cX2_close 15 = .ok (.getfield 25, 3) := by decide +kernel
theorem dX2_close_18 : decode cX2_close 18 = .ok (.iload_n 1, 1) := by decide +kernel
theorem dX2_close_19 : decode cX2_close 19 = .ok (.iconst 0, 1) := by decide +kernel
theorem dX2_close_20 : decode cX2_close 20 = .ok (.iastore, 1) := by decide +kernel
theorem dX2_close_21 : decode cX2_close 21 = .ok (.aload_n 0, 1) := by decide +kernel
theorem dX2_close_22 : decode cX2_close 22 = .ok (.getfield 52, 3) := by decide +kernel
theorem dX2_close_25 : decode cX2_close 25 = .ok (.iconst 1, 1) := by decide +kernel
theorem dX2_close_26 : decode cX2_close 26 = .ok (.dup2, 1) := by decide +kernel
theorem dX2_close_27 : decode cX2_close 27 = .ok (.iaload, 1) := by decide +kernel
theorem dX2_close_28 : decode cX2_close 28 = .ok (.iconst 1, 1) := by decide +kernel
theorem dX2_close_29 : decode cX2_close 29 = .ok (.iadd, 1) := by decide +kernel
theorem dX2_close_30 : decode cX2_close 30 = .ok (.iastore, 1) := by decide +kernel
theorem dX2_close_31 : decode cX2_close 31 = .ok (.return_, 1) := by decide +kernel
