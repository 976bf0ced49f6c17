theorem dX0_init_0 : decode cX0_init 0 = .ok (.aload_n 0, 1) := by decide +kernel
theorem dX0_init_1 : decode cX0_init 1 = .ok (.invokespecial 3, 3) := by decide +kernel
theorem dX0_init_4 : decode cX0_init 4 = .ok (.aload_n 0, 1) := by decide +kernel
theorem dX0_init_5 : decode cX0_init 5 = .ok (.bipush 8, 2) := by decide +kernel
theorem dX0_init_7 : decode cX0_init 7 = .ok (.anewarray 9, 3) := by decide +kernel
theorem dX0_init_10 : decode cX0_init 10 = .ok (.putfield 11, 3) := by decide +kernel
theorem dX0_init_13 : decode cX0_init 13 = .ok (.iconst 0, 1) := by decide +kernel
theorem dX0_init_14 : decode cX0_init 14 = .ok (.istore_n 1, 1) := by decide +kernel
theorem dX0_init_15 : decode cX0_init 15 = .ok (.iload_n 1, 1) := by decide +kernel
theorem dX0_init_16 : decode cX0_init 16 = .ok (.bipush 8, 2) := by decide +kernel
theorem dX0_init_18 : decode cX0_init 18 = .ok (.if_icmp .ge 22, 3) := by decide +kernel
theorem dX0_init_21 : decode cX0_init 21 = .ok (.aload_n 0, 1) := by decide +kernel
theorem dX0_init_22 : decode cX0_init 22 = .ok (.getfield 11, 3) := by decide +kernel
theorem dX0_init_25 : decode cX0_init 25 = .ok (.iload_n 1, 1) := by decide +kernel
theorem dX0_init_26 : decode cX0_init 26 = .ok (.new 9, 3) := by decide +kernel
theorem dX0_init_29 : decode cX0_init 29 = .ok (.dup, 1) := by decide +kernel
theorem dX0_init_30 : decode cX0_init 30 = .ok (.invokespecial 17, 3) := by decide +kernel
theorem dX0_init_33 : decode cX0_init 33 = .ok (.aastore, 1) := by decide +kernel
theorem dX0_init_34 : decode cX0_init 34 = .ok (.iinc 1 1, 3) := by decide +kernel
theorem dX0_init_37 : decode cX0_init 37 = .ok (.goto (-22), 3) := by decide +kernel
theorem dX0_init_40 : decode cX0_init 40 = .ok (.return_, 1) := by decide +kernel
theorem dX0_remember_0 : decode cX0_remember 0 = .ok (.aload_n 0, 1) := by decide +kernel
theorem dX0_remember_1 : decode cX0_remember 1 = .ok (.getfield 11, 3) := by decide +kernel
theorem dX0_remember_4 : decode cX0_remember 4 = .ok (.aload_n 0, 1) := by decide +kernel
theorem dX0_remember_5 : decode cX0_remember 5 = .ok (.getfield 18, 3) := by decide +kernel
theorem dX0_remember_8 : decode cX0_remember 8 = .ok (.aload_n 0, 1) := by decide +kernel
theorem dX0_remember_9 : decode cX0_remember 9 = .ok (.getfield 22, 3) := by decide +kernel
theorem dX0_remember_12 : decode cX0_remember 12 = .ok (.iadd, 1) := by decide +kernel
theorem dX0_remember_13 : decode cX0_remember 13 = .ok (.bipush 8, 2) := by decide +kernel
theorem dX0_remember_15 : decode cX0_remember 15 = .ok (.irem, 1) := by decide +kernel
theorem dX0_remember_16 : decode cX0_remember 16 = .ok (.aaload, 1) := by decide +kernel
theorem dX0_remember_17 : decode cX0_remember 17 = .ok (.aload_n 1, 1) := by decide +kernel
theorem dX0_remember_18 : decode cX0_remember 18 = .ok (.invokevirtual 25, 3) := by decide +kernel
theorem dX0_remember_21 : decode cX0_remember 21 = .ok (.aload_n 0, 1) := by decide +kernel
theorem dX0_remember_22 : decode cX0_remember 22 = .ok (.getfield 22, 3) := by decide +kernel
theorem dX0_remember_25 : decode cX0_remember 25 = .ok (.bipush 8, 2) := by decide +kernel
theorem dX0_remember_27 : decode cX0_remember 27 = .ok (.if_icmp .ge 16, 3) := by decide +kernel
theorem dX0_remember_30 : decode cX0_remember 30 = .ok (.aload_n 0, 1) := by decide +kernel
theorem dX0_remember_31 : decode cX0_remember 31 = .ok (.dup, 1) := by decide +kernel
theorem dX0_remember_32 : decode cX0_remember 32 = .ok (.getfield 22, 3) := by decide +kernel
theorem dX0_remember_35 : decode cX0_remember 35 = .ok (.iconst 1, 1) := by decide +kernel
theorem dX0_remember_36 : decode cX0_remember 36 = .ok (.iadd, 1) := by decide +kernel
theorem dX0_remember_37 : decode cX0_remember 37 = .ok (.putfield 22, 3) := by decide +kernel
theorem dX0_remember_40 : decode cX0_remember 40 = .ok (.goto 16, 3) := by decide +kernel
theorem dX0_remember_43 : decode cX0_remember 43 = .ok (.aload_n 0, 1) := by decide +kernel
theorem dX0_remember_44 : decode cX0_remember 44 = .ok (.aload_n 0, 1) := by decide +kernel
theorem dX0_remember_45 : decode cX0_remember 45 = .ok (.getfield 18, 3) := by decide +kernel
theorem dX0_remember_48 : decode cX0_remember 48 = .ok (.iconst 1, 1) := by decide +kernel
theorem dX0_remember_49 : decode cX0_remember 49 = .ok (.iadd, 1) := by decide +kernel
theorem dX0_remember_50 : decode cX0_remember 50 = .ok (.bipush 8, 2) := by decide +kernel
theorem dX0_remember_52 : decode cX0_remember 52 = .ok (.irem, 1) := by decide +kernel
theorem dX0_remember_53 : decode cX0_remember 53 = .ok (.putfield 18, 3) := by decide +kernel
theorem dX0_remember_56 : decode cX0_remember 56 = .ok (.return_, 1) := by decide +kernel
theorem dX0_bringBack_0 : decode cX0_bringBack 0 = .ok (.aload_n 0, 1) := by decide +kernel
theorem dX0_bringBack_1 : decode cX0_bringBack 1 = .ok (.getfield 22, 3) := by decide +kernel
theorem dX0_bringBack_4 : decode cX0_bringBack 4 = .ok (.ifCond .le 34, 3) := by decide +kernel
theorem dX0_bringBack_7 : decode cX0_bringBack 7 = .ok (.aload_n 0, 1) := by decide +kernel
theorem dX0_bringBack_8 : decode cX0_bringBack 8 = .ok (.dup, 1) := by decide +kernel
theorem dX0_bringBack_9 : decode cX0_bringBack 9 = .ok (.getfield 22, 3) := by decide +kernel
theorem dX0_bringBack_12 : decode cX0_bringBack 12 = .ok (.iconst 1, 1) := by decide +kernel
theorem dX0_bringBack_13 : decode cX0_bringBack 13 = .ok (.isub, 1) := by decide +kernel
theorem dX0_bringBack_14 : decode cX0_bringBack 14 = .ok (.putfield 22, 3) := by decide +kernel
theorem dX0_bringBack_17 : decode cX0_bringBack 17 = .ok (.aload_n 1, 1) := by decide +kernel
theorem dX0_bringBack_18 : decode cX0_bringBack 18 = .ok (.aload_n 0, 1) := by decide +kernel
theorem dX0_bringBack_19 : decode cX0_bringBack 19 = .ok (.getfield 11, 3) := by decide +kernel
theorem dX0_bringBack_22 : decode cX0_bringBack 22 = .ok (.aload_n 0, 1) := by decide +kernel
theorem dX0_bringBack_23 : decode cX0_bringBack 23 = .ok (.getfield 18, 3) := by decide +kernel
theorem dX0_bringBack_26 : decode cX0_bringBack 26 = .ok (.aload_n 0, 1) := by decide +kernel
theorem dX0_bringBack_27 : decode cX0_bringBack 27 = .ok (.getfield 22, 3) := by decide +kernel
theorem dX0_bringBack_30 : decode cX0_bringBack 30 = .ok (.iadd, 1) := by decide +kernel
theorem dX0_bringBack_31 : decode cX0_bringBack 31 = .ok (.bipush 8, 2) := by decide +kernel
theorem dX0_bringBack_33 : decode cX0_bringBack 33 = .ok (.irem, 1) := by decide +kernel
theorem dX0_bringBack_34 : decode cX0_bringBack 34 = .ok (.aaload, 1) := by decide +kernel
theorem dX0_bringBack_35 : decode cX0_bringBack 35 = .ok (.invokevirtual 25, 3) := by decide +kernel
theorem dX0_bringBack_38 : decode cX0_bringBack 38 = .ok (.return_, 1) := by decide +kernel
theorem dX1_init_0 : decode cX1_init 0 = .ok (.aload_n 0, 1) := by decide +kernel
theorem dX1_init_1 : decode cX1_init 1 = .ok (.invokespecial 3, 3) := by decide +kernel
theorem dX1_init_4 : decode cX1_init 4 = .ok (.aload_n 0, 1) := by decide +kernel
theorem dX1_init_5 : decode cX1_init 5 = .ok (.bipush 12, 2) := by decide +kernel
theorem dX1_init_7 : decode cX1_init 7 = .ok (.newarray .int, 2) := by decide +kernel
theorem dX1_init_9 : decode cX1_init 9 = .ok (.putfield 9, 3) := by decide +kernel
theorem dX1_init_12 : decode cX1_init 12 = .ok (.aload_n 0, 1) := by decide +kernel
theorem dX1_init_13 : decode cX1_init 13 = .ok (.bipush 12, 2) := by decide +kernel
theorem dX1_init_15 : decode cX1_init 15 = .ok (.newarray .int, 2) := by decide +kernel
theorem dX1_init_17 : decode cX1_init 17 = .ok (.putfield 15, 3) := by decide +kernel
theorem dX1_init_20 : decode cX1_init 20 = .ok (.aload_n 0, 1) := by decide +kernel
theorem dX1_init_21 : decode cX1_init 21 = .ok (.bipush 12, 2) := by decide +kernel
theorem dX1_init_23 : decode cX1_init 23 = .ok (.newarray .int, 2) := by decide +kernel
theorem dX1_init_25 : decode cX1_init 25 = .ok (.putfield 18, 3) := by decide +kernel
theorem dX1_init_28 : decode cX1_init 28 = .ok (.aload_n 0, 1) := by decide +kernel
theorem dX1_init_29 : decode cX1_init 29 = .ok (.bipush 12, 2) := by decide +kernel
theorem dX1_init_31 : decode cX1_init 31 = .ok (.newarray .int, 2) := by decide +kernel
theorem dX1_init_33 : decode cX1_init 33 = .ok (.putfield 21, 3) := by decide +kernel
theorem dX1_init_36 : decode cX1_init 36 = .ok (.aload_n 0, 1) := by decide +kernel
theorem dX1_init_37 : decode cX1_init 37 = .ok (.bipush 12, 2) := by decide +kernel
theorem dX1_init_39 : decode cX1_init 39 = .ok (.newarray .int, 2) := by decide +kernel
theorem dX1_init_41 : decode cX1_init 41 = .ok (.putfield 24, 3) := by decide +kernel
theorem dX1_init_44 : decode cX1_init 44 = .ok (.aload_n 0, 1) := by decide +kernel
theorem dX1_init_45 : decode cX1_init 45 = .ok (.bipush 12, 2) := by decide +kernel
theorem dX1_init_47 : decode cX1_init 47 = .ok (.newarray .int, 2) := by decide +kernel
theorem dX1_init_49 : decode cX1_init 49 = .ok (.putfield 27, 3) := by decide +kernel
theorem dX1_init_52 : decode cX1_init 52 = .ok (.aload_n 0, 1) := by decide +kernel
theorem dX1_init_53 : decode cX1_init 53 = .ok (.bipush 12, 2) := by decide +kernel
theorem dX1_init_55 : decode cX1_init 55 = .ok (.newarray .int, 2) := by decide +kernel
theorem dX1_init_57 : decode cX1_init 57 = .ok (.putfield 30, 3) := by decide +kernel
theorem dX1_init_60 : decode cX1_init 60 = .ok (.aload_n 0, 1) := by decide +kernel
theorem dX1_init_61 : decode cX1_init 61 = .ok (.bipush 12, 2) := by decide +kernel
theorem dX1_init_63 : decode cX1_init 63 = .ok (.newarray .int, 2) := by decide +kernel
theorem dX1_init_65 : decode cX1_init 65 = .ok (.putfield 33, 3) := by decide +kernel
theorem dX1_init_68 : decode cX1_init 68 = .ok (.aload_n 0, 1) := by decide +kernel
theorem dX1_init_69 : decode cX1_init 69 = .ok (.bipush 8, 2) := by decide +kernel
theorem dX1_init_71 : decode cX1_init 71 = .ok (.newarray .int, 2) := by decide +kernel
theorem dX1_init_73 : decode cX1_init 73 = .ok (.putfield 36, 3) := by decide +kernel
theorem dX1_init_76 : decode cX1_init 76 = .ok (.aload_n 0, 1) := by decide +kernel
theorem dX1_init_77 : decode cX1_init 77 = .ok (.bipush 8, 2) := by decide +kernel
theorem dX1_init_79 : decode cX1_init 79 = .ok (.newarray .int, 2) := by decide +kernel
theorem dX1_init_81 : decode cX1_init 81 = .ok (.putfield 39, 3) := by decide +kernel
theorem dX1_init_84 : decode cX1_init 84 = .ok (.aload_n 0, 1) := by decide +kernel
theorem dX1_init_85 : decode cX1_init 85 = .ok (.bipush 24, 2) := by decide +kernel
theorem dX1_init_87 : decode cX1_init 87 = .ok (.newarray .int, 2) := by decide +kernel
theorem dX1_init_89 : decode cX1_init 89 = .ok (.putfield 42, 3) := by decide +kernel
theorem dX1_init_92 : decode cX1_init 92 = .ok (.aload_n 0, 1) := by decide +kernel
theorem dX1_init_93 : decode cX1_init 93 = .ok (.bipush 14, 2) := by decide +kernel
theorem dX1_init_95 : decode cX1_init 95 = .ok (.newarray .int, 2) := by decide +kernel
theorem dX1_init_97 : decode cX1_init 97 = .ok (.putfield 45, 3) := by decide +kernel
theorem dX1_init_100 : decode cX1_init 100 = .ok (.return_, 1) := by decide +kernel
theorem dX1_copyFrom_0 : decode cX1_copyFrom 0 = .ok (.aload_n 1, 1) := by decide +kernel
theorem dX1_copyFrom_1 : decode cX1_copyFrom 1 = .ok (.getfield 9, 3) := by decide +kernel
theorem dX1_copyFrom_4 : decode cX1_copyFrom 4 = .ok (.iconst 0, 1) := by decide +kernel
theorem dX1_copyFrom_5 : decode cX1_copyFrom 5 = .ok (.aload_n 0, 1) := by decide +kernel
theorem dX1_copyFrom_6 : decode cX1_copyFrom 6 = .ok (.getfield 9, 3) := by decide +kernel
theorem dX1_copyFrom_9 : decode cX1_copyFrom 9 = .ok (.iconst 0, 1) := by decide +kernel
theorem dX1_copyFrom_10 : decode cX1_copyFrom 10 = .ok (.bipush 12, 2) := by decide +kernel
theorem dX1_copyFrom_12 : decode cX1_copyFrom 12 = .ok (.invokestatic 48, 3) := by decide +kernel
theorem dX1_copyFrom_15 : decode cX1_copyFrom 15 = .ok (.aload_n 1, 1) := by decide +kernel
theorem dX1_copyFrom_16 : decode cX1_copyFrom 16 = .ok (.getfield 15, 3) := by decide +kernel
theorem dX1_copyFrom_19 : decode cX1_copyFrom 19 = .ok (.iconst 0, 1) := by decide +kernel
theorem dX1_copyFrom_20 : decode cX1_copyFrom 20 = .ok (.aload_n 0, 1) := by decide +kernel
theorem dX1_copyFrom_21 : decode cX1_copyFrom 21 = .ok (.getfield 15, 3) := by decide +kernel
theorem dX1_copyFrom_24 : decode cX1_copyFrom 24 = .ok (.iconst 0, 1) := by decide +kernel
theorem dX1_copyFrom_25 : decode cX1_copyFrom 25 = .ok (.bipush 12, 2) := by decide +kernel
theorem dX1_copyFrom_27 : decode cX1_copyFrom 27 = .ok (.invokestatic 48, 3) := by decide +kernel
theorem dX1_copyFrom_30 : decode cX1_copyFrom 30 = .ok (.aload_n 1, 1) := by decide +kernel
theorem dX1_copyFrom_31 : decode cX1_copyFrom 31 = .ok (.getfield 18, 3) := by decide +kernel
theorem dX1_copyFrom_34 : decode cX1_copyFrom 34 = .ok (.iconst 0, 1) := by decide +kernel
theorem dX1_copyFrom_35 : decode cX1_copyFrom 35 = .ok (.aload_n 0, 1) := by decide +kernel
theorem dX1_copyFrom_36 : decode cX1_copyFrom 36 = .ok (.getfield 18, 3) := by decide +kernel
theorem dX1_copyFrom_39 : decode cX1_copyFrom 39 = .ok (.iconst 0, 1) := by decide +kernel
theorem dX1_copyFrom_40 : decode cX1_copyFrom 40 = .ok (.bipush 12, 2) := by decide +kernel
theorem dX1_copyFrom_42 : decode cX1_copyFrom 42 = .ok (.invokestatic 48, 3) := by decide +kernel
theorem dX1_copyFrom_45 : decode cX1_copyFrom 45 = .ok (.aload_n 1, 1) := by decide +kernel
theorem dX1_copyFrom_46 : decode cX1_copyFrom 46 = .ok (.getfield 21, 3) := by decide +kernel
theorem dX1_copyFrom_49 : decode cX1_copyFrom 49 = .ok (.iconst 0, 1) := by decide +kernel
theorem dX1_copyFrom_50 : decode cX1_copyFrom 50 = .ok (.aload_n 0, 1) := by decide +kernel
theorem dX1_copyFrom_51 : decode cX1_copyFrom 51 = .ok (.getfield 21, 3) := by decide +kernel
theorem dX1_copyFrom_54 : decode cX1_copyFrom 54 = .ok (.iconst 0, 1) := by decide +kernel
theorem dX1_copyFrom_55 : decode cX1_copyFrom 55 = .ok (.bipush 12, 2) := by decide +kernel
theorem dX1_copyFrom_57 : decode cX1_copyFrom 57 = .ok (.invokestatic 48, 3) := by decide +kernel
theorem dX1_copyFrom_60 : decode cX1_copyFrom 60 = .ok (.aload_n 1, 1) := by decide +kernel
theorem dX1_copyFrom_61 : decode cX1_copyFrom 61 = .ok (.getfield 24, 3) := by decide +kernel
theorem dX1_copyFrom_64 : decode cX1_copyFrom 64 = .ok (.iconst 0, 1) := by decide +kernel
theorem dX1_copyFrom_65 : decode cX1_copyFrom 65 = .ok (.aload_n 0, 1) := by decide +kernel
theorem dX1_copyFrom_66 : decode cX1_copyFrom 66 = .ok (.getfield 24, 3) := by decide +kernel
theorem dX1_copyFrom_69 : decode cX1_copyFrom 69 = .ok (.iconst 0, 1) := by decide +kernel
theorem dX1_copyFrom_70 : decode cX1_copyFrom 70 = .ok (.bipush 12, 2) := by decide +kernel
theorem dX1_copyFrom_72 : decode cX1_copyFrom 72 = .ok (.invokestatic 48, 3) := by decide +kernel
theorem dX1_copyFrom_75 : decode cX1_copyFrom 75 = .ok (.aload_n 1, 1) := by decide +kernel
theorem dX1_copyFrom_76 : decode cX1_copyFrom 76 = .ok (.getfield 27, 3) := by decide +kernel
theorem dX1_copyFrom_79 : decode cX1_copyFrom 79 = .ok (.iconst 0, 1) := by decide +kernel
theorem dX1_copyFrom_80 : decode cX1_copyFrom 80 = .ok (.aload_n 0, 1) := by decide +kernel
theorem dX1_copyFrom_81 : decode cX1_copyFrom 81 = .ok (.getfield 27, 3) := by decide +kernel
theorem dX1_copyFrom_84 : decode cX1_copyFrom 84 = .ok (.iconst 0, 1) := by decide +kernel
theorem dX1_copyFrom_85 : decode cX1_copyFrom 85 = .ok (.bipush 12, 2) := by decide +kernel
theorem dX1_copyFrom_87 : decode cX1_copyFrom 87 = .ok (.invokestatic 48, 3) := by decide +kernel
theorem dX1_copyFrom_90 : decode cX1_copyFrom 90 = .ok (.aload_n 1, 1) := by decide +kernel
theorem dX1_copyFrom_91 : decode cX1_copyFrom 91 = .ok (.getfield 30, 3) := by decide +kernel
theorem dX1_copyFrom_94 : decode cX1_copyFrom 94 = .ok (.iconst 0, 1) := by decide +kernel
theorem dX1_copyFrom_95 : decode cX1_copyFrom 95 = .ok (.aload_n 0, 1) := by decide +kernel
theorem dX1_copyFrom_96 : decode cX1_copyFrom 96 = .ok (.getfield 30, 3) := by decide +kernel
theorem dX1_copyFrom_99 : decode cX1_copyFrom 99 = .ok (.iconst 0, 1) := by decide +kernel
theorem dX1_copyFrom_100 : decode cX1_copyFrom 100 = .ok (.bipush 12, 2) := by decide +kernel
theorem dX1_copyFrom_102 : decode cX1_copyFrom 102 = .ok (.invokestatic 48, 3) := by decide +kernel
theorem dX1_copyFrom_105 : decode cX1_copyFrom 105 = .ok (.aload_n 1, 1) := by decide +kernel
theorem dX1_copyFrom_106 : decode cX1_copyFrom 106 = .ok (.getfield 33, 3) := by decide +kernel
theorem dX1_copyFrom_109 : decode cX1_copyFrom 109 = .ok (.iconst 0, 1) := by decide +kernel
theorem dX1_copyFrom_110 : decode cX1_copyFrom 110 = .ok (.aload_n 0, 1) := by decide +kernel
theorem dX1_copyFrom_111 : decode cX1_copyFrom 111 = .ok (.getfield 33, 3) := by decide +kernel
theorem dX1_copyFrom_114 : decode cX1_copyFrom 114 = .ok (.iconst 0, 1) := by decide +kernel
theorem dX1_copyFrom_115 : decode cX1_copyFrom 115 = .ok (.bipush 12, 2) := by decide +kernel
theorem dX1_copyFrom_117 : decode cX1_copyFrom 117 = .ok (.invokestatic 48, 3) := by decide +kernel
theorem dX1_copyFrom_120 : decode cX1_copyFrom 120 = .ok (.aload_n 1, 1) := by decide +kernel
theorem dX1_copyFrom_121 : decode cX1_copyFrom 121 = .ok (.getfield 36, 3) := by decide +kernel
theorem dX1_copyFrom_124 : decode cX1_copyFrom 124 = .ok (.iconst 0, 1) := by decide +kernel
theorem dX1_copyFrom_125 : decode cX1_copyFrom 125 = .ok (.aload_n 0, 1) := by decide +kernel
theorem dX1_copyFrom_126 : decode cX1_copyFrom 126 = .ok (.getfield 36, 3) := by decide +kernel
theorem dX1_copyFrom_129 : decode cX1_copyFrom 129 = .ok (.iconst 0, 1) := by decide +kernel
theorem dX1_copyFrom_130 : decode cX1_copyFrom 130 = .ok (.bipush 8, 2) := by decide +kernel
theorem dX1_copyFrom_132 : decode cX1_copyFrom 132 = .ok (.invokestatic 48, 3) := by decide +kernel
theorem dX1_copyFrom_135 : decode cX1_copyFrom 135 = .ok (.aload_n 1, 1) := by decide +kernel
theorem dX1_copyFrom_136 : decode cX1_copyFrom 136 = .ok (.getfield 39, 3) := by decide +kernel
theorem dX1_copyFrom_139 : decode cX1_copyFrom 139 = .ok (.iconst 0, 1) := by decide +kernel
theorem dX1_copyFrom_140 : decode cX1_copyFrom 140 = .ok (.aload_n 0, 1) := by decide +kernel
theorem dX1_copyFrom_141 : decode cX1_copyFrom 141 = .ok (.getfield 39, 3) := by decide +kernel
theorem dX1_copyFrom_144 : decode cX1_copyFrom 144 = .ok (.iconst 0, 1) := by decide +kernel
theorem dX1_copyFrom_145 : decode cX1_copyFrom 145 = .ok (.bipush 8, 2) := by decide +kernel
theorem dX1_copyFrom_147 : decode cX1_copyFrom 147 = .ok (.invokestatic 48, 3) := by decide +kernel
theorem dX1_copyFrom_150 : decode cX1_copyFrom 150 = .ok (.aload_n 1, 1) := by decide +kernel
theorem dX1_copyFrom_151 : decode cX1_copyFrom 151 = .ok (.getfield 42, 3) := by decide +kernel
theorem dX1_copyFrom_154 : decode cX1_copyFrom 154 = .ok (.iconst 0, 1) := by decide +kernel
theorem dX1_copyFrom_155 : decode cX1_copyFrom 155 = .ok (.aload_n 0, 1) := by decide +kernel
theorem dX1_copyFrom_156 : decode cX1_copyFrom 156 = .ok (.getfield 42, 3) := by decide +kernel
theorem dX1_copyFrom_159 : decode cX1_copyFrom 159 = .ok (.iconst 0, 1) := by decide +kernel
theorem dX1_copyFrom_160 : decode cX1_copyFrom 160 = .ok (.bipush 24, 2) := by decide +kernel
theorem dX1_copyFrom_162 : decode cX1_copyFrom 162 = .ok (.invokestatic 48, 3) := by decide +kernel
theorem dX1_copyFrom_165 : decode cX1_copyFrom 165 = .ok (.aload_n 1, 1) := by decide +kernel
theorem dX1_copyFrom_166 : decode cX1_copyFrom 166 = .ok (.getfield 45, 3) := by decide +kernel
theorem dX1_copyFrom_169 : decode cX1_copyFrom 169 = .ok (.iconst 0, 1) := by decide +kernel
theorem dX1_copyFrom_170 : decode cX1_copyFrom 170 = .ok (.aload_n 0, 1) := by decide +kernel
theorem dX1_copyFrom_171 : decode cX1_copyFrom 171 = .ok (.getfield 45, 3) := by decide +kernel
theorem dX1_copyFrom_174 : decode cX1_copyFrom 174 = .ok (.iconst 0, 1) := by decide +kernel
theorem dX1_copyFrom_175 : decode cX1_copyFrom 175 = .ok (.bipush 14, 2) := by decide +kernel
theorem dX1_copyFrom_177 : decode cX1_copyFrom 177 = .ok (.invokestatic 48, 3) := by decide +kernel
theorem dX1_copyFrom_180 : decode cX1_copyFrom 180 = .ok (.aload_n 0, 1) := by decide +kernel
theorem dX1_copyFrom_181 : decode cX1_copyFrom 181 = .ok (.aload_n 1, 1) := by decide +kernel
theorem dX1_copyFrom_182 : decode cX1_copyFrom 182 = .ok (.getfield 54, 3) := by decide +kernel
theorem dX1_copyFrom_185 : decode cX1_copyFrom 185 = .ok (.putfield 54, 3) := by decide +kernel
theorem dX1_copyFrom_188 : decode cX1_copyFrom 188 = .ok (.aload_n 0, 1) := by decide +kernel
theorem dX1_copyFrom_189 : decode cX1_copyFrom 189 = .ok (.aload_n 1, 1) := by decide +kernel
theorem dX1_copyFrom_190 : decode cX1_copyFrom 190 = .ok (.getfield 58, 3) := by decide +kernel
theorem dX1_copyFrom_193 : decode cX1_copyFrom 193 = .ok (.putfield 58, 3) := by decide +kernel
theorem dX1_copyFrom_196 : decode cX1_copyFrom 196 = .ok (.aload_n 0, 1) := by decide +kernel
theorem dX1_copyFrom_197 : decode cX1_copyFrom 197 = .ok (.aload_n 1, 1) := by decide +kernel
theorem dX1_copyFrom_198 : decode cX1_copyFrom 198 = .ok (.getfield 61, 3) := by decide +kernel
theorem dX1_copyFrom_201 : decode cX1_copyFrom 201 = .ok (.putfield 61, 3) := by decide +kernel
theorem dX1_copyFrom_204 : decode cX1_copyFrom 204 = .ok (.aload_n 0, 1) := by decide +kernel
theorem dX1_copyFrom_205 : decode cX1_copyFrom 205 = .ok (.aload_n 1, 1) := by decide +kernel
theorem dX1_copyFrom_206 : decode cX1_copyFrom 206 = .ok (.getfield 64, 3) := by decide +kernel
theorem dX1_copyFrom_209 : decode cX1_copyFrom 209 = .ok (.putfield 64, 3) := by decide +kernel
theorem dX1_copyFrom_212 : decode cX1_copyFrom 212 = .ok (.aload_n 0, 1) := by decide +kernel
theorem dX1_copyFrom_213 : decode cX1_copyFrom 213 = .ok (.aload_n 1, 1) := by decide +kernel
theorem dX1_copyFrom_214 : decode cX1_copyFrom 214 = .ok (.getfield 67, 3) := by decide +kernel
theorem dX1_copyFrom_217 : decode cX1_copyFrom 217 = .ok (.putfield 67, 3) := by decide +kernel
theorem dX1_copyFrom_220 : decode cX1_copyFrom 220 = .ok (.aload_n 0, 1) := by decide +kernel
theorem dX1_copyFrom_221 : decode cX1_copyFrom 221 = .ok (.aload_n 1, 1) := by decide +kernel
theorem dX1_copyFrom_222 : decode cX1_copyFrom 222 = .ok (.getfield 70, 3) := by decide +kernel
theorem dX1_copyFrom_225 : decode cX1_copyFrom 225 = .ok (.putfield 70, 3) := by decide +kernel
theorem dX1_copyFrom_228 : decode cX1_copyFrom 228 = .ok (.return_, 1) := by decide +kernel
theorem dX1_clear_0 : decode cX1_clear 0 = .ok (.aload_n 0, 1) := by decide +kernel
theorem dX1_clear_1 : decode cX1_clear 1 = .ok (.iconst 0, 1) := by decide +kernel
theorem dX1_clear_2 : decode cX1_clear 2 = .ok (.putfield 54, 3) := by decide +kernel
theorem dX1_clear_5 : decode cX1_clear 5 = .ok (.aload_n 0, 1) := by decide +kernel
theorem dX1_clear_6 : decode cX1_clear 6 = .ok (.iconst 0, 1) := by decide +kernel
theorem dX1_clear_7 : decode cX1_clear 7 = .ok (.putfield 58, 3) := by decide +kernel
theorem dX1_clear_10 : decode cX1_clear 10 = .ok (.aload_n 0, 1) := by decide +kernel
theorem dX1_clear_11 : decode cX1_clear 11 = .ok (.bipush 20, 2) := by decide +kernel
theorem dX1_clear_13 : decode cX1_clear 13 = .ok (.putfield 61, 3) := by decide +kernel
theorem dX1_clear_16 : decode cX1_clear 16 = .ok (.aload_n 0, 1) := by decide +kernel
theorem dX1_clear_17 : decode cX1_clear 17 = .ok (.bipush 10, 2) := by decide +kernel
theorem dX1_clear_19 : decode cX1_clear 19 = .ok (.putfield 64, 3) := by decide +kernel
theorem dX1_clear_22 : decode cX1_clear 22 = .ok (.aload_n 0, 1) := by decide +kernel
theorem dX1_clear_23 : decode cX1_clear 23 = .ok (.iconst 0, 1) := by decide +kernel
theorem dX1_clear_24 : decode cX1_clear 24 = .ok (.putfield 67, 3) := by decide +kernel
theorem dX1_clear_27 : decode cX1_clear 27 = .ok (.aload_n 0, 1) := by decide +kernel
theorem dX1_clear_28 : decode cX1_clear 28 = .ok (.iconst 0, 1) := by decide +kernel
theorem dX1_clear_29 : decode cX1_clear 29 = .ok (.putfield 70, 3) := by decide +kernel
theorem dX1_clear_32 : decode cX1_clear 32 = .ok (.aload_n 0, 1) := by decide +kernel
theorem dX1_clear_33 : decode cX1_clear 33 = .ok (.getfield 42, 3) := by decide +kernel
theorem dX1_clear_36 : decode cX1_clear 36 = .ok (.iconst 0, 1) := by decide +kernel
theorem dX1_clear_37 : decode cX1_clear 37 = .ok (.invokestatic 73, 3) := by decide +kernel
theorem dX1_clear_40 : decode cX1_clear 40 = .ok (.aload_n 0, 1) := by decide +kernel
theorem dX1_clear_41 : decode cX1_clear 41 = .ok (.getfield 45, 3) := by decide +kernel
theorem dX1_clear_44 : decode cX1_clear 44 = .ok (.iconst 0, 1) := by decide +kernel
theorem dX1_clear_45 : decode cX1_clear 45 = .ok (.invokestatic 73, 3) := by decide +kernel
theorem dX1_clear_48 : decode cX1_clear 48 = .ok (.return_, 1) := by decide +kernel
theorem dX1_becomeFirst_0 : decode cX1_becomeFirst 0 = .ok (.aload_n 0, 1) := by decide +kernel
theorem dX1_becomeFirst_1 : decode cX1_becomeFirst 1 = .ok (.invokevirtual 79, 3) := by decide +kernel
theorem dX1_becomeFirst_4 : decode cX1_becomeFirst 4 = .ok (.aload_n 0, 1) := by decide +kernel
theorem dX1_becomeFirst_5 : decode cX1_becomeFirst 5 = .ok (.iconst 0, 1) := by decide +kernel
theorem dX1_becomeFirst_6 : decode cX1_becomeFirst 6 = .ok (.bipush 97, 2) := by decide +kernel
theorem dX1_becomeFirst_8 : decode cX1_becomeFirst 8 = .ok (.invokestatic 84, 3) := by decide +kernel
theorem dX1_becomeFirst_11 : decode cX1_becomeFirst 11 = .ok (.iconst 1, 1) := by decide +kernel
theorem dX1_becomeFirst_12 : decode cX1_becomeFirst 12 = .ok (.invokevirtual 88, 3) := by decide +kernel
theorem dX1_becomeFirst_15 : decode cX1_becomeFirst 15 = .ok (.aload_n 0, 1) := by decide +kernel
theorem dX1_becomeFirst_16 : decode cX1_becomeFirst 16 = .ok (.iconst 0, 1) := by decide +kernel
theorem dX1_becomeFirst_17 : decode cX1_becomeFirst 17 = .ok (.bipush 98, 2) := by decide +kernel
theorem dX1_becomeFirst_19 : decode cX1_becomeFirst 19 = .ok (.invokestatic 84, 3) := by decide +kernel
theorem dX1_becomeFirst_22 : decode cX1_becomeFirst 22 = .ok (.iconst 2, 1) := by decide +kernel
theorem dX1_becomeFirst_23 : decode cX1_becomeFirst 23 = .ok (.iconst 0, 1) := by decide +kernel
theorem dX1_becomeFirst_24 : decode cX1_becomeFirst 24 = .ok (.invokevirtual 92, 3) := by decide +kernel
theorem dX1_becomeFirst_27 : decode cX1_becomeFirst 27 = .ok (.return_, 1) := by decide +kernel
theorem dX1_addNeed_0 : decode cX1_addNeed 0 = .ok (.aload_n 0, 1) := by decide +kernel
theorem dX1_addNeed_1 : decode cX1_addNeed 1 = .ok (.getfield 58, 3) := by decide +kernel
theorem dX1_addNeed_4 : decode cX1_addNeed 4 = .ok (.bipush 8, 2) := by decide +kernel
theorem dX1_addNeed_6 : decode cX1_addNeed 6 = .ok (.if_icmp .ge 33, 3) := by decide +kernel
theorem dX1_addNeed_9 : decode cX1_addNeed 9 = .ok (.aload_n 0, 1) := by decide +kernel
theorem dX1_addNeed_10 : decode cX1_addNeed 10 = .ok (.getfield 36, 3) := by decide +kernel
theorem dX1_addNeed_13 : decode cX1_addNeed 13 = .ok (.aload_n 0, 1) := by decide +kernel
theorem dX1_addNeed_14 : decode cX1_addNeed 14 = .ok (.getfield 58, 3) := by decide +kernel
theorem dX1_addNeed_17 : decode cX1_addNeed 17 = .ok (.iload_n 1, 1) := by decide +kernel
theorem dX1_addNeed_18 : decode cX1_addNeed 18 = .ok (.iastore, 1) := by decide +kernel
theorem dX1_addNeed_19 : decode cX1_addNeed 19 = .ok (.aload_n 0, 1) := by decide +kernel
theorem dX1_addNeed_20 : decode cX1_addNeed 20 = .ok (.getfield 39, 3) := by decide +kernel
theorem dX1_addNeed_23 : decode cX1_addNeed 23 = .ok (.aload_n 0, 1) := by decide +kernel
theorem dX1_addNeed_24 : decode cX1_addNeed 24 = .ok (.getfield 58, 3) := by decide +kernel
theorem dX1_addNeed_27 : decode cX1_addNeed 27 = .ok (.iload_n 2, 1) := by decide +kernel
theorem dX1_addNeed_28 : decode cX1_addNeed 28 = .ok (.iastore, 1) := by decide +kernel
theorem dX1_addNeed_29 : decode cX1_addNeed 29 = .ok (.aload_n 0, 1) := by decide +kernel
theorem dX1_addNeed_30 : decode cX1_addNeed 30 = .ok (.dup, 1) := by decide +kernel
theorem dX1_addNeed_31 : decode cX1_addNeed 31 = .ok (.getfield 58, 3) := by decide +kernel
theorem dX1_addNeed_34 : decode cX1_addNeed 34 = .ok (.iconst 1, 1) := by decide +kernel
theorem dX1_addNeed_35 : decode cX1_addNeed 35 = .ok (.iadd, 1) := by decide +kernel
theorem dX1_addNeed_36 : decode cX1_addNeed 36 = .ok (.putfield 58, 3) := by decide +kernel
theorem dX1_addNeed_39 : decode cX1_addNeed 39 = .ok (.return_, 1) := by decide +kernel
theorem dX1_addMonk_0 : decode cX1_addMonk 0 = .ok (.aload_n 0, 1) := by decide +kernel
theorem dX1_addMonk_1 : decode cX1_addMonk 1 = .ok (.getfield 54, 3) := by decide +kernel
theorem dX1_addMonk_4 : decode cX1_addMonk 4 = .ok (.bipush 12, 2) := by decide +kernel
theorem dX1_addMonk_6 : decode cX1_addMonk 6 = .ok (.if_icmp .ge 93, 3) := by decide +kernel
theorem dX1_addMonk_9 : decode cX1_addMonk 9 = .ok (.aload_n 0, 1) := by decide +kernel
theorem dX1_addMonk_10 : decode cX1_addMonk 10 = .ok (.getfield 9, 3) := by decide +kernel
theorem dX1_addMonk_13 : decode cX1_addMonk 13 = .ok (.aload_n 0, 1) := by decide +kernel
theorem dX1_addMonk_14 : decode cX1_addMonk 14 = .ok (.getfield 54, 3) := by decide +kernel
theorem dX1_addMonk_17 : decode cX1_addMonk 17 = .ok (.iload_n 1, 1) := by decide +kernel
theorem dX1_addMonk_18 : decode cX1_addMonk 18 = .ok (.iastore, 1) := by decide +kernel
theorem dX1_addMonk_19 : decode cX1_addMonk 19 = .ok (.aload_n 0, 1) := by decide +kernel
theorem dX1_addMonk_20 : decode cX1_addMonk 20 = .ok (.getfield 15, 3) := by decide +kernel
theorem dX1_addMonk_23 : decode cX1_addMonk 23 = .ok (.aload_n 0, 1) := by decide +kernel
theorem dX1_addMonk_24 : decode cX1_addMonk 24 = .ok (.getfield 54, 3) := by decide +kernel
theorem dX1_addMonk_27 : decode cX1_addMonk 27 = .ok (.iload_n 2, 1) := by decide +kernel
theorem dX1_addMonk_28 : decode cX1_addMonk 28 = .ok (.iastore, 1) := by decide +kernel
theorem dX1_addMonk_29 : decode cX1_addMonk 29 = .ok (.aload_n 0, 1) := by decide +kernel
theorem dX1_addMonk_30 : decode cX1_addMonk 30 = .ok (.getfield 18, 3) := by decide +kernel
theorem dX1_addMonk_33 : decode cX1_addMonk 33 = .ok (.aload_n 0, 1) := by decide +kernel
theorem dX1_addMonk_34 : decode cX1_addMonk 34 = .ok (.getfield 54, 3) := by decide +kernel
theorem dX1_addMonk_37 : decode cX1_addMonk 37 = .ok (.iload_n 3, 1) := by decide +kernel
theorem dX1_addMonk_38 : decode cX1_addMonk 38 = .ok (.iastore, 1) := by decide +kernel
theorem dX1_addMonk_39 : decode cX1_addMonk 39 = .ok (.aload_n 0, 1) := by decide +kernel
theorem dX1_addMonk_40 : decode cX1_addMonk 40 = .ok (.getfield 21, 3) := by decide +kernel
theorem dX1_addMonk_43 : decode cX1_addMonk 43 = .ok (.aload_n 0, 1) := by decide +kernel
theorem dX1_addMonk_44 : decode cX1_addMonk 44 = .ok (.getfield 54, 3) := by decide +kernel
theorem dX1_addMonk_47 : decode cX1_addMonk 47 = .ok (.iconst 0, 1) := by decide +kernel
theorem dX1_addMonk_48 : decode cX1_addMonk 48 = .ok (.iastore, 1) := by decide +kernel
theorem dX1_addMonk_49 : decode cX1_addMonk 49 = .ok (.aload_n 0, 1) := by decide +kernel
theorem dX1_addMonk_50 : decode cX1_addMonk 50 = .ok (.getfield 24, 3) := by decide +kernel
theorem dX1_addMonk_53 : decode cX1_addMonk 53 = .ok (.aload_n 0, 1) := by decide +kernel
theorem dX1_addMonk_54 : decode cX1_addMonk 54 = .ok (.getfield 54, 3) := by decide +kernel
theorem dX1_addMonk_57 : decode cX1_addMonk 57 = .ok (.iconst 0, 1) := by decide +kernel
theorem dX1_addMonk_58 : decode cX1_addMonk 58 = .ok (.iastore, 1) := by decide +kernel
theorem dX1_addMonk_59 : decode cX1_addMonk 59 = .ok (.aload_n 0, 1) := by decide +kernel
theorem dX1_addMonk_60 : decode cX1_addMonk 60 = .ok (.getfield 27, 3) := by decide +kernel
theorem dX1_addMonk_63 : decode cX1_addMonk 63 = .ok (.aload_n 0, 1) := by decide +kernel
theorem dX1_addMonk_64 : decode cX1_addMonk 64 = .ok (.getfield 54, 3) := by decide +kernel
theorem dX1_addMonk_67 : decode cX1_addMonk 67 = .ok (.iconst 0, 1) := by decide +kernel
theorem dX1_addMonk_68 : decode cX1_addMonk 68 = .ok (.iastore, 1) := by decide +kernel
theorem dX1_addMonk_69 : decode cX1_addMonk 69 = .ok (.aload_n 0, 1) := by decide +kernel
theorem dX1_addMonk_70 : decode cX1_addMonk 70 = .ok (.getfield 30, 3) := by decide +kernel
theorem dX1_addMonk_73 : decode cX1_addMonk 73 = .ok (.aload_n 0, 1) := by decide +kernel
theorem dX1_addMonk_74 : decode cX1_addMonk 74 = .ok (.getfield 54, 3) := by decide +kernel
theorem dX1_addMonk_77 : decode cX1_addMonk 77 = .ok (.iconst 0, 1) := by decide +kernel
theorem dX1_addMonk_78 : decode cX1_addMonk 78 = .ok (.iastore, 1) := by decide +kernel
theorem dX1_addMonk_79 : decode cX1_addMonk 79 = .ok (.aload_n 0, 1) := by decide +kernel
theorem dX1_addMonk_80 : decode cX1_addMonk 80 = .ok (.getfield 33, 3) := by decide +kernel
theorem dX1_addMonk_83 : decode cX1_addMonk 83 = .ok (.aload_n 0, 1) := by decide +kernel
theorem dX1_addMonk_84 : decode cX1_addMonk 84 = .ok (.getfield 54, 3) := by decide +kernel
theorem dX1_addMonk_87 : decode cX1_addMonk 87 = .ok (.iconst 0, 1) := by decide +kernel
theorem dX1_addMonk_88 : decode cX1_addMonk 88 = .ok (.iastore, 1) := by decide +kernel
theorem dX1_addMonk_89 : decode cX1_addMonk 89 = .ok (.aload_n 0, 1) := by decide +kernel
theorem dX1_addMonk_90 : decode cX1_addMonk 90 = .ok (.dup, 1) := by decide +kernel
theorem dX1_addMonk_91 : decode cX1_addMonk 91 = .ok (.getfield 54, 3) := by decide +kernel
theorem dX1_addMonk_94 : decode cX1_addMonk 94 = .ok (.iconst 1, 1) := by decide +kernel
theorem dX1_addMonk_95 : decode cX1_addMonk 95 = .ok (.iadd, 1) := by decide +kernel
theorem dX1_addMonk_96 : decode cX1_addMonk 96 = .ok (.putfield 54, 3) := by decide +kernel
theorem dX1_addMonk_99 : decode cX1_addMonk 99 = .ok (.return_, 1) := by decide +kernel
theorem dX1_monkNamed_0 : decode cX1_monkNamed 0 = .ok (.iconst 0, 1) := by decide +kernel
theorem dX1_monkNamed_1 : decode cX1_monkNamed 1 = .ok (.istore_n 2, 1) := by decide +kernel
theorem dX1_monkNamed_2 : decode cX1_monkNamed 2 = .ok (.iload_n 2, 1) := by decide +kernel
theorem dX1_monkNamed_3 : decode cX1_monkNamed 3 = .ok (.aload_n 0, 1) := by decide +kernel
theorem dX1_monkNamed_4 : decode cX1_monkNamed 4 = .ok (.getfield 54, 3) := by decide +kernel
theorem dX1_monkNamed_7 : decode cX1_monkNamed 7 = .ok (.if_icmp .ge 21, 3) := by decide +kernel
theorem dX1_monkNamed_10 : decode cX1_monkNamed 10 = .ok (.aload_n 0, 1) := by decide +kernel
theorem dX1_monkNamed_11 : decode cX1_monkNamed 11 = .ok (.getfield 9, 3) := by decide +kernel
theorem dX1_monkNamed_14 : decode cX1_monkNamed 14 = .ok (.iload_n 2, 1) := by decide +kernel
theorem dX1_monkNamed_15 : decode cX1_monkNamed 15 = .ok (.iaload, 1) := by decide +kernel
theorem dX1_monkNamed_16 : decode cX1_monkNamed 16 = .ok (.iload_n 1, 1) := by decide +kernel
theorem dX1_monkNamed_17 : decode cX1_monkNamed 17 = .ok (.if_icmp .ne 5, 3) := by decide +kernel
theorem dX1_monkNamed_20 : decode cX1_monkNamed 20 = .ok (.iload_n 2, 1) := by decide +kernel
theorem dX1_monkNamed_21 : decode cX1_monkNamed 21 = .ok (.ireturn, 1) := by decide +kernel
theorem dX1_monkNamed_22 : decode cX1_monkNamed 22 = .ok (.iinc 2 1, 3) := by decide +kernel
theorem dX1_monkNamed_25 : decode cX1_monkNamed 25 = .ok (.goto (-23), 3) := by decide +kernel
theorem dX1_monkNamed_28 : decode cX1_monkNamed 28 = .ok (.iconst (-1), 1) := by decide +kernel
theorem dX1_monkNamed_29 : decode cX1_monkNamed 29 = .ok (.ireturn, 1) := by decide +kernel
theorem dX1_needNamed_0 : decode cX1_needNamed 0 = .ok (.iconst 0, 1) := by decide +kernel
theorem dX1_needNamed_1 : decode cX1_needNamed 1 = .ok (.istore_n 2, 1) := by decide +kernel
theorem dX1_needNamed_2 : decode cX1_needNamed 2 = .ok (.iload_n 2, 1) := by decide +kernel
theorem dX1_needNamed_3 : decode cX1_needNamed 3 = .ok (.aload_n 0, 1) := by decide +kernel
theorem dX1_needNamed_4 : decode cX1_needNamed 4 = .ok (.getfield 58, 3) := by decide +kernel
theorem dX1_needNamed_7 : decode cX1_needNamed 7 = .ok (.if_icmp .ge 21, 3) := by decide +kernel
theorem dX1_needNamed_10 : decode cX1_needNamed 10 = .ok (.aload_n 0, 1) := by decide +kernel
theorem dX1_needNamed_11 : decode cX1_needNamed 11 = .ok (.getfield 36, 3) := by decide +kernel
theorem dX1_needNamed_14 : decode cX1_needNamed 14 = .ok (.iload_n 2, 1) := by decide +kernel
theorem dX1_needNamed_15 : decode cX1_needNamed 15 = .ok (.iaload, 1) := by decide +kernel
theorem dX1_needNamed_16 : decode cX1_needNamed 16 = .ok (.iload_n 1, 1) := by decide +kernel
theorem dX1_needNamed_17 : decode cX1_needNamed 17 = .ok (.if_icmp .ne 5, 3) := by decide +kernel
theorem dX1_needNamed_20 : decode cX1_needNamed 20 = .ok (.iload_n 2, 1) := by decide +kernel
theorem dX1_needNamed_21 : decode cX1_needNamed 21 = .ok (.ireturn, 1) := by decide +kernel
theorem dX1_needNamed_22 : decode cX1_needNamed 22 = .ok (.iinc 2 1, 3) := by decide +kernel
theorem dX1_needNamed_25 : decode cX1_needNamed 25 = .ok (.goto (-23), 3) := by decide +kernel
theorem dX1_needNamed_28 : decode cX1_needNamed 28 = .ok (.iconst (-1), 1) := by decide +kernel
theorem dX1_needNamed_29 : decode cX1_needNamed 29 = .ok (.ireturn, 1) := by decide +kernel
theorem dX1_isMember_0 : decode cX1_isMember 0 = .ok (.iload_n 1, 1) := by decide +kernel
theorem dX1_isMember_1 : decode cX1_isMember 1 = .ok (.iconst 1, 1) := by decide +kernel
theorem dX1_isMember_2 : decode cX1_isMember 2 = .ok (.iload_n 0, 1) := by decide +kernel
theorem dX1_isMember_3 : decode cX1_isMember 3 = .ok (.ishl, 1) := by decide +kernel
theorem dX1_isMember_4 : decode cX1_isMember 4 = .ok (.iand, 1) := by decide +kernel
theorem dX1_isMember_5 : decode cX1_isMember 5 = .ok (.ifCond .eq 7, 3) := by decide +kernel
theorem dX1_isMember_8 : decode cX1_isMember 8 = .ok (.iconst 1, 1) := by decide +kernel
theorem dX1_isMember_9 : decode cX1_isMember 9 = .ok (.goto 4, 3) := by decide +kernel
theorem dX1_isMember_12 : decode cX1_isMember 12 = .ok (.iconst 0, 1) := by decide +kernel
theorem dX1_isMember_13 : decode cX1_isMember 13 = .ok (.ireturn, 1) := by decide +kernel
theorem dX1_sumOf_0 : decode cX1_sumOf 0 = .ok (.iconst 0, 1) := by decide +kernel
theorem dX1_sumOf_1 : decode cX1_sumOf 1 = .ok (.istore_n 2, 1) := by decide +kernel
theorem dX1_sumOf_2 : decode cX1_sumOf 2 = .ok (.iconst 0, 1) := by decide +kernel
theorem dX1_sumOf_3 : decode cX1_sumOf 3 = .ok (.istore_n 3, 1) := by decide +kernel
theorem dX1_sumOf_4 : decode cX1_sumOf 4 = .ok (.iload_n 3, 1) := by decide +kernel
theorem dX1_sumOf_5 : decode cX1_sumOf 5 = .ok (.aload_n 0, 1) := by decide +kernel
theorem dX1_sumOf_6 : decode cX1_sumOf 6 = .ok (.getfield 54, 3) := by decide +kernel
theorem dX1_sumOf_9 : decode cX1_sumOf 9 = .ok (.if_icmp .ge 15, 3) := by decide +kernel
theorem dX1_sumOf_12 : decode cX1_sumOf 12 = .ok (.iload_n 2, 1) := by decide +kernel
theorem dX1_sumOf_13 : decode cX1_sumOf 13 = .ok (.aload_n 1, 1) := by decide +kernel
theorem dX1_sumOf_14 : decode cX1_sumOf 14 = .ok (.iload_n 3, 1) := by decide +kernel
theorem dX1_sumOf_15 : decode cX1_sumOf 15 = .ok (.iaload, 1) := by decide +kernel
theorem dX1_sumOf_16 : decode cX1_sumOf 16 = .ok (.iadd, 1) := by decide +kernel
theorem dX1_sumOf_17 : decode cX1_sumOf 17 = .ok (.istore_n 2, 1) := by decide +kernel
theorem dX1_sumOf_18 : decode cX1_sumOf 18 = .ok (.iinc 3 1, 3) := by decide +kernel
theorem dX1_sumOf_21 : decode cX1_sumOf 21 = .ok (.goto (-17), 3) := by decide +kernel
theorem dX1_sumOf_24 : decode cX1_sumOf 24 = .ok (.iload_n 2, 1) := by decide +kernel
theorem dX1_sumOf_25 : decode cX1_sumOf 25 = .ok (.ireturn, 1) := by decide +kernel
theorem dX1_membersOf_0 : decode cX1_membersOf 0 = .ok (.iconst 0, 1) := by decide +kernel
theorem dX1_membersOf_1 : decode cX1_membersOf 1 = .ok (.istore_n 2, 1) := by decide +kernel
theorem dX1_membersOf_2 : decode cX1_membersOf 2 = .ok (.iconst 0, 1) := by decide +kernel
theorem dX1_membersOf_3 : decode cX1_membersOf 3 = .ok (.istore_n 3, 1) := by decide +kernel
theorem dX1_membersOf_4 : decode cX1_membersOf 4 = .ok (.iload_n 3, 1) := by decide +kernel
theorem dX1_membersOf_5 : decode cX1_membersOf 5 = .ok (.aload_n 0, 1) := by decide +kernel
theorem dX1_membersOf_6 : decode cX1_membersOf 6 = .ok (.getfield 54, 3) := by decide +kernel
theorem dX1_membersOf_9 : decode cX1_membersOf 9 = .ok (.if_icmp .ge 18, 3) := by decide +kernel
theorem dX1_membersOf_12 : decode cX1_membersOf 12 = .ok (.iload_n 2, 1) := by decide +kernel
theorem dX1_membersOf_13 : decode cX1_membersOf 13 = .ok (.aload_n 1, 1) := by decide +kernel
theorem dX1_membersOf_14 : decode cX1_membersOf 14 = .ok (.iload_n 3, 1) := by decide +kernel
theorem dX1_membersOf_15 : decode cX1_membersOf 15 = .ok (.iaload, 1) := by decide +kernel
theorem dX1_membersOf_16 : decode cX1_membersOf 16 = .ok (.invokestatic 96, 3) := by decide +kernel
theorem dX1_membersOf_19 : decode cX1_membersOf 19 = .ok (.iadd, 1) := by decide +kernel
theorem dX1_membersOf_20 : decode cX1_membersOf 20 = .ok (.istore_n 2, 1) := by decide +kernel
theorem dX1_membersOf_21 : decode cX1_membersOf 21 = .ok (.iinc 3 1, 3) := by decide +kernel
theorem dX1_membersOf_24 : decode cX1_membersOf 24 = .ok (.goto (-20), 3) := by decide +kernel
theorem dX1_membersOf_27 : decode cX1_membersOf 27 = .ok (.iload_n 2, 1) := by decide +kernel
theorem dX1_membersOf_28 : decode cX1_membersOf 28 = .ok (.ireturn, 1) := by decide +kernel
theorem dX1_monksWith_0 : decode cX1_monksWith 0 = .ok (.iconst 0, 1) := by decide +kernel
theorem dX1_monksWith_1 : decode cX1_monksWith 1 = .ok (.istore_n 3, 1) := by decide +kernel
theorem dX1_monksWith_2 : decode cX1_monksWith 2 = .ok (.iconst 0, 1) := by decide +kernel
theorem dX1_monksWith_3 : decode cX1_monksWith 3 = .ok (.istore 4, 2) := by decide +kernel
theorem dX1_monksWith_5 : decode cX1_monksWith 5 = .ok (.iload 4, 2) := by decide +kernel
theorem dX1_monksWith_7 : decode cX1_monksWith 7 = .ok (.aload_n 0, 1) := by decide +kernel
theorem dX1_monksWith_8 : decode cX1_monksWith 8 = .ok (.getfield 54, 3) := by decide +kernel
theorem dX1_monksWith_11 : decode cX1_monksWith 11 = .ok (.if_icmp .ge 23, 3) := by decide +kernel
theorem dX1_monksWith_14 : decode cX1_monksWith 14 = .ok (.iload_n 1, 1) := by decide +kernel
theorem dX1_monksWith_15 : decode cX1_monksWith 15 = .ok (.aload_n 2, 1) := by decide +kernel
theorem dX1_monksWith_16 : decode cX1_monksWith 16 = .ok (.iload 4, 2) := by decide +kernel
theorem dX1_monksWith_18 : decode cX1_monksWith 18 = .ok (.iaload, 1) := by decide +kernel
theorem dX1_monksWith_19 : decode cX1_monksWith 19 = .ok (.invokestatic 102, 3) := by decide +kernel
theorem dX1_monksWith_22 : decode cX1_monksWith 22 = .ok (.ifCond .eq 6, 3) := by decide +kernel
theorem dX1_monksWith_25 : decode cX1_monksWith 25 = .ok (.iinc 3 1, 3) := by decide +kernel
theorem dX1_monksWith_28 : decode cX1_monksWith 28 = .ok (.iinc 4 1, 3) := by decide +kernel
theorem dX1_monksWith_31 : decode cX1_monksWith 31 = .ok (.goto (-26), 3) := by decide +kernel
theorem dX1_monksWith_34 : decode cX1_monksWith 34 = .ok (.iload_n 3, 1) := by decide +kernel
theorem dX1_monksWith_35 : decode cX1_monksWith 35 = .ok (.ireturn, 1) := by decide +kernel
theorem dX1_othersWhoKnowAllOf_0 : decode cX1_othersWhoKnowAllOf 0 = .ok (.iconst 0, 1) := by decide +kernel
theorem dX1_othersWhoKnowAllOf_1 : decode cX1_othersWhoKnowAllOf 1 = .ok (.istore_n 2, 1) := by decide +kernel
theorem dX1_othersWhoKnowAllOf_2 : decode cX1_othersWhoKnowAllOf 2 = .ok (.iconst 0, 1) := by decide +kernel
theorem dX1_othersWhoKnowAllOf_3 : decode cX1_othersWhoKnowAllOf 3 = .ok (.istore_n 3, 1) := by decide +kernel
theorem dX1_othersWhoKnowAllOf_4 : decode cX1_othersWhoKnowAllOf 4 = .ok (.iload_n 3, 1) := by decide +kernel
theorem dX1_othersWhoKnowAllOf_5 : decode cX1_othersWhoKnowAllOf 5 = .ok (.aload_n 0, 1) := by decide +kernel
theorem dX1_othersWhoKnowAllOf_6 : decode cX1_othersWhoKnowAllOf 6 = .ok (.getfield 54, 3) := by decide +kernel
theorem dX1_othersWhoKnowAllOf_9 : decode cX1_othersWhoKnowAllOf 9 = .ok (.if_icmp .ge 35, 3) := by decide +kernel
theorem dX1_othersWhoKnowAllOf_12 : decode cX1_othersWhoKnowAllOf 12 = .ok (.iload_n 3, 1) := by decide +kernel
theorem dX1_othersWhoKnowAllOf_13 : decode cX1_othersWhoKnowAllOf 13 = .ok (.iload_n 1, 1) := by decide +kernel
theorem dX1_othersWhoKnowAllOf_14 : decode cX1_othersWhoKnowAllOf 14 = .ok (.if_icmp .eq 24, 3) := by decide +kernel
theorem dX1_othersWhoKnowAllOf_17 : decode cX1_othersWhoKnowAllOf 17 = .ok (.aload_n 0, 1) := by decide +kernel
theorem dX1_othersWhoKnowAllOf_18 : decode cX1_othersWhoKnowAllOf 18 = .ok (.getfield 18, 3) := by decide +kernel
theorem dX1_othersWhoKnowAllOf_21 : decode cX1_othersWhoKnowAllOf 21 = .ok (.iload_n 1, 1) := by decide +kernel
theorem dX1_othersWhoKnowAllOf_22 : decode cX1_othersWhoKnowAllOf 22 = .ok (.iaload, 1) := by decide +kernel
theorem dX1_othersWhoKnowAllOf_23 : decode cX1_othersWhoKnowAllOf 23 = .ok (.aload_n 0, 1) := by decide +kernel
theorem dX1_othersWhoKnowAllOf_24 : decode cX1_othersWhoKnowAllOf 24 = .ok (.getfield 18, 3) := by decide +kernel
theorem dX1_othersWhoKnowAllOf_27 : decode cX1_othersWhoKnowAllOf 27 = .ok (.iload_n 3, 1) := by decide +kernel
theorem dX1_othersWhoKnowAllOf_28 : decode cX1_othersWhoKnowAllOf 28 = .ok (.iaload, 1) := by decide +kernel
theorem dX1_othersWhoKnowAllOf_29 : decode cX1_othersWhoKnowAllOf 29 = .ok (.iconst (-1), 1) := by decide +kernel
theorem dX1_othersWhoKnowAllOf_30 : decode cX1_othersWhoKnowAllOf 30 = .ok (.ixor, 1) := by decide +kernel
theorem dX1_othersWhoKnowAllOf_31 : decode cX1_othersWhoKnowAllOf 31 = .ok (.iand, 1) := by decide +kernel
theorem dX1_othersWhoKnowAllOf_32 : decode cX1_othersWhoKnowAllOf 32 = .ok (.ifCond .ne 6, 3) := by decide +kernel
theorem dX1_othersWhoKnowAllOf_35 : decode cX1_othersWhoKnowAllOf 35 = .ok (.iinc 2 1, 3) := by decide +kernel
theorem dX1_othersWhoKnowAllOf_38 : decode cX1_othersWhoKnowAllOf 38 = .ok (.iinc 3 1, 3) := by decide +kernel
theorem dX1_othersWhoKnowAllOf_41 : decode cX1_othersWhoKnowAllOf 41 = .ok (.goto (-37), 3) := by decide +kernel
theorem dX1_othersWhoKnowAllOf_44 : decode cX1_othersWhoKnowAllOf 44 = .ok (.iload_n 2, 1) := by decide +kernel
theorem dX1_othersWhoKnowAllOf_45 : decode cX1_othersWhoKnowAllOf 45 = .ok (.ireturn, 1) := by decide +kernel
theorem dX1_monksAheadOf_0 : decode cX1_monksAheadOf 0 = .ok (.iconst 0, 1) := by decide +kernel
theorem dX1_monksAheadOf_1 : decode cX1_monksAheadOf 1 = .ok (.istore_n 2, 1) := by decide +kernel
theorem dX1_monksAheadOf_2 : decode cX1_monksAheadOf 2 = .ok (.iconst 0, 1) := by decide +kernel
theorem dX1_monksAheadOf_3 : decode cX1_monksAheadOf 3 = .ok (.istore_n 3, 1) := by decide +kernel
theorem dX1_monksAheadOf_4 : decode cX1_monksAheadOf 4 = .ok (.iload_n 3, 1) := by decide +kernel
theorem dX1_monksAheadOf_5 : decode cX1_monksAheadOf 5 = .ok (.aload_n 0, 1) := by decide +kernel
theorem dX1_monksAheadOf_6 : decode cX1_monksAheadOf 6 = .ok (.getfield 54, 3) := by decide +kernel
theorem dX1_monksAheadOf_9 : decode cX1_monksAheadOf 9 = .ok (.if_icmp .ge 21, 3) := by decide +kernel
theorem dX1_monksAheadOf_12 : decode cX1_monksAheadOf 12 = .ok (.aload_n 0, 1) := by decide +kernel
theorem dX1_monksAheadOf_13 : decode cX1_monksAheadOf 13 = .ok (.iload_n 3, 1) := by decide +kernel
theorem dX1_monksAheadOf_14 : decode cX1_monksAheadOf 14 = .ok (.iload_n 1, 1) := by decide +kernel
theorem dX1_monksAheadOf_15 : decode cX1_monksAheadOf 15 = .ok (.invokevirtual 106, 3) := by decide +kernel
theorem dX1_monksAheadOf_18 : decode cX1_monksAheadOf 18 = .ok (.ifCond .eq 6, 3) := by decide +kernel
theorem dX1_monksAheadOf_21 : decode cX1_monksAheadOf 21 = .ok (.iinc 2 1, 3) := by decide +kernel
theorem dX1_monksAheadOf_24 : decode cX1_monksAheadOf 24 = .ok (.iinc 3 1, 3) := by decide +kernel
theorem dX1_monksAheadOf_27 : decode cX1_monksAheadOf 27 = .ok (.goto (-23), 3) := by decide +kernel
theorem dX1_monksAheadOf_30 : decode cX1_monksAheadOf 30 = .ok (.iload_n 2, 1) := by decide +kernel
theorem dX1_monksAheadOf_31 : decode cX1_monksAheadOf 31 = .ok (.ireturn, 1) := by decide +kernel
theorem dX1_isAhead_0 : decode cX1_isAhead 0 = .ok (.aload_n 0, 1) := by decide +kernel
theorem dX1_isAhead_1 : decode cX1_isAhead 1 = .ok (.getfield 27, 3) := by decide +kernel
theorem dX1_isAhead_4 : decode cX1_isAhead 4 = .ok (.iload_n 1, 1) := by decide +kernel
theorem dX1_isAhead_5 : decode cX1_isAhead 5 = .ok (.iaload, 1) := by decide +kernel
theorem dX1_isAhead_6 : decode cX1_isAhead 6 = .ok (.aload_n 0, 1) := by decide +kernel
theorem dX1_isAhead_7 : decode cX1_isAhead 7 = .ok (.getfield 27, 3) := by decide +kernel
theorem dX1_isAhead_10 : decode cX1_isAhead 10 = .ok (.iload_n 2, 1) := by decide +kernel
theorem dX1_isAhead_11 : decode cX1_isAhead 11 = .ok (.iaload, 1) := by decide +kernel
theorem dX1_isAhead_12 : decode cX1_isAhead 12 = .ok (.if_icmp .eq 24, 3) := by decide +kernel
theorem dX1_isAhead_15 : decode cX1_isAhead 15 = .ok (.aload_n 0, 1) := by decide +kernel
theorem dX1_isAhead_16 : decode cX1_isAhead 16 = .ok (.getfield 27, 3) := by decide +kernel
theorem dX1_isAhead_19 : decode cX1_isAhead 19 = .ok (.iload_n 1, 1) := by decide +kernel
theorem dX1_isAhead_20 : decode cX1_isAhead 20 = .ok (.iaload, 1) := by decide +kernel
theorem dX1_isAhead_21 : decode cX1_isAhead 21 = .ok (.aload_n 0, 1) := by decide +kernel
theorem dX1_isAhead_22 : decode cX1_isAhead 22 = .ok (.getfield 27, 3) := by decide +kernel
theorem dX1_isAhead_25 : decode cX1_isAhead 25 = .ok (.iload_n 2, 1) := by decide +kernel
theorem dX1_isAhead_26 : decode cX1_isAhead 26 = .ok (.iaload, 1) := by decide +kernel
theorem dX1_isAhead_27 : decode cX1_isAhead 27 = .ok (.if_icmp .le 7, 3) := by decide +kernel
theorem dX1_isAhead_30 : decode cX1_isAhead 30 = .ok (.iconst 1, 1) := by decide +kernel
theorem dX1_isAhead_31 : decode cX1_isAhead 31 = .ok (.goto 4, 3) := by decide +kernel
theorem dX1_isAhead_34 : decode cX1_isAhead 34 = .ok (.iconst 0, 1) := by decide +kernel
theorem dX1_isAhead_35 : decode cX1_isAhead 35 = .ok (.ireturn, 1) := by decide +kernel
theorem dX1_isAhead_36 : decode cX1_isAhead 36 = .ok (.aload_n 0, 1) := by decide +kernel
theorem dX1_isAhead_37 : decode cX1_isAhead 37 = .ok (.getfield 24, 3) := by decide +kernel
theorem dX1_isAhead_40 : decode cX1_isAhead 40 = .ok (.iload_n 1, 1) := by decide +kernel
theorem dX1_isAhead_41 : decode cX1_isAhead 41 = .ok (.iaload, 1) := by decide +kernel
theorem dX1_isAhead_42 : decode cX1_isAhead 42 = .ok (.aload_n 0, 1) := by decide +kernel
theorem dX1_isAhead_43 : decode cX1_isAhead 43 = .ok (.getfield 24, 3) := by decide +kernel
theorem dX1_isAhead_46 : decode cX1_isAhead 46 = .ok (.iload_n 2, 1) := by decide +kernel
theorem dX1_isAhead_47 : decode cX1_isAhead 47 = .ok (.iaload, 1) := by decide +kernel
theorem dX1_isAhead_48 : decode cX1_isAhead 48 = .ok (.if_icmp .eq 24, 3) := by decide +kernel
theorem dX1_isAhead_51 : decode cX1_isAhead 51 = .ok (.aload_n 0, 1) := by decide +kernel
theorem dX1_isAhead_52 : decode cX1_isAhead 52 = .ok (.getfield 24, 3) := by decide +kernel
theorem dX1_isAhead_55 : decode cX1_isAhead 55 = .ok (.iload_n 1, 1) := by decide +kernel
theorem dX1_isAhead_56 : decode cX1_isAhead 56 = .ok (.iaload, 1) := by decide +kernel
theorem dX1_isAhead_57 : decode cX1_isAhead 57 = .ok (.aload_n 0, 1) := by decide +kernel
theorem dX1_isAhead_58 : decode cX1_isAhead 58 = .ok (.getfield 24, 3) := by decide +kernel
theorem dX1_isAhead_61 : decode cX1_isAhead 61 = .ok (.iload_n 2, 1) := by decide +kernel
theorem dX1_isAhead_62 : decode cX1_isAhead 62 = .ok (.iaload, 1) := by decide +kernel
theorem dX1_isAhead_63 : decode cX1_isAhead 63 = .ok (.if_icmp .le 7, 3) := by decide +kernel
theorem dX1_isAhead_66 : decode cX1_isAhead 66 = .ok (.iconst 1, 1) := by decide +kernel
theorem dX1_isAhead_67 : decode cX1_isAhead 67 = .ok (.goto 4, 3) := by decide +kernel
theorem dX1_isAhead_70 : decode cX1_isAhead 70 = .ok (.iconst 0, 1) := by decide +kernel
theorem dX1_isAhead_71 : decode cX1_isAhead 71 = .ok (.ireturn, 1) := by decide +kernel
theorem dX1_isAhead_72 : decode cX1_isAhead 72 = .ok (.iload_n 1, 1) := by decide +kernel
theorem dX1_isAhead_73 : decode cX1_isAhead 73 = .ok (.iload_n 2, 1) := by decide +kernel
theorem dX1_isAhead_74 : decode cX1_isAhead 74 = .ok (.if_icmp .ge 7, 3) := by decide +kernel
theorem dX1_isAhead_77 : decode cX1_isAhead 77 = .ok (.iconst 1, 1) := by decide +kernel
theorem dX1_isAhead_78 : decode cX1_isAhead 78 = .ok (.goto 4, 3) := by decide +kernel
theorem dX1_isAhead_81 : decode cX1_isAhead 81 = .ok (.iconst 0, 1) := by decide +kernel
theorem dX1_isAhead_82 : decode cX1_isAhead 82 = .ok (.ireturn, 1) := by decide +kernel
theorem dX1_wantsMetBy_0 : decode cX1_wantsMetBy 0 = .ok (.iconst 0, 1) := by decide +kernel
theorem dX1_wantsMetBy_1 : decode cX1_wantsMetBy 1 = .ok (.istore_n 2, 1) := by decide +kernel
theorem dX1_wantsMetBy_2 : decode cX1_wantsMetBy 2 = .ok (.iconst 0, 1) := by decide +kernel
theorem dX1_wantsMetBy_3 : decode cX1_wantsMetBy 3 = .ok (.istore_n 3, 1) := by decide +kernel
theorem dX1_wantsMetBy_4 : decode cX1_wantsMetBy 4 = .ok (.iload_n 3, 1) := by decide +kernel
theorem dX1_wantsMetBy_5 : decode cX1_wantsMetBy 5 = .ok (.aload_n 0, 1) := by decide +kernel
theorem dX1_wantsMetBy_6 : decode cX1_wantsMetBy 6 = .ok (.getfield 54, 3) := by decide +kernel
theorem dX1_wantsMetBy_9 : decode cX1_wantsMetBy 9 = .ok (.if_icmp .ge 55, 3) := by decide +kernel
theorem dX1_wantsMetBy_12 : decode cX1_wantsMetBy 12 = .ok (.iload_n 3, 1) := by decide +kernel
theorem dX1_wantsMetBy_13 : decode cX1_wantsMetBy 13 = .ok (.iload_n 1, 1) := by decide +kernel
theorem dX1_wantsMetBy_14 : decode cX1_wantsMetBy 14 = .ok (.if_icmp .eq 44, 3) := by decide +kernel
theorem dX1_wantsMetBy_17 : decode cX1_wantsMetBy 17 = .ok (.aload_n 0, 1) := by decide +kernel
theorem dX1_wantsMetBy_18 : decode cX1_wantsMetBy 18 = .ok (.getfield 15, 3) := by decide +kernel
theorem dX1_wantsMetBy_21 : decode cX1_wantsMetBy 21 = .ok (.iload_n 1, 1) := by decide +kernel
theorem dX1_wantsMetBy_22 : decode cX1_wantsMetBy 22 = .ok (.iaload, 1) := by decide +kernel
theorem dX1_wantsMetBy_23 : decode cX1_wantsMetBy 23 = .ok (.aload_n 0, 1) := by decide +kernel
theorem dX1_wantsMetBy_24 : decode cX1_wantsMetBy 24 = .ok (.getfield 15, 3) := by decide +kernel
theorem dX1_wantsMetBy_27 : decode cX1_wantsMetBy 27 = .ok (.iload_n 3, 1) := by decide +kernel
theorem dX1_wantsMetBy_28 : decode cX1_wantsMetBy 28 = .ok (.iaload, 1) := by decide +kernel
theorem dX1_wantsMetBy_29 : decode cX1_wantsMetBy 29 = .ok (.if_icmp .lt 29, 3) := by decide +kernel
theorem dX1_wantsMetBy_32 : decode cX1_wantsMetBy 32 = .ok (.iload_n 2, 1) := by decide +kernel
theorem dX1_wantsMetBy_33 : decode cX1_wantsMetBy 33 = .ok (.aload_n 0, 1) := by decide +kernel
theorem dX1_wantsMetBy_34 : decode cX1_wantsMetBy 34 = .ok (.getfield 21, 3) := by decide +kernel
theorem dX1_wantsMetBy_37 : decode cX1_wantsMetBy 37 = .ok (.iload_n 3, 1) := by decide +kernel
theorem dX1_wantsMetBy_38 : decode cX1_wantsMetBy 38 = .ok (.iaload, 1) := by decide +kernel
theorem dX1_wantsMetBy_39 : decode cX1_wantsMetBy 39 = .ok (.aload_n 0, 1) := by decide +kernel
theorem dX1_wantsMetBy_40 : decode cX1_wantsMetBy 40 = .ok (.getfield 18, 3) := by decide +kernel
theorem dX1_wantsMetBy_43 : decode cX1_wantsMetBy 43 = .ok (.iload_n 3, 1) := by decide +kernel
theorem dX1_wantsMetBy_44 : decode cX1_wantsMetBy 44 = .ok (.iaload, 1) := by decide +kernel
theorem dX1_wantsMetBy_45 : decode cX1_wantsMetBy 45 = .ok (.iand, 1) := by decide +kernel
theorem dX1_wantsMetBy_46 : decode cX1_wantsMetBy 46 = .ok (.aload_n 0, 1) := by decide +kernel
theorem dX1_wantsMetBy_47 : decode cX1_wantsMetBy 47 = .ok (.getfield 18, 3) := by decide +kernel
theorem dX1_wantsMetBy_50 : decode cX1_wantsMetBy 50 = .ok (.iload_n 1, 1) := by decide +kernel
theorem dX1_wantsMetBy_51 : decode cX1_wantsMetBy 51 = .ok (.iaload, 1) := by decide +kernel
theorem dX1_wantsMetBy_52 : decode cX1_wantsMetBy 52 = .ok (.iand, 1) := by decide +kernel
theorem dX1_wantsMetBy_53 : decode cX1_wantsMetBy 53 = .ok (.invokestatic 96, 3) := by decide +kernel
theorem dX1_wantsMetBy_56 : decode cX1_wantsMetBy 56 = .ok (.iadd, 1) := by decide +kernel
theorem dX1_wantsMetBy_57 : decode cX1_wantsMetBy 57 = .ok (.istore_n 2, 1) := by decide +kernel
theorem dX1_wantsMetBy_58 : decode cX1_wantsMetBy 58 = .ok (.iinc 3 1, 3) := by decide +kernel
theorem dX1_wantsMetBy_61 : decode cX1_wantsMetBy 61 = .ok (.goto (-57), 3) := by decide +kernel
theorem dX1_wantsMetBy_64 : decode cX1_wantsMetBy 64 = .ok (.iload_n 2, 1) := by decide +kernel
theorem dX1_wantsMetBy_65 : decode cX1_wantsMetBy 65 = .ok (.ireturn, 1) := by decide +kernel
theorem dX1_bellCount_0 : decode cX1_bellCount 0 = .ok (.iconst 0, 1) := by decide +kernel
theorem dX1_bellCount_1 : decode cX1_bellCount 1 = .ok (.istore_n 1, 1) := by decide +kernel
theorem dX1_bellCount_2 : decode cX1_bellCount 2 = .ok (.iconst 0, 1) := by decide +kernel
theorem dX1_bellCount_3 : decode cX1_bellCount 3 = .ok (.istore_n 2, 1) := by decide +kernel
theorem dX1_bellCount_4 : decode cX1_bellCount 4 = .ok (.iload_n 2, 1) := by decide +kernel
theorem dX1_bellCount_5 : decode cX1_bellCount 5 = .ok (.bipush 24, 2) := by decide +kernel
theorem dX1_bellCount_7 : decode cX1_bellCount 7 = .ok (.if_icmp .ge 21, 3) := by decide +kernel
theorem dX1_bellCount_10 : decode cX1_bellCount 10 = .ok (.aload_n 0, 1) := by decide +kernel
theorem dX1_bellCount_11 : decode cX1_bellCount 11 = .ok (.getfield 42, 3) := by decide +kernel
theorem dX1_bellCount_14 : decode cX1_bellCount 14 = .ok (.iload_n 2, 1) := by decide +kernel
theorem dX1_bellCount_15 : decode cX1_bellCount 15 = .ok (.iaload, 1) := by decide +kernel
theorem dX1_bellCount_16 : decode cX1_bellCount 16 = .ok (.ifCond .eq 6, 3) := by decide +kernel
theorem dX1_bellCount_19 : decode cX1_bellCount 19 = .ok (.iinc 1 1, 3) := by decide +kernel
theorem dX1_bellCount_22 : decode cX1_bellCount 22 = .ok (.iinc 2 1, 3) := by decide +kernel
theorem dX1_bellCount_25 : decode cX1_bellCount 25 = .ok (.goto (-21), 3) := by decide +kernel
theorem dX1_bellCount_28 : decode cX1_bellCount 28 = .ok (.iload_n 1, 1) := by decide +kernel
theorem dX1_bellCount_29 : decode cX1_bellCount 29 = .ok (.ireturn, 1) := by decide +kernel
theorem dX1_latestBell_0 : decode cX1_latestBell 0 = .ok (.iconst 0, 1) := by decide +kernel
theorem dX1_latestBell_1 : decode cX1_latestBell 1 = .ok (.istore_n 2, 1) := by decide +kernel
theorem dX1_latestBell_2 : decode cX1_latestBell 2 = .ok (.iload_n 2, 1) := by decide +kernel
theorem dX1_latestBell_3 : decode cX1_latestBell 3 = .ok (.bipush 24, 2) := by decide +kernel
theorem dX1_latestBell_5 : decode cX1_latestBell 5 = .ok (.if_icmp .ge 30, 3) := by decide +kernel
theorem dX1_latestBell_8 : decode cX1_latestBell 8 = .ok (.iload_n 1, 1) := by decide +kernel
theorem dX1_latestBell_9 : decode cX1_latestBell 9 = .ok (.bipush 24, 2) := by decide +kernel
theorem dX1_latestBell_11 : decode cX1_latestBell 11 = .ok (.iadd, 1) := by decide +kernel
theorem dX1_latestBell_12 : decode cX1_latestBell 12 = .ok (.iload_n 2, 1) := by decide +kernel
theorem dX1_latestBell_13 : decode cX1_latestBell 13 = .ok (.isub, 1) := by decide +kernel
theorem dX1_latestBell_14 : decode cX1_latestBell 14 = .ok (.bipush 24, 2) := by decide +kernel
theorem dX1_latestBell_16 : decode cX1_latestBell 16 = .ok (.irem, 1) := by decide +kernel
theorem dX1_latestBell_17 : decode cX1_latestBell 17 = .ok (.istore_n 3, 1) := by decide +kernel
theorem dX1_latestBell_18 : decode cX1_latestBell 18 = .ok (.aload_n 0, 1) := by decide +kernel
theorem dX1_latestBell_19 : decode cX1_latestBell 19 = .ok (.getfield 42, 3) := by decide +kernel
theorem dX1_latestBell_22 : decode cX1_latestBell 22 = .ok (.iload_n 3, 1) := by decide +kernel
theorem dX1_latestBell_23 : decode cX1_latestBell 23 = .ok (.iaload, 1) := by decide +kernel
theorem dX1_latestBell_24 : decode cX1_latestBell 24 = .ok (.ifCond .eq 5, 3) := by decide +kernel
theorem dX1_latestBell_27 : decode cX1_latestBell 27 = .ok (.iload_n 3, 1) := by decide +kernel
theorem dX1_latestBell_28 : decode cX1_latestBell 28 = .ok (.ireturn, 1) := by decide +kernel
theorem dX1_latestBell_29 : decode cX1_latestBell 29 = .ok (.iinc 2 1, 3) := by decide +kernel
theorem dX1_latestBell_32 : decode cX1_latestBell 32 = .ok (.goto (-30), 3) := by decide +kernel
theorem dX1_latestBell_35 : decode cX1_latestBell 35 = .ok (.iconst (-1), 1) := by decide +kernel
theorem dX1_latestBell_36 : decode cX1_latestBell 36 = .ok (.ireturn, 1) := by decide +kernel
theorem dX1_isSpeechAt_0 : decode cX1_isSpeechAt 0 = .ok (.aload_n 0, 1) := by decide +kernel
theorem dX1_isSpeechAt_1 : decode cX1_isSpeechAt 1 = .ok (.iload_n 1, 1) := by decide +kernel
theorem dX1_isSpeechAt_2 : decode cX1_isSpeechAt 2 = .ok (.invokevirtual 109, 3) := by decide +kernel
theorem dX1_isSpeechAt_5 : decode cX1_isSpeechAt 5 = .ok (.istore_n 2, 1) := by decide +kernel
theorem dX1_isSpeechAt_6 : decode cX1_isSpeechAt 6 = .ok (.iload_n 2, 1) := by decide +kernel
theorem dX1_isSpeechAt_7 : decode cX1_isSpeechAt 7 = .ok (.iconst (-1), 1) := by decide +kernel
theorem dX1_isSpeechAt_8 : decode cX1_isSpeechAt 8 = .ok (.if_icmp .eq 17, 3) := by decide +kernel
theorem dX1_isSpeechAt_11 : decode cX1_isSpeechAt 11 = .ok (.aload_n 0, 1) := by decide +kernel
theorem dX1_isSpeechAt_12 : decode cX1_isSpeechAt 12 = .ok (.getfield 42, 3) := by decide +kernel
theorem dX1_isSpeechAt_15 : decode cX1_isSpeechAt 15 = .ok (.iload_n 2, 1) := by decide +kernel
theorem dX1_isSpeechAt_16 : decode cX1_isSpeechAt 16 = .ok (.iaload, 1) := by decide +kernel
theorem dX1_isSpeechAt_17 : decode cX1_isSpeechAt 17 = .ok (.iconst 2, 1) := by decide +kernel
theorem dX1_isSpeechAt_18 : decode cX1_isSpeechAt 18 = .ok (.if_icmp .ne 7, 3) := by decide +kernel
theorem dX1_isSpeechAt_21 : decode cX1_isSpeechAt 21 = .ok (.iconst 1, 1) := by decide +kernel
theorem dX1_isSpeechAt_22 : decode cX1_isSpeechAt 22 = .ok (.goto 4, 3) := by decide +kernel
theorem dX1_isSpeechAt_25 : decode cX1_isSpeechAt 25 = .ok (.iconst 0, 1) := by decide +kernel
theorem dX1_isSpeechAt_26 : decode cX1_isSpeechAt 26 = .ok (.ireturn, 1) := by decide +kernel
theorem dX1_speechHours_0 : decode cX1_speechHours 0 = .ok (.iconst 0, 1) := by decide +kernel
theorem dX1_speechHours_1 : decode cX1_speechHours 1 = .ok (.istore_n 2, 1) := by decide +kernel
theorem dX1_speechHours_2 : decode cX1_speechHours 2 = .ok (.iconst 0, 1) := by decide +kernel
theorem dX1_speechHours_3 : decode cX1_speechHours 3 = .ok (.istore_n 3, 1) := by decide +kernel
theorem dX1_speechHours_4 : decode cX1_speechHours 4 = .ok (.iconst 0, 1) := by decide +kernel
theorem dX1_speechHours_5 : decode cX1_speechHours 5 = .ok (.istore 4, 2) := by decide +kernel
theorem dX1_speechHours_7 : decode cX1_speechHours 7 = .ok (.iload 4, 2) := by decide +kernel
theorem dX1_speechHours_9 : decode cX1_speechHours 9 = .ok (.bipush 48, 2) := by decide +kernel
theorem dX1_speechHours_11 : decode cX1_speechHours 11 = .ok (.if_icmp .ge 66, 3) := by decide +kernel
theorem dX1_speechHours_14 : decode cX1_speechHours 14 = .ok (.iload 4, 2) := by decide +kernel
theorem dX1_speechHours_16 : decode cX1_speechHours 16 = .ok (.bipush 24, 2) := by decide +kernel
theorem dX1_speechHours_18 : decode cX1_speechHours 18 = .ok (.irem, 1) := by decide +kernel
theorem dX1_speechHours_19 : decode cX1_speechHours 19 = .ok (.istore 5, 2) := by decide +kernel
theorem dX1_speechHours_21 : decode cX1_speechHours 21 = .ok (.iload 5, 2) := by decide +kernel
theorem dX1_speechHours_23 : decode cX1_speechHours 23 = .ok (.iload_n 1, 1) := by decide +kernel
theorem dX1_speechHours_24 : decode cX1_speechHours 24 = .ok (.if_icmp .ne 7, 3) := by decide +kernel
theorem dX1_speechHours_27 : decode cX1_speechHours 27 = .ok (.iconst 2, 1) := by decide +kernel
theorem dX1_speechHours_28 : decode cX1_speechHours 28 = .ok (.goto 10, 3) := by decide +kernel
theorem dX1_speechHours_31 : decode cX1_speechHours 31 = .ok (.aload_n 0, 1) := by decide +kernel
theorem dX1_speechHours_32 : decode cX1_speechHours 32 = .ok (.getfield 42, 3) := by decide +kernel
theorem dX1_speechHours_35 : decode cX1_speechHours 35 = .ok (.iload 5, 2) := by decide +kernel
theorem dX1_speechHours_37 : decode cX1_speechHours 37 = .ok (.iaload, 1) := by decide +kernel
theorem dX1_speechHours_38 : decode cX1_speechHours 38 = .ok (.istore 6, 2) := by decide +kernel
theorem dX1_speechHours_40 : decode cX1_speechHours 40 = .ok (.iload 6, 2) := by decide +kernel
theorem dX1_speechHours_42 : decode cX1_speechHours 42 = .ok (.ifCond .eq 15, 3) := by decide +kernel
theorem dX1_speechHours_45 : decode cX1_speechHours 45 = .ok (.iload 6, 2) := by decide +kernel
theorem dX1_speechHours_47 : decode cX1_speechHours 47 = .ok (.iconst 2, 1) := by decide +kernel
theorem dX1_speechHours_48 : decode cX1_speechHours 48 = .ok (.if_icmp .ne 7, 3) := by decide +kernel
theorem dX1_speechHours_51 : decode cX1_speechHours 51 = .ok (.iconst 1, 1) := by decide +kernel
theorem dX1_speechHours_52 : decode cX1_speechHours 52 = .ok (.goto 4, 3) := by decide +kernel
theorem dX1_speechHours_55 : decode cX1_speechHours 55 = .ok (.iconst 0, 1) := by decide +kernel
theorem dX1_speechHours_56 : decode cX1_speechHours 56 = .ok (.istore_n 2, 1) := by decide +kernel
theorem dX1_speechHours_57 : decode cX1_speechHours 57 = .ok (.iload_n 2, 1) := by decide +kernel
theorem dX1_speechHours_58 : decode cX1_speechHours 58 = .ok (.ifCond .eq 13, 3) := by decide +kernel
theorem dX1_speechHours_61 : decode cX1_speechHours 61 = .ok (.iload 4, 2) := by decide +kernel
theorem dX1_speechHours_63 : decode cX1_speechHours 63 = .ok (.bipush 24, 2) := by decide +kernel
theorem dX1_speechHours_65 : decode cX1_speechHours 65 = .ok (.if_icmp .lt 6, 3) := by decide +kernel
theorem dX1_speechHours_68 : decode cX1_speechHours 68 = .ok (.iinc 3 1, 3) := by decide +kernel
theorem dX1_speechHours_71 : decode cX1_speechHours 71 = .ok (.iinc 4 1, 3) := by decide +kernel
theorem dX1_speechHours_74 : decode cX1_speechHours 74 = .ok (.goto (-67), 3) := by decide +kernel
theorem dX1_speechHours_77 : decode cX1_speechHours 77 = .ok (.iload_n 3, 1) := by decide +kernel
theorem dX1_speechHours_78 : decode cX1_speechHours 78 = .ok (.ireturn, 1) := by decide +kernel
theorem dX1_pagesFor_0 : decode cX1_pagesFor 0 = .ok (.iload_n 1, 1) := by decide +kernel
theorem dX1_pagesFor_1 : decode cX1_pagesFor 1 = .ok (.bipush 9, 2) := by decide +kernel
theorem dX1_pagesFor_3 : decode cX1_pagesFor 3 = .ok (.iadd, 1) := by decide +kernel
theorem dX1_pagesFor_4 : decode cX1_pagesFor 4 = .ok (.bipush 10, 2) := by decide +kernel
theorem dX1_pagesFor_6 : decode cX1_pagesFor 6 = .ok (.idiv, 1) := by decide +kernel
theorem dX1_pagesFor_7 : decode cX1_pagesFor 7 = .ok (.istore_n 2, 1) := by decide +kernel
theorem dX1_pagesFor_8 : decode cX1_pagesFor 8 = .ok (.iload_n 0, 1) := by decide +kernel
theorem dX1_pagesFor_9 : decode cX1_pagesFor 9 = .ok (.ifCond .ne 9, 3) := by decide +kernel
theorem dX1_pagesFor_12 : decode cX1_pagesFor 12 = .ok (.iconst 2, 1) := by decide +kernel
theorem dX1_pagesFor_13 : decode cX1_pagesFor 13 = .ok (.iload_n 2, 1) := by decide +kernel
theorem dX1_pagesFor_14 : decode cX1_pagesFor 14 = .ok (.imul, 1) := by decide +kernel
theorem dX1_pagesFor_15 : decode cX1_pagesFor 15 = .ok (.goto 4, 3) := by decide +kernel
theorem dX1_pagesFor_18 : decode cX1_pagesFor 18 = .ok (.iload_n 2, 1) := by decide +kernel
theorem dX1_pagesFor_19 : decode cX1_pagesFor 19 = .ok (.ireturn, 1) := by decide +kernel
theorem dX1_fastFor_0 : decode cX1_fastFor 0 = .ok (.iload_n 1, 1) := by decide +kernel
theorem dX1_fastFor_1 : decode cX1_fastFor 1 = .ok (.iconst 4, 1) := by decide +kernel
theorem dX1_fastFor_2 : decode cX1_fastFor 2 = .ok (.iadd, 1) := by decide +kernel
theorem dX1_fastFor_3 : decode cX1_fastFor 3 = .ok (.iconst 5, 1) := by decide +kernel
theorem dX1_fastFor_4 : decode cX1_fastFor 4 = .ok (.idiv, 1) := by decide +kernel
theorem dX1_fastFor_5 : decode cX1_fastFor 5 = .ok (.istore_n 2, 1) := by decide +kernel
theorem dX1_fastFor_6 : decode cX1_fastFor 6 = .ok (.iload_n 0, 1) := by decide +kernel
theorem dX1_fastFor_7 : decode cX1_fastFor 7 = .ok (.iconst 2, 1) := by decide +kernel
theorem dX1_fastFor_8 : decode cX1_fastFor 8 = .ok (.if_icmp .ne 9, 3) := by decide +kernel
theorem dX1_fastFor_11 : decode cX1_fastFor 11 = .ok (.iconst 2, 1) := by decide +kernel
theorem dX1_fastFor_12 : decode cX1_fastFor 12 = .ok (.iload_n 2, 1) := by decide +kernel
theorem dX1_fastFor_13 : decode cX1_fastFor 13 = .ok (.imul, 1) := by decide +kernel
theorem dX1_fastFor_14 : decode cX1_fastFor 14 = .ok (.goto 4, 3) := by decide +kernel
theorem dX1_fastFor_17 : decode cX1_fastFor 17 = .ok (.iload_n 2, 1) := by decide +kernel
theorem dX1_fastFor_18 : decode cX1_fastFor 18 = .ok (.ireturn, 1) := by decide +kernel
theorem dX1_pagesToTell_0 : decode cX1_pagesToTell 0 = .ok (.aload_n 0, 1) := by decide +kernel
theorem dX1_pagesToTell_1 : decode cX1_pagesToTell 1 = .ok (.getfield 15, 3) := by decide +kernel
theorem dX1_pagesToTell_4 : decode cX1_pagesToTell 4 = .ok (.iload_n 1, 1) := by decide +kernel
theorem dX1_pagesToTell_5 : decode cX1_pagesToTell 5 = .ok (.iaload, 1) := by decide +kernel
theorem dX1_pagesToTell_6 : decode cX1_pagesToTell 6 = .ok (.aload_n 0, 1) := by decide +kernel
theorem dX1_pagesToTell_7 : decode cX1_pagesToTell 7 = .ok (.getfield 39, 3) := by decide +kernel
theorem dX1_pagesToTell_10 : decode cX1_pagesToTell 10 = .ok (.iload_n 2, 1) := by decide +kernel
theorem dX1_pagesToTell_11 : decode cX1_pagesToTell 11 = .ok (.iaload, 1) := by decide +kernel
theorem dX1_pagesToTell_12 : decode cX1_pagesToTell 12 = .ok (.invokestatic 112, 3) := by decide +kernel
theorem dX1_pagesToTell_15 : decode cX1_pagesToTell 15 = .ok (.ireturn, 1) := by decide +kernel
theorem dX1_leaveToTell_0 : decode cX1_leaveToTell 0 = .ok (.iload_n 3, 1) := by decide +kernel
theorem dX1_leaveToTell_1 : decode cX1_leaveToTell 1 = .ok (.ifCond .eq 7, 3) := by decide +kernel
theorem dX1_leaveToTell_4 : decode cX1_leaveToTell 4 = .ok (.iconst 0, 1) := by decide +kernel
theorem dX1_leaveToTell_5 : decode cX1_leaveToTell 5 = .ok (.goto 18, 3) := by decide +kernel
theorem dX1_leaveToTell_8 : decode cX1_leaveToTell 8 = .ok (.aload_n 0, 1) := by decide +kernel
theorem dX1_leaveToTell_9 : decode cX1_leaveToTell 9 = .ok (.getfield 24, 3) := by decide +kernel
theorem dX1_leaveToTell_12 : decode cX1_leaveToTell 12 = .ok (.iload_n 1, 1) := by decide +kernel
theorem dX1_leaveToTell_13 : decode cX1_leaveToTell 13 = .ok (.iaload, 1) := by decide +kernel
theorem dX1_leaveToTell_14 : decode cX1_leaveToTell 14 = .ok (.aload_n 0, 1) := by decide +kernel
theorem dX1_leaveToTell_15 : decode cX1_leaveToTell 15 = .ok (.getfield 39, 3) := by decide +kernel
theorem dX1_leaveToTell_18 : decode cX1_leaveToTell 18 = .ok (.iload_n 2, 1) := by decide +kernel
theorem dX1_leaveToTell_19 : decode cX1_leaveToTell 19 = .ok (.iaload, 1) := by decide +kernel
theorem dX1_leaveToTell_20 : decode cX1_leaveToTell 20 = .ok (.invokestatic 115, 3) := by decide +kernel
theorem dX1_leaveToTell_23 : decode cX1_leaveToTell 23 = .ok (.ireturn, 1) := by decide +kernel
theorem dX1_restToTell_0 : decode cX1_restToTell 0 = .ok (.iload_n 3, 1) := by decide +kernel
theorem dX1_restToTell_1 : decode cX1_restToTell 1 = .ok (.ifCond .eq 7, 3) := by decide +kernel
theorem dX1_restToTell_4 : decode cX1_restToTell 4 = .ok (.iconst 0, 1) := by decide +kernel
theorem dX1_restToTell_5 : decode cX1_restToTell 5 = .ok (.goto 20, 3) := by decide +kernel
theorem dX1_restToTell_8 : decode cX1_restToTell 8 = .ok (.aload_n 0, 1) := by decide +kernel
theorem dX1_restToTell_9 : decode cX1_restToTell 9 = .ok (.getfield 39, 3) := by decide +kernel
theorem dX1_restToTell_12 : decode cX1_restToTell 12 = .ok (.iload_n 2, 1) := by decide +kernel
theorem dX1_restToTell_13 : decode cX1_restToTell 13 = .ok (.iaload, 1) := by decide +kernel
theorem dX1_restToTell_14 : decode cX1_restToTell 14 = .ok (.aload_n 0, 1) := by decide +kernel
theorem dX1_restToTell_15 : decode cX1_restToTell 15 = .ok (.getfield 24, 3) := by decide +kernel
theorem dX1_restToTell_18 : decode cX1_restToTell 18 = .ok (.iload_n 1, 1) := by decide +kernel
theorem dX1_restToTell_19 : decode cX1_restToTell 19 = .ok (.iaload, 1) := by decide +kernel
theorem dX1_restToTell_20 : decode cX1_restToTell 20 = .ok (.isub, 1) := by decide +kernel
theorem dX1_restToTell_21 : decode cX1_restToTell 21 = .ok (.iconst 0, 1) := by decide +kernel
theorem dX1_restToTell_22 : decode cX1_restToTell 22 = .ok (.invokestatic 120, 3) := by decide +kernel
theorem dX1_restToTell_25 : decode cX1_restToTell 25 = .ok (.ireturn, 1) := by decide +kernel
theorem dX1_fastToTell_0 : decode cX1_fastToTell 0 = .ok (.aload_n 0, 1) := by decide +kernel
theorem dX1_fastToTell_1 : decode cX1_fastToTell 1 = .ok (.getfield 15, 3) := by decide +kernel
theorem dX1_fastToTell_4 : decode cX1_fastToTell 4 = .ok (.iload_n 1, 1) := by decide +kernel
theorem dX1_fastToTell_5 : decode cX1_fastToTell 5 = .ok (.iaload, 1) := by decide +kernel
theorem dX1_fastToTell_6 : decode cX1_fastToTell 6 = .ok (.aload_n 0, 1) := by decide +kernel
theorem dX1_fastToTell_7 : decode cX1_fastToTell 7 = .ok (.iload_n 1, 1) := by decide +kernel
theorem dX1_fastToTell_8 : decode cX1_fastToTell 8 = .ok (.iload_n 2, 1) := by decide +kernel
theorem dX1_fastToTell_9 : decode cX1_fastToTell 9 = .ok (.iload_n 3, 1) := by decide +kernel
theorem dX1_fastToTell_10 : decode cX1_fastToTell 10 = .ok (.invokevirtual 123, 3) := by decide +kernel
theorem dX1_fastToTell_13 : decode cX1_fastToTell 13 = .ok (.invokestatic 127, 3) := by decide +kernel
theorem dX1_fastToTell_16 : decode cX1_fastToTell 16 = .ok (.ireturn, 1) := by decide +kernel
theorem dX1_costOf_0 : decode cX1_costOf 0 = .ok (.iload_n 3, 1) := by decide +kernel
theorem dX1_costOf_1 : decode cX1_costOf 1 = .ok (.ifCond .ne 5, 3) := by decide +kernel
theorem dX1_costOf_4 : decode cX1_costOf 4 = .ok (.iconst 0, 1) := by decide +kernel
theorem dX1_costOf_5 : decode cX1_costOf 5 = .ok (.ireturn, 1) := by decide +kernel
theorem dX1_costOf_6 : decode cX1_costOf 6 = .ok (.iload_n 3, 1) := by decide +kernel
theorem dX1_costOf_7 : decode cX1_costOf 7 = .ok (.iconst 1, 1) := by decide +kernel
theorem dX1_costOf_8 : decode cX1_costOf 8 = .ok (.if_icmp .ne 12, 3) := by decide +kernel
theorem dX1_costOf_11 : decode cX1_costOf 11 = .ok (.iconst 3, 1) := by decide +kernel
theorem dX1_costOf_12 : decode cX1_costOf 12 = .ok (.aload_n 0, 1) := by decide +kernel
theorem dX1_costOf_13 : decode cX1_costOf 13 = .ok (.iload_n 1, 1) := by decide +kernel
theorem dX1_costOf_14 : decode cX1_costOf 14 = .ok (.iload_n 2, 1) := by decide +kernel
theorem dX1_costOf_15 : decode cX1_costOf 15 = .ok (.invokevirtual 130, 3) := by decide +kernel
theorem dX1_costOf_18 : decode cX1_costOf 18 = .ok (.imul, 1) := by decide +kernel
theorem dX1_costOf_19 : decode cX1_costOf 19 = .ok (.ireturn, 1) := by decide +kernel
theorem dX1_costOf_20 : decode cX1_costOf 20 = .ok (.aload_n 0, 1) := by decide +kernel
theorem dX1_costOf_21 : decode cX1_costOf 21 = .ok (.aload_n 0, 1) := by decide +kernel
theorem dX1_costOf_22 : decode cX1_costOf 22 = .ok (.getfield 67, 3) := by decide +kernel
theorem dX1_costOf_25 : decode cX1_costOf 25 = .ok (.bipush 24, 2) := by decide +kernel
theorem dX1_costOf_27 : decode cX1_costOf 27 = .ok (.irem, 1) := by decide +kernel
theorem dX1_costOf_28 : decode cX1_costOf 28 = .ok (.invokevirtual 133, 3) := by decide +kernel
theorem dX1_costOf_31 : decode cX1_costOf 31 = .ok (.istore 4, 2) := by decide +kernel
theorem dX1_costOf_33 : decode cX1_costOf 33 = .ok (.bipush 10, 2) := by decide +kernel
theorem dX1_costOf_35 : decode cX1_costOf 35 = .ok (.aload_n 0, 1) := by decide +kernel
theorem dX1_costOf_36 : decode cX1_costOf 36 = .ok (.iload_n 1, 1) := by decide +kernel
theorem dX1_costOf_37 : decode cX1_costOf 37 = .ok (.iload_n 2, 1) := by decide +kernel
theorem dX1_costOf_38 : decode cX1_costOf 38 = .ok (.iload 4, 2) := by decide +kernel
theorem dX1_costOf_40 : decode cX1_costOf 40 = .ok (.invokevirtual 137, 3) := by decide +kernel
theorem dX1_costOf_43 : decode cX1_costOf 43 = .ok (.imul, 1) := by decide +kernel
theorem dX1_costOf_44 : decode cX1_costOf 44 = .ok (.iconst 1, 1) := by decide +kernel
theorem dX1_costOf_45 : decode cX1_costOf 45 = .ok (.aload_n 0, 1) := by decide +kernel
theorem dX1_costOf_46 : decode cX1_costOf 46 = .ok (.iload_n 1, 1) := by decide +kernel
theorem dX1_costOf_47 : decode cX1_costOf 47 = .ok (.iload_n 2, 1) := by decide +kernel
theorem dX1_costOf_48 : decode cX1_costOf 48 = .ok (.iload 4, 2) := by decide +kernel
theorem dX1_costOf_50 : decode cX1_costOf 50 = .ok (.invokevirtual 140, 3) := by decide +kernel
theorem dX1_costOf_53 : decode cX1_costOf 53 = .ok (.imul, 1) := by decide +kernel
theorem dX1_costOf_54 : decode cX1_costOf 54 = .ok (.iadd, 1) := by decide +kernel
theorem dX1_costOf_55 : decode cX1_costOf 55 = .ok (.ireturn, 1) := by decide +kernel
theorem dX1_tellingReason_0 : decode cX1_tellingReason 0 = .ok (.aload_n 0, 1) := by decide +kernel
theorem dX1_tellingReason_1 : decode cX1_tellingReason 1 = .ok (.iload_n 1, 1) := by decide +kernel
theorem dX1_tellingReason_2 : decode cX1_tellingReason 2 = .ok (.iload_n 2, 1) := by decide +kernel
theorem dX1_tellingReason_3 : decode cX1_tellingReason 3 = .ok (.iload_n 3, 1) := by decide +kernel
theorem dX1_tellingReason_4 : decode cX1_tellingReason 4 = .ok (.iload 4, 2) := by decide +kernel
theorem dX1_tellingReason_6 : decode cX1_tellingReason 6 = .ok (.invokevirtual 143, 3) := by decide +kernel
theorem dX1_tellingReason_9 : decode cX1_tellingReason 9 = .ok (.istore 5, 2) := by decide +kernel
theorem dX1_tellingReason_11 : decode cX1_tellingReason 11 = .ok (.iload 5, 2) := by decide +kernel
theorem dX1_tellingReason_13 : decode cX1_tellingReason 13 = .ok (.ifCond .ne 9, 3) := by decide +kernel
theorem dX1_tellingReason_16 : decode cX1_tellingReason 16 = .ok (.iload 4, 2) := by decide +kernel
theorem dX1_tellingReason_18 : decode cX1_tellingReason 18 = .ok (.iconst 2, 1) := by decide +kernel
theorem dX1_tellingReason_19 : decode cX1_tellingReason 19 = .ok (.if_icmp .eq 6, 3) := by decide +kernel
theorem dX1_tellingReason_22 : decode cX1_tellingReason 22 = .ok (.iload 5, 2) := by decide +kernel
theorem dX1_tellingReason_24 : decode cX1_tellingReason 24 = .ok (.ireturn, 1) := by decide +kernel
theorem dX1_tellingReason_25 : decode cX1_tellingReason 25 = .ok (.aload_n 0, 1) := by decide +kernel
theorem dX1_tellingReason_26 : decode cX1_tellingReason 26 = .ok (.aload_n 0, 1) := by decide +kernel
theorem dX1_tellingReason_27 : decode cX1_tellingReason 27 = .ok (.getfield 67, 3) := by decide +kernel
theorem dX1_tellingReason_30 : decode cX1_tellingReason 30 = .ok (.bipush 24, 2) := by decide +kernel
theorem dX1_tellingReason_32 : decode cX1_tellingReason 32 = .ok (.irem, 1) := by decide +kernel
theorem dX1_tellingReason_33 : decode cX1_tellingReason 33 = .ok (.invokevirtual 133, 3) := by decide +kernel
theorem dX1_tellingReason_36 : decode cX1_tellingReason 36 = .ok (.ifCond .eq 6, 3) := by decide +kernel
theorem dX1_tellingReason_39 : decode cX1_tellingReason 39 = .ok (.bipush 20, 2) := by decide +kernel
theorem dX1_tellingReason_41 : decode cX1_tellingReason 41 = .ok (.ireturn, 1) := by decide +kernel
theorem dX1_tellingReason_42 : decode cX1_tellingReason 42 = .ok (.aload_n 0, 1) := by decide +kernel
theorem dX1_tellingReason_43 : decode cX1_tellingReason 43 = .ok (.getfield 24, 3) := by decide +kernel
theorem dX1_tellingReason_46 : decode cX1_tellingReason 46 = .ok (.iload_n 1, 1) := by decide +kernel
theorem dX1_tellingReason_47 : decode cX1_tellingReason 47 = .ok (.iaload, 1) := by decide +kernel
theorem dX1_tellingReason_48 : decode cX1_tellingReason 48 = .ok (.aload_n 0, 1) := by decide +kernel
theorem dX1_tellingReason_49 : decode cX1_tellingReason 49 = .ok (.getfield 39, 3) := by decide +kernel
theorem dX1_tellingReason_52 : decode cX1_tellingReason 52 = .ok (.iload_n 3, 1) := by decide +kernel
theorem dX1_tellingReason_53 : decode cX1_tellingReason 53 = .ok (.iaload, 1) := by decide +kernel
theorem dX1_tellingReason_54 : decode cX1_tellingReason 54 = .ok (.if_icmp .lt 6, 3) := by decide +kernel
theorem dX1_tellingReason_57 : decode cX1_tellingReason 57 = .ok (.bipush 21, 2) := by decide +kernel
theorem dX1_tellingReason_59 : decode cX1_tellingReason 59 = .ok (.ireturn, 1) := by decide +kernel
theorem dX1_tellingReason_60 : decode cX1_tellingReason 60 = .ok (.aload_n 0, 1) := by decide +kernel
theorem dX1_tellingReason_61 : decode cX1_tellingReason 61 = .ok (.getfield 24, 3) := by decide +kernel
theorem dX1_tellingReason_64 : decode cX1_tellingReason 64 = .ok (.iload_n 1, 1) := by decide +kernel
theorem dX1_tellingReason_65 : decode cX1_tellingReason 65 = .ok (.iaload, 1) := by decide +kernel
theorem dX1_tellingReason_66 : decode cX1_tellingReason 66 = .ok (.ifCond .le 8, 3) := by decide +kernel
theorem dX1_tellingReason_69 : decode cX1_tellingReason 69 = .ok (.bipush 22, 2) := by decide +kernel
theorem dX1_tellingReason_71 : decode cX1_tellingReason 71 = .ok (.goto 5, 3) := by decide +kernel
theorem dX1_tellingReason_74 : decode cX1_tellingReason 74 = .ok (.bipush 23, 2) := by decide +kernel
theorem dX1_tellingReason_76 : decode cX1_tellingReason 76 = .ok (.ireturn, 1) := by decide +kernel
theorem dX1_causeOf_0 : decode cX1_causeOf 0 = .ok (.iload_n 1, 1) := by decide +kernel
theorem dX1_causeOf_1 : decode cX1_causeOf 1 = .ok (.tableswitch 172 0 23 #[111, 172, 129, 131, 133, 138, 172, 172, 172, 172, 172, 172, 172, 172, 172, 172, 172, 172, 172, 172, 145, 157, 157, 164], 111) := by decide +kernel
theorem dX1_causeOf_112 : decode cX1_causeOf 112 = .ok (.iload 5, 2) := by decide +kernel
theorem dX1_causeOf_114 : decode cX1_causeOf 114 = .ok (.iconst 1, 1) := by decide +kernel
theorem dX1_causeOf_115 : decode cX1_causeOf 115 = .ok (.if_icmp .ne 13, 3) := by decide +kernel
theorem dX1_causeOf_118 : decode cX1_causeOf 118 = .ok (.aload_n 0, 1) := by decide +kernel
theorem dX1_causeOf_119 : decode cX1_causeOf 119 = .ok (.iload_n 2, 1) := by decide +kernel
theorem dX1_causeOf_120 : decode cX1_causeOf 120 = .ok (.iload 4, 2) := by decide +kernel
theorem dX1_causeOf_122 : decode cX1_causeOf 122 = .ok (.invokevirtual 130, 3) := by decide +kernel
theorem dX1_causeOf_125 : decode cX1_causeOf 125 = .ok (.goto 4, 3) := by decide +kernel
theorem dX1_causeOf_128 : decode cX1_causeOf 128 = .ok (.iconst 0, 1) := by decide +kernel
theorem dX1_causeOf_129 : decode cX1_causeOf 129 = .ok (.ireturn, 1) := by decide +kernel
theorem dX1_causeOf_130 : decode cX1_causeOf 130 = .ok (.iload_n 2, 1) := by decide +kernel
theorem dX1_causeOf_131 : decode cX1_causeOf 131 = .ok (.ireturn, 1) := by decide +kernel
theorem dX1_causeOf_132 : decode cX1_causeOf 132 = .ok (.iload_n 3, 1) := by decide +kernel
theorem dX1_causeOf_133 : decode cX1_causeOf 133 = .ok (.ireturn, 1) := by decide +kernel
theorem dX1_causeOf_134 : decode cX1_causeOf 134 = .ok (.aload_n 0, 1) := by decide +kernel
theorem dX1_causeOf_135 : decode cX1_causeOf 135 = .ok (.getfield 61, 3) := by decide +kernel
theorem dX1_causeOf_138 : decode cX1_causeOf 138 = .ok (.ireturn, 1) := by decide +kernel
theorem dX1_causeOf_139 : decode cX1_causeOf 139 = .ok (.aload_n 0, 1) := by decide +kernel
theorem dX1_causeOf_140 : decode cX1_causeOf 140 = .ok (.getfield 27, 3) := by decide +kernel
theorem dX1_causeOf_143 : decode cX1_causeOf 143 = .ok (.iload_n 2, 1) := by decide +kernel
theorem dX1_causeOf_144 : decode cX1_causeOf 144 = .ok (.iaload, 1) := by decide +kernel
theorem dX1_causeOf_145 : decode cX1_causeOf 145 = .ok (.ireturn, 1) := by decide +kernel
theorem dX1_causeOf_146 : decode cX1_causeOf 146 = .ok (.aload_n 0, 1) := by decide +kernel
theorem dX1_causeOf_147 : decode cX1_causeOf 147 = .ok (.aload_n 0, 1) := by decide +kernel
theorem dX1_causeOf_148 : decode cX1_causeOf 148 = .ok (.getfield 67, 3) := by decide +kernel
theorem dX1_causeOf_151 : decode cX1_causeOf 151 = .ok (.bipush 24, 2) := by decide +kernel
theorem dX1_causeOf_153 : decode cX1_causeOf 153 = .ok (.irem, 1) := by decide +kernel
theorem dX1_causeOf_154 : decode cX1_causeOf 154 = .ok (.invokevirtual 109, 3) := by decide +kernel
theorem dX1_causeOf_157 : decode cX1_causeOf 157 = .ok (.ireturn, 1) := by decide +kernel
theorem dX1_causeOf_158 : decode cX1_causeOf 158 = .ok (.aload_n 0, 1) := by decide +kernel
theorem dX1_causeOf_159 : decode cX1_causeOf 159 = .ok (.getfield 24, 3) := by decide +kernel
theorem dX1_causeOf_162 : decode cX1_causeOf 162 = .ok (.iload_n 2, 1) := by decide +kernel
theorem dX1_causeOf_163 : decode cX1_causeOf 163 = .ok (.iaload, 1) := by decide +kernel
theorem dX1_causeOf_164 : decode cX1_causeOf 164 = .ok (.ireturn, 1) := by decide +kernel
theorem dX1_causeOf_165 : decode cX1_causeOf 165 = .ok (.aload_n 0, 1) := by decide +kernel
theorem dX1_causeOf_166 : decode cX1_causeOf 166 = .ok (.getfield 39, 3) := by decide +kernel
theorem dX1_causeOf_169 : decode cX1_causeOf 169 = .ok (.iload 4, 2) := by decide +kernel
theorem dX1_causeOf_171 : decode cX1_causeOf 171 = .ok (.iaload, 1) := by decide +kernel
theorem dX1_causeOf_172 : decode cX1_causeOf 172 = .ok (.ireturn, 1) := by decide +kernel
theorem dX1_causeOf_173 : decode cX1_causeOf 173 = .ok (.iconst (-1), 1) := by decide +kernel
theorem dX1_causeOf_174 : decode cX1_causeOf 174 = .ok (.ireturn, 1) := by decide +kernel
theorem dX1_causeBehind_0 : decode cX1_causeBehind 0 = .ok (.iload_n 1, 1) := by decide +kernel
theorem dX1_causeBehind_1 : decode cX1_causeBehind 1 = .ok (.lookupswitch 90 #[(4, 51), (5, 58), (21, 76), (22, 58), (23, 58)], 51) := by decide +kernel
theorem dX1_causeBehind_52 : decode cX1_causeBehind 52 = .ok (.aload_n 0, 1) := by decide +kernel
theorem dX1_causeBehind_53 : decode cX1_causeBehind 53 = .ok (.iload_n 2, 1) := by decide +kernel
theorem dX1_causeBehind_54 : decode cX1_causeBehind 54 = .ok (.iload_n 3, 1) := by decide +kernel
theorem dX1_causeBehind_55 : decode cX1_causeBehind 55 = .ok (.invokevirtual 130, 3) := by decide +kernel
theorem dX1_causeBehind_58 : decode cX1_causeBehind 58 = .ok (.ireturn, 1) := by decide +kernel
theorem dX1_causeBehind_59 : decode cX1_causeBehind 59 = .ok (.aload_n 0, 1) := by decide +kernel
theorem dX1_causeBehind_60 : decode cX1_causeBehind 60 = .ok (.iload_n 2, 1) := by decide +kernel
theorem dX1_causeBehind_61 : decode cX1_causeBehind 61 = .ok (.iload_n 3, 1) := by decide +kernel
theorem dX1_causeBehind_62 : decode cX1_causeBehind 62 = .ok (.aload_n 0, 1) := by decide +kernel
theorem dX1_causeBehind_63 : decode cX1_causeBehind 63 = .ok (.aload_n 0, 1) := by decide +kernel
theorem dX1_causeBehind_64 : decode cX1_causeBehind 64 = .ok (.getfield 67, 3) := by decide +kernel
theorem dX1_causeBehind_67 : decode cX1_causeBehind 67 = .ok (.bipush 24, 2) := by decide +kernel
theorem dX1_causeBehind_69 : decode cX1_causeBehind 69 = .ok (.irem, 1) := by decide +kernel
theorem dX1_causeBehind_70 : decode cX1_causeBehind 70 = .ok (.invokevirtual 133, 3) := by decide +kernel
theorem dX1_causeBehind_73 : decode cX1_causeBehind 73 = .ok (.invokevirtual 137, 3) := by decide +kernel
theorem dX1_causeBehind_76 : decode cX1_causeBehind 76 = .ok (.ireturn, 1) := by decide +kernel
theorem dX1_causeBehind_77 : decode cX1_causeBehind 77 = .ok (.aload_n 0, 1) := by decide +kernel
theorem dX1_causeBehind_78 : decode cX1_causeBehind 78 = .ok (.getfield 24, 3) := by decide +kernel
theorem dX1_causeBehind_81 : decode cX1_causeBehind 81 = .ok (.iload_n 2, 1) := by decide +kernel
theorem dX1_causeBehind_82 : decode cX1_causeBehind 82 = .ok (.iaload, 1) := by decide +kernel
theorem dX1_causeBehind_83 : decode cX1_causeBehind 83 = .ok (.aload_n 0, 1) := by decide +kernel
theorem dX1_causeBehind_84 : decode cX1_causeBehind 84 = .ok (.getfield 39, 3) := by decide +kernel
theorem dX1_causeBehind_87 : decode cX1_causeBehind 87 = .ok (.iload_n 3, 1) := by decide +kernel
theorem dX1_causeBehind_88 : decode cX1_causeBehind 88 = .ok (.iaload, 1) := by decide +kernel
theorem dX1_causeBehind_89 : decode cX1_causeBehind 89 = .ok (.isub, 1) := by decide +kernel
theorem dX1_causeBehind_90 : decode cX1_causeBehind 90 = .ok (.ireturn, 1) := by decide +kernel
theorem dX1_causeBehind_91 : decode cX1_causeBehind 91 = .ok (.iconst (-1), 1) := by decide +kernel
theorem dX1_causeBehind_92 : decode cX1_causeBehind 92 = .ok (.ireturn, 1) := by decide +kernel
theorem dX1_wantRefusal_0 : decode cX1_wantRefusal 0 = .ok (.iload_n 2, 1) := by decide +kernel
theorem dX1_wantRefusal_1 : decode cX1_wantRefusal 1 = .ok (.aload_n 0, 1) := by decide +kernel
theorem dX1_wantRefusal_2 : decode cX1_wantRefusal 2 = .ok (.getfield 21, 3) := by decide +kernel
theorem dX1_wantRefusal_5 : decode cX1_wantRefusal 5 = .ok (.iload_n 1, 1) := by decide +kernel
theorem dX1_wantRefusal_6 : decode cX1_wantRefusal 6 = .ok (.iaload, 1) := by decide +kernel
theorem dX1_wantRefusal_7 : decode cX1_wantRefusal 7 = .ok (.invokestatic 102, 3) := by decide +kernel
theorem dX1_wantRefusal_10 : decode cX1_wantRefusal 10 = .ok (.ifCond .eq 7, 3) := by decide +kernel
theorem dX1_wantRefusal_13 : decode cX1_wantRefusal 13 = .ok (.iconst 1, 1) := by decide +kernel
theorem dX1_wantRefusal_14 : decode cX1_wantRefusal 14 = .ok (.goto 4, 3) := by decide +kernel
theorem dX1_wantRefusal_17 : decode cX1_wantRefusal 17 = .ok (.iconst 0, 1) := by decide +kernel
theorem dX1_wantRefusal_18 : decode cX1_wantRefusal 18 = .ok (.ireturn, 1) := by decide +kernel
theorem dX1_tellRefusal_0 : decode cX1_tellRefusal 0 = .ok (.iload 4, 2) := by decide +kernel
theorem dX1_tellRefusal_2 : decode cX1_tellRefusal 2 = .ok (.ifCond .ne 18, 3) := by decide +kernel
theorem dX1_tellRefusal_5 : decode cX1_tellRefusal 5 = .ok (.iload_n 3, 1) := by decide +kernel
theorem dX1_tellRefusal_6 : decode cX1_tellRefusal 6 = .ok (.aload_n 0, 1) := by decide +kernel
theorem dX1_tellRefusal_7 : decode cX1_tellRefusal 7 = .ok (.getfield 18, 3) := by decide +kernel
theorem dX1_tellRefusal_10 : decode cX1_tellRefusal 10 = .ok (.iload_n 1, 1) := by decide +kernel
theorem dX1_tellRefusal_11 : decode cX1_tellRefusal 11 = .ok (.iaload, 1) := by decide +kernel
theorem dX1_tellRefusal_12 : decode cX1_tellRefusal 12 = .ok (.invokestatic 102, 3) := by decide +kernel
theorem dX1_tellRefusal_15 : decode cX1_tellRefusal 15 = .ok (.ifCond .ne 5, 3) := by decide +kernel
theorem dX1_tellRefusal_18 : decode cX1_tellRefusal 18 = .ok (.iconst 2, 1) := by decide +kernel
theorem dX1_tellRefusal_19 : decode cX1_tellRefusal 19 = .ok (.ireturn, 1) := by decide +kernel
theorem dX1_tellRefusal_20 : decode cX1_tellRefusal 20 = .ok (.iload 4, 2) := by decide +kernel
theorem dX1_tellRefusal_22 : decode cX1_tellRefusal 22 = .ok (.ifCond .ne 18, 3) := by decide +kernel
theorem dX1_tellRefusal_25 : decode cX1_tellRefusal 25 = .ok (.iload_n 3, 1) := by decide +kernel
theorem dX1_tellRefusal_26 : decode cX1_tellRefusal 26 = .ok (.aload_n 0, 1) := by decide +kernel
theorem dX1_tellRefusal_27 : decode cX1_tellRefusal 27 = .ok (.getfield 18, 3) := by decide +kernel
theorem dX1_tellRefusal_30 : decode cX1_tellRefusal 30 = .ok (.iload_n 2, 1) := by decide +kernel
theorem dX1_tellRefusal_31 : decode cX1_tellRefusal 31 = .ok (.iaload, 1) := by decide +kernel
theorem dX1_tellRefusal_32 : decode cX1_tellRefusal 32 = .ok (.invokestatic 102, 3) := by decide +kernel
theorem dX1_tellRefusal_35 : decode cX1_tellRefusal 35 = .ok (.ifCond .ne 5, 3) := by decide +kernel
theorem dX1_tellRefusal_38 : decode cX1_tellRefusal 38 = .ok (.iconst 3, 1) := by decide +kernel
theorem dX1_tellRefusal_39 : decode cX1_tellRefusal 39 = .ok (.ireturn, 1) := by decide +kernel
theorem dX1_tellRefusal_40 : decode cX1_tellRefusal 40 = .ok (.iload 4, 2) := by decide +kernel
theorem dX1_tellRefusal_42 : decode cX1_tellRefusal 42 = .ok (.iconst 1, 1) := by decide +kernel
theorem dX1_tellRefusal_43 : decode cX1_tellRefusal 43 = .ok (.if_icmp .ne 18, 3) := by decide +kernel
theorem dX1_tellRefusal_46 : decode cX1_tellRefusal 46 = .ok (.aload_n 0, 1) := by decide +kernel
theorem dX1_tellRefusal_47 : decode cX1_tellRefusal 47 = .ok (.iload_n 1, 1) := by decide +kernel
theorem dX1_tellRefusal_48 : decode cX1_tellRefusal 48 = .ok (.iload_n 3, 1) := by decide +kernel
theorem dX1_tellRefusal_49 : decode cX1_tellRefusal 49 = .ok (.invokevirtual 130, 3) := by decide +kernel
theorem dX1_tellRefusal_52 : decode cX1_tellRefusal 52 = .ok (.aload_n 0, 1) := by decide +kernel
theorem dX1_tellRefusal_53 : decode cX1_tellRefusal 53 = .ok (.getfield 61, 3) := by decide +kernel
theorem dX1_tellRefusal_56 : decode cX1_tellRefusal 56 = .ok (.if_icmp .le 5, 3) := by decide +kernel
theorem dX1_tellRefusal_59 : decode cX1_tellRefusal 59 = .ok (.iconst 4, 1) := by decide +kernel
theorem dX1_tellRefusal_60 : decode cX1_tellRefusal 60 = .ok (.ireturn, 1) := by decide +kernel
theorem dX1_tellRefusal_61 : decode cX1_tellRefusal 61 = .ok (.iload 4, 2) := by decide +kernel
theorem dX1_tellRefusal_63 : decode cX1_tellRefusal 63 = .ok (.iconst 2, 1) := by decide +kernel
theorem dX1_tellRefusal_64 : decode cX1_tellRefusal 64 = .ok (.if_icmp .ne 34, 3) := by decide +kernel
theorem dX1_tellRefusal_67 : decode cX1_tellRefusal 67 = .ok (.aload_n 0, 1) := by decide +kernel
theorem dX1_tellRefusal_68 : decode cX1_tellRefusal 68 = .ok (.getfield 27, 3) := by decide +kernel
theorem dX1_tellRefusal_71 : decode cX1_tellRefusal 71 = .ok (.iload_n 1, 1) := by decide +kernel
theorem dX1_tellRefusal_72 : decode cX1_tellRefusal 72 = .ok (.iaload, 1) := by decide +kernel
theorem dX1_tellRefusal_73 : decode cX1_tellRefusal 73 = .ok (.aload_n 0, 1) := by decide +kernel
theorem dX1_tellRefusal_74 : decode cX1_tellRefusal 74 = .ok (.iload_n 1, 1) := by decide +kernel
theorem dX1_tellRefusal_75 : decode cX1_tellRefusal 75 = .ok (.iload_n 3, 1) := by decide +kernel
theorem dX1_tellRefusal_76 : decode cX1_tellRefusal 76 = .ok (.aload_n 0, 1) := by decide +kernel
theorem dX1_tellRefusal_77 : decode cX1_tellRefusal 77 = .ok (.aload_n 0, 1) := by decide +kernel
theorem dX1_tellRefusal_78 : decode cX1_tellRefusal 78 = .ok (.getfield 67, 3) := by decide +kernel
theorem dX1_tellRefusal_81 : decode cX1_tellRefusal 81 = .ok (.bipush 24, 2) := by decide +kernel
theorem dX1_tellRefusal_83 : decode cX1_tellRefusal 83 = .ok (.irem, 1) := by decide +kernel
theorem dX1_tellRefusal_84 : decode cX1_tellRefusal 84 = .ok (.invokevirtual 133, 3) := by decide +kernel
theorem dX1_tellRefusal_87 : decode cX1_tellRefusal 87 = .ok (.invokevirtual 137, 3) := by decide +kernel
theorem dX1_tellRefusal_90 : decode cX1_tellRefusal 90 = .ok (.iadd, 1) := by decide +kernel
theorem dX1_tellRefusal_91 : decode cX1_tellRefusal 91 = .ok (.bipush 99, 2) := by decide +kernel
theorem dX1_tellRefusal_93 : decode cX1_tellRefusal 93 = .ok (.if_icmp .le 5, 3) := by decide +kernel
theorem dX1_tellRefusal_96 : decode cX1_tellRefusal 96 = .ok (.iconst 5, 1) := by decide +kernel
theorem dX1_tellRefusal_97 : decode cX1_tellRefusal 97 = .ok (.ireturn, 1) := by decide +kernel
theorem dX1_tellRefusal_98 : decode cX1_tellRefusal 98 = .ok (.iconst 0, 1) := by decide +kernel
theorem dX1_tellRefusal_99 : decode cX1_tellRefusal 99 = .ok (.ireturn, 1) := by decide +kernel
theorem dX1_giveRefusal_0 : decode cX1_giveRefusal 0 = .ok (.aload_n 0, 1) := by decide +kernel
theorem dX1_giveRefusal_1 : decode cX1_giveRefusal 1 = .ok (.getfield 15, 3) := by decide +kernel
theorem dX1_giveRefusal_4 : decode cX1_giveRefusal 4 = .ok (.iload_n 1, 1) := by decide +kernel
theorem dX1_giveRefusal_5 : decode cX1_giveRefusal 5 = .ok (.iaload, 1) := by decide +kernel
theorem dX1_giveRefusal_6 : decode cX1_giveRefusal 6 = .ok (.iconst 2, 1) := by decide +kernel
theorem dX1_giveRefusal_7 : decode cX1_giveRefusal 7 = .ok (.if_icmp .eq 6, 3) := by decide +kernel
theorem dX1_giveRefusal_10 : decode cX1_giveRefusal 10 = .ok (.bipush 6, 2) := by decide +kernel
theorem dX1_giveRefusal_12 : decode cX1_giveRefusal 12 = .ok (.ireturn, 1) := by decide +kernel
theorem dX1_giveRefusal_13 : decode cX1_giveRefusal 13 = .ok (.aload_n 0, 1) := by decide +kernel
theorem dX1_giveRefusal_14 : decode cX1_giveRefusal 14 = .ok (.getfield 27, 3) := by decide +kernel
theorem dX1_giveRefusal_17 : decode cX1_giveRefusal 17 = .ok (.iload_n 1, 1) := by decide +kernel
theorem dX1_giveRefusal_18 : decode cX1_giveRefusal 18 = .ok (.iaload, 1) := by decide +kernel
theorem dX1_giveRefusal_19 : decode cX1_giveRefusal 19 = .ok (.ifCond .le 6, 3) := by decide +kernel
theorem dX1_giveRefusal_22 : decode cX1_giveRefusal 22 = .ok (.bipush 7, 2) := by decide +kernel
theorem dX1_giveRefusal_24 : decode cX1_giveRefusal 24 = .ok (.ireturn, 1) := by decide +kernel
theorem dX1_giveRefusal_25 : decode cX1_giveRefusal 25 = .ok (.aload_n 0, 1) := by decide +kernel
theorem dX1_giveRefusal_26 : decode cX1_giveRefusal 26 = .ok (.getfield 27, 3) := by decide +kernel
theorem dX1_giveRefusal_29 : decode cX1_giveRefusal 29 = .ok (.iload_n 2, 1) := by decide +kernel
theorem dX1_giveRefusal_30 : decode cX1_giveRefusal 30 = .ok (.iaload, 1) := by decide +kernel
theorem dX1_giveRefusal_31 : decode cX1_giveRefusal 31 = .ok (.ifCond .le 6, 3) := by decide +kernel
theorem dX1_giveRefusal_34 : decode cX1_giveRefusal 34 = .ok (.bipush 8, 2) := by decide +kernel
theorem dX1_giveRefusal_36 : decode cX1_giveRefusal 36 = .ok (.ireturn, 1) := by decide +kernel
theorem dX1_giveRefusal_37 : decode cX1_giveRefusal 37 = .ok (.aload_n 0, 1) := by decide +kernel
theorem dX1_giveRefusal_38 : decode cX1_giveRefusal 38 = .ok (.getfield 30, 3) := by decide +kernel
theorem dX1_giveRefusal_41 : decode cX1_giveRefusal 41 = .ok (.iload_n 1, 1) := by decide +kernel
theorem dX1_giveRefusal_42 : decode cX1_giveRefusal 42 = .ok (.iaload, 1) := by decide +kernel
theorem dX1_giveRefusal_43 : decode cX1_giveRefusal 43 = .ok (.iload_n 3, 1) := by decide +kernel
theorem dX1_giveRefusal_44 : decode cX1_giveRefusal 44 = .ok (.iadd, 1) := by decide +kernel
theorem dX1_giveRefusal_45 : decode cX1_giveRefusal 45 = .ok (.aload_n 0, 1) := by decide +kernel
theorem dX1_giveRefusal_46 : decode cX1_giveRefusal 46 = .ok (.getfield 64, 3) := by decide +kernel
theorem dX1_giveRefusal_49 : decode cX1_giveRefusal 49 = .ok (.if_icmp .le 6, 3) := by decide +kernel
theorem dX1_giveRefusal_52 : decode cX1_giveRefusal 52 = .ok (.bipush 9, 2) := by decide +kernel
theorem dX1_giveRefusal_54 : decode cX1_giveRefusal 54 = .ok (.ireturn, 1) := by decide +kernel
theorem dX1_giveRefusal_55 : decode cX1_giveRefusal 55 = .ok (.aload_n 0, 1) := by decide +kernel
theorem dX1_giveRefusal_56 : decode cX1_giveRefusal 56 = .ok (.getfield 24, 3) := by decide +kernel
theorem dX1_giveRefusal_59 : decode cX1_giveRefusal 59 = .ok (.iload_n 2, 1) := by decide +kernel
theorem dX1_giveRefusal_60 : decode cX1_giveRefusal 60 = .ok (.iaload, 1) := by decide +kernel
theorem dX1_giveRefusal_61 : decode cX1_giveRefusal 61 = .ok (.iload_n 3, 1) := by decide +kernel
theorem dX1_giveRefusal_62 : decode cX1_giveRefusal 62 = .ok (.iadd, 1) := by decide +kernel
theorem dX1_giveRefusal_63 : decode cX1_giveRefusal 63 = .ok (.bipush 99, 2) := by decide +kernel
theorem dX1_giveRefusal_65 : decode cX1_giveRefusal 65 = .ok (.if_icmp .le 8, 3) := by decide +kernel
theorem dX1_giveRefusal_68 : decode cX1_giveRefusal 68 = .ok (.bipush 10, 2) := by decide +kernel
theorem dX1_giveRefusal_70 : decode cX1_giveRefusal 70 = .ok (.goto 4, 3) := by decide +kernel
theorem dX1_giveRefusal_73 : decode cX1_giveRefusal 73 = .ok (.iconst 0, 1) := by decide +kernel
theorem dX1_giveRefusal_74 : decode cX1_giveRefusal 74 = .ok (.ireturn, 1) := by decide +kernel
theorem dX1_passRefusal_0 : decode cX1_passRefusal 0 = .ok (.aload_n 0, 1) := by decide +kernel
theorem dX1_passRefusal_1 : decode cX1_passRefusal 1 = .ok (.getfield 67, 3) := by decide +kernel
theorem dX1_passRefusal_4 : decode cX1_passRefusal 4 = .ok (.iload_n 1, 1) := by decide +kernel
theorem dX1_passRefusal_5 : decode cX1_passRefusal 5 = .ok (.iadd, 1) := by decide +kernel
theorem dX1_passRefusal_6 : decode cX1_passRefusal 6 = .ok (.sipush 9999, 3) := by decide +kernel
theorem dX1_passRefusal_9 : decode cX1_passRefusal 9 = .ok (.if_icmp .le 8, 3) := by decide +kernel
theorem dX1_passRefusal_12 : decode cX1_passRefusal 12 = .ok (.bipush 11, 2) := by decide +kernel
theorem dX1_passRefusal_14 : decode cX1_passRefusal 14 = .ok (.goto 4, 3) := by decide +kernel
theorem dX1_passRefusal_17 : decode cX1_passRefusal 17 = .ok (.iconst 0, 1) := by decide +kernel
theorem dX1_passRefusal_18 : decode cX1_passRefusal 18 = .ok (.ireturn, 1) := by decide +kernel
theorem dX1_addWant_0 : decode cX1_addWant 0 = .ok (.aload_n 0, 1) := by decide +kernel
theorem dX1_addWant_1 : decode cX1_addWant 1 = .ok (.getfield 21, 3) := by decide +kernel
theorem dX1_addWant_4 : decode cX1_addWant 4 = .ok (.iload_n 1, 1) := by decide +kernel
theorem dX1_addWant_5 : decode cX1_addWant 5 = .ok (.dup2, 1) := by decide +kernel
theorem dX1_addWant_6 : decode cX1_addWant 6 = .ok (.iaload, 1) := by decide +kernel
theorem dX1_addWant_7 : decode cX1_addWant 7 = .ok (.iconst 1, 1) := by decide +kernel
theorem dX1_addWant_8 : decode cX1_addWant 8 = .ok (.iload_n 2, 1) := by decide +kernel
theorem dX1_addWant_9 : decode cX1_addWant 9 = .ok (.ishl, 1) := by decide +kernel
theorem dX1_addWant_10 : decode cX1_addWant 10 = .ok (.ior, 1) := by decide +kernel
theorem dX1_addWant_11 : decode cX1_addWant 11 = .ok (.iastore, 1) := by decide +kernel
theorem dX1_addWant_12 : decode cX1_addWant 12 = .ok (.aload_n 0, 1) := by decide +kernel
theorem dX1_addWant_13 : decode cX1_addWant 13 = .ok (.getfield 21, 3) := by decide +kernel
theorem dX1_addWant_16 : decode cX1_addWant 16 = .ok (.iload_n 1, 1) := by decide +kernel
theorem dX1_addWant_17 : decode cX1_addWant 17 = .ok (.iaload, 1) := by decide +kernel
theorem dX1_addWant_18 : decode cX1_addWant 18 = .ok (.invokestatic 96, 3) := by decide +kernel
theorem dX1_addWant_21 : decode cX1_addWant 21 = .ok (.ireturn, 1) := by decide +kernel
theorem dX1_tellNeed_0 : decode cX1_tellNeed 0 = .ok (.iload 4, 2) := by decide +kernel
theorem dX1_tellNeed_2 : decode cX1_tellNeed 2 = .ok (.ifCond .ne 34, 3) := by decide +kernel
theorem dX1_tellNeed_5 : decode cX1_tellNeed 5 = .ok (.aload_n 0, 1) := by decide +kernel
theorem dX1_tellNeed_6 : decode cX1_tellNeed 6 = .ok (.getfield 45, 3) := by decide +kernel
theorem dX1_tellNeed_9 : decode cX1_tellNeed 9 = .ok (.iconst 0, 1) := by decide +kernel
theorem dX1_tellNeed_10 : decode cX1_tellNeed 10 = .ok (.dup2, 1) := by decide +kernel
theorem dX1_tellNeed_11 : decode cX1_tellNeed 11 = .ok (.iaload, 1) := by decide +kernel
theorem dX1_tellNeed_12 : decode cX1_tellNeed 12 = .ok (.iconst 1, 1) := by decide +kernel
theorem dX1_tellNeed_13 : decode cX1_tellNeed 13 = .ok (.iadd, 1) := by decide +kernel
theorem dX1_tellNeed_14 : decode cX1_tellNeed 14 = .ok (.iastore, 1) := by decide +kernel
theorem dX1_tellNeed_15 : decode cX1_tellNeed 15 = .ok (.aload_n 0, 1) := by decide +kernel
theorem dX1_tellNeed_16 : decode cX1_tellNeed 16 = .ok (.getfield 18, 3) := by decide +kernel
theorem dX1_tellNeed_19 : decode cX1_tellNeed 19 = .ok (.iload_n 1, 1) := by decide +kernel
theorem dX1_tellNeed_20 : decode cX1_tellNeed 20 = .ok (.iaload, 1) := by decide +kernel
theorem dX1_tellNeed_21 : decode cX1_tellNeed 21 = .ok (.aload_n 0, 1) := by decide +kernel
theorem dX1_tellNeed_22 : decode cX1_tellNeed 22 = .ok (.getfield 18, 3) := by decide +kernel
theorem dX1_tellNeed_25 : decode cX1_tellNeed 25 = .ok (.iload_n 2, 1) := by decide +kernel
theorem dX1_tellNeed_26 : decode cX1_tellNeed 26 = .ok (.iaload, 1) := by decide +kernel
theorem dX1_tellNeed_27 : decode cX1_tellNeed 27 = .ok (.iand, 1) := by decide +kernel
theorem dX1_tellNeed_28 : decode cX1_tellNeed 28 = .ok (.invokestatic 96, 3) := by decide +kernel
theorem dX1_tellNeed_31 : decode cX1_tellNeed 31 = .ok (.istore 5, 2) := by decide +kernel
theorem dX1_tellNeed_33 : decode cX1_tellNeed 33 = .ok (.goto 44, 3) := by decide +kernel
theorem dX1_tellNeed_36 : decode cX1_tellNeed 36 = .ok (.iload 4, 2) := by decide +kernel
theorem dX1_tellNeed_38 : decode cX1_tellNeed 38 = .ok (.iconst 1, 1) := by decide +kernel
theorem dX1_tellNeed_39 : decode cX1_tellNeed 39 = .ok (.if_icmp .ne 12, 3) := by decide +kernel
theorem dX1_tellNeed_42 : decode cX1_tellNeed 42 = .ok (.aload_n 0, 1) := by decide +kernel
theorem dX1_tellNeed_43 : decode cX1_tellNeed 43 = .ok (.iload_n 1, 1) := by decide +kernel
theorem dX1_tellNeed_44 : decode cX1_tellNeed 44 = .ok (.iload_n 3, 1) := by decide +kernel
theorem dX1_tellNeed_45 : decode cX1_tellNeed 45 = .ok (.invokevirtual 147, 3) := by decide +kernel
theorem dX1_tellNeed_48 : decode cX1_tellNeed 48 = .ok (.goto 20, 3) := by decide +kernel
theorem dX1_tellNeed_51 : decode cX1_tellNeed 51 = .ok (.aload_n 0, 1) := by decide +kernel
theorem dX1_tellNeed_52 : decode cX1_tellNeed 52 = .ok (.iload_n 1, 1) := by decide +kernel
theorem dX1_tellNeed_53 : decode cX1_tellNeed 53 = .ok (.iload_n 3, 1) := by decide +kernel
theorem dX1_tellNeed_54 : decode cX1_tellNeed 54 = .ok (.aload_n 0, 1) := by decide +kernel
theorem dX1_tellNeed_55 : decode cX1_tellNeed 55 = .ok (.aload_n 0, 1) := by decide +kernel
theorem dX1_tellNeed_56 : decode cX1_tellNeed 56 = .ok (.getfield 67, 3) := by decide +kernel
theorem dX1_tellNeed_59 : decode cX1_tellNeed 59 = .ok (.bipush 24, 2) := by decide +kernel
theorem dX1_tellNeed_61 : decode cX1_tellNeed 61 = .ok (.irem, 1) := by decide +kernel
theorem dX1_tellNeed_62 : decode cX1_tellNeed 62 = .ok (.invokevirtual 133, 3) := by decide +kernel
theorem dX1_tellNeed_65 : decode cX1_tellNeed 65 = .ok (.invokevirtual 150, 3) := by decide +kernel
theorem dX1_tellNeed_68 : decode cX1_tellNeed 68 = .ok (.istore 5, 2) := by decide +kernel
theorem dX1_tellNeed_70 : decode cX1_tellNeed 70 = .ok (.aload_n 0, 1) := by decide +kernel
theorem dX1_tellNeed_71 : decode cX1_tellNeed 71 = .ok (.iload_n 1, 1) := by decide +kernel
theorem dX1_tellNeed_72 : decode cX1_tellNeed 72 = .ok (.iload_n 2, 1) := by decide +kernel
theorem dX1_tellNeed_73 : decode cX1_tellNeed 73 = .ok (.iload_n 3, 1) := by decide +kernel
theorem dX1_tellNeed_74 : decode cX1_tellNeed 74 = .ok (.invokevirtual 153, 3) := by decide +kernel
theorem dX1_tellNeed_77 : decode cX1_tellNeed 77 = .ok (.aload_n 0, 1) := by decide +kernel
theorem dX1_tellNeed_78 : decode cX1_tellNeed 78 = .ok (.iload_n 1, 1) := by decide +kernel
theorem dX1_tellNeed_79 : decode cX1_tellNeed 79 = .ok (.iload_n 2, 1) := by decide +kernel
theorem dX1_tellNeed_80 : decode cX1_tellNeed 80 = .ok (.iload_n 3, 1) := by decide +kernel
theorem dX1_tellNeed_81 : decode cX1_tellNeed 81 = .ok (.invokevirtual 156, 3) := by decide +kernel
theorem dX1_tellNeed_84 : decode cX1_tellNeed 84 = .ok (.iload 5, 2) := by decide +kernel
theorem dX1_tellNeed_86 : decode cX1_tellNeed 86 = .ok (.ireturn, 1) := by decide +kernel
theorem dX1_writeSlip_0 : decode cX1_writeSlip 0 = .ok (.aload_n 0, 1) := by decide +kernel
theorem dX1_writeSlip_1 : decode cX1_writeSlip 1 = .ok (.iload_n 1, 1) := by decide +kernel
theorem dX1_writeSlip_2 : decode cX1_writeSlip 2 = .ok (.iload_n 2, 1) := by decide +kernel
theorem dX1_writeSlip_3 : decode cX1_writeSlip 3 = .ok (.invokevirtual 130, 3) := by decide +kernel
theorem dX1_writeSlip_6 : decode cX1_writeSlip 6 = .ok (.istore_n 3, 1) := by decide +kernel
theorem dX1_writeSlip_7 : decode cX1_writeSlip 7 = .ok (.aload_n 0, 1) := by decide +kernel
theorem dX1_writeSlip_8 : decode cX1_writeSlip 8 = .ok (.dup, 1) := by decide +kernel
theorem dX1_writeSlip_9 : decode cX1_writeSlip 9 = .ok (.getfield 61, 3) := by decide +kernel
theorem dX1_writeSlip_12 : decode cX1_writeSlip 12 = .ok (.iload_n 3, 1) := by decide +kernel
theorem dX1_writeSlip_13 : decode cX1_writeSlip 13 = .ok (.isub, 1) := by decide +kernel
theorem dX1_writeSlip_14 : decode cX1_writeSlip 14 = .ok (.putfield 61, 3) := by decide +kernel
theorem dX1_writeSlip_17 : decode cX1_writeSlip 17 = .ok (.aload_n 0, 1) := by decide +kernel
theorem dX1_writeSlip_18 : decode cX1_writeSlip 18 = .ok (.getfield 45, 3) := by decide +kernel
theorem dX1_writeSlip_21 : decode cX1_writeSlip 21 = .ok (.iconst 1, 1) := by decide +kernel
theorem dX1_writeSlip_22 : decode cX1_writeSlip 22 = .ok (.dup2, 1) := by decide +kernel
theorem dX1_writeSlip_23 : decode cX1_writeSlip 23 = .ok (.iaload, 1) := by decide +kernel
theorem dX1_writeSlip_24 : decode cX1_writeSlip 24 = .ok (.iconst 1, 1) := by decide +kernel
theorem dX1_writeSlip_25 : decode cX1_writeSlip 25 = .ok (.iadd, 1) := by decide +kernel
theorem dX1_writeSlip_26 : decode cX1_writeSlip 26 = .ok (.iastore, 1) := by decide +kernel
theorem dX1_writeSlip_27 : decode cX1_writeSlip 27 = .ok (.aload_n 0, 1) := by decide +kernel
theorem dX1_writeSlip_28 : decode cX1_writeSlip 28 = .ok (.getfield 45, 3) := by decide +kernel
theorem dX1_writeSlip_31 : decode cX1_writeSlip 31 = .ok (.iconst 3, 1) := by decide +kernel
theorem dX1_writeSlip_32 : decode cX1_writeSlip 32 = .ok (.dup2, 1) := by decide +kernel
theorem dX1_writeSlip_33 : decode cX1_writeSlip 33 = .ok (.iaload, 1) := by decide +kernel
theorem dX1_writeSlip_34 : decode cX1_writeSlip 34 = .ok (.iload_n 3, 1) := by decide +kernel
theorem dX1_writeSlip_35 : decode cX1_writeSlip 35 = .ok (.iadd, 1) := by decide +kernel
theorem dX1_writeSlip_36 : decode cX1_writeSlip 36 = .ok (.iastore, 1) := by decide +kernel
theorem dX1_writeSlip_37 : decode cX1_writeSlip 37 = .ok (.iload_n 3, 1) := by decide +kernel
theorem dX1_writeSlip_38 : decode cX1_writeSlip 38 = .ok (.ireturn, 1) := by decide +kernel
theorem dX1_speak_0 : decode cX1_speak 0 = .ok (.aload_n 0, 1) := by decide +kernel
theorem dX1_speak_1 : decode cX1_speak 1 = .ok (.iload_n 1, 1) := by decide +kernel
theorem dX1_speak_2 : decode cX1_speak 2 = .ok (.iload_n 2, 1) := by decide +kernel
theorem dX1_speak_3 : decode cX1_speak 3 = .ok (.iload_n 3, 1) := by decide +kernel
theorem dX1_speak_4 : decode cX1_speak 4 = .ok (.invokevirtual 140, 3) := by decide +kernel
theorem dX1_speak_7 : decode cX1_speak 7 = .ok (.istore 4, 2) := by decide +kernel
theorem dX1_speak_9 : decode cX1_speak 9 = .ok (.aload_n 0, 1) := by decide +kernel
theorem dX1_speak_10 : decode cX1_speak 10 = .ok (.iload_n 1, 1) := by decide +kernel
theorem dX1_speak_11 : decode cX1_speak 11 = .ok (.iload_n 2, 1) := by decide +kernel
theorem dX1_speak_12 : decode cX1_speak 12 = .ok (.iload_n 3, 1) := by decide +kernel
theorem dX1_speak_13 : decode cX1_speak 13 = .ok (.invokevirtual 123, 3) := by decide +kernel
theorem dX1_speak_16 : decode cX1_speak 16 = .ok (.istore 5, 2) := by decide +kernel
theorem dX1_speak_18 : decode cX1_speak 18 = .ok (.aload_n 0, 1) := by decide +kernel
theorem dX1_speak_19 : decode cX1_speak 19 = .ok (.getfield 15, 3) := by decide +kernel
theorem dX1_speak_22 : decode cX1_speak 22 = .ok (.iload_n 1, 1) := by decide +kernel
theorem dX1_speak_23 : decode cX1_speak 23 = .ok (.iaload, 1) := by decide +kernel
theorem dX1_speak_24 : decode cX1_speak 24 = .ok (.iload 5, 2) := by decide +kernel
theorem dX1_speak_26 : decode cX1_speak 26 = .ok (.invokestatic 127, 3) := by decide +kernel
theorem dX1_speak_29 : decode cX1_speak 29 = .ok (.istore 6, 2) := by decide +kernel
theorem dX1_speak_31 : decode cX1_speak 31 = .ok (.aload_n 0, 1) := by decide +kernel
theorem dX1_speak_32 : decode cX1_speak 32 = .ok (.getfield 24, 3) := by decide +kernel
theorem dX1_speak_35 : decode cX1_speak 35 = .ok (.iload_n 1, 1) := by decide +kernel
theorem dX1_speak_36 : decode cX1_speak 36 = .ok (.dup2, 1) := by decide +kernel
theorem dX1_speak_37 : decode cX1_speak 37 = .ok (.iaload, 1) := by decide +kernel
theorem dX1_speak_38 : decode cX1_speak 38 = .ok (.iload 4, 2) := by decide +kernel
theorem dX1_speak_40 : decode cX1_speak 40 = .ok (.isub, 1) := by decide +kernel
theorem dX1_speak_41 : decode cX1_speak 41 = .ok (.iastore, 1) := by decide +kernel
theorem dX1_speak_42 : decode cX1_speak 42 = .ok (.aload_n 0, 1) := by decide +kernel
theorem dX1_speak_43 : decode cX1_speak 43 = .ok (.getfield 27, 3) := by decide +kernel
theorem dX1_speak_46 : decode cX1_speak 46 = .ok (.iload_n 1, 1) := by decide +kernel
theorem dX1_speak_47 : decode cX1_speak 47 = .ok (.dup2, 1) := by decide +kernel
theorem dX1_speak_48 : decode cX1_speak 48 = .ok (.iaload, 1) := by decide +kernel
theorem dX1_speak_49 : decode cX1_speak 49 = .ok (.iload 6, 2) := by decide +kernel
theorem dX1_speak_51 : decode cX1_speak 51 = .ok (.iadd, 1) := by decide +kernel
theorem dX1_speak_52 : decode cX1_speak 52 = .ok (.iastore, 1) := by decide +kernel
theorem dX1_speak_53 : decode cX1_speak 53 = .ok (.aload_n 0, 1) := by decide +kernel
theorem dX1_speak_54 : decode cX1_speak 54 = .ok (.dup, 1) := by decide +kernel
theorem dX1_speak_55 : decode cX1_speak 55 = .ok (.getfield 70, 3) := by decide +kernel
theorem dX1_speak_58 : decode cX1_speak 58 = .ok (.aload_n 0, 1) := by decide +kernel
theorem dX1_speak_59 : decode cX1_speak 59 = .ok (.getfield 39, 3) := by decide +kernel
theorem dX1_speak_62 : decode cX1_speak 62 = .ok (.iload_n 2, 1) := by decide +kernel
theorem dX1_speak_63 : decode cX1_speak 63 = .ok (.iaload, 1) := by decide +kernel
theorem dX1_speak_64 : decode cX1_speak 64 = .ok (.iadd, 1) := by decide +kernel
theorem dX1_speak_65 : decode cX1_speak 65 = .ok (.putfield 70, 3) := by decide +kernel
theorem dX1_speak_68 : decode cX1_speak 68 = .ok (.aload_n 0, 1) := by decide +kernel
theorem dX1_speak_69 : decode cX1_speak 69 = .ok (.getfield 45, 3) := by decide +kernel
theorem dX1_speak_72 : decode cX1_speak 72 = .ok (.iconst 2, 1) := by decide +kernel
theorem dX1_speak_73 : decode cX1_speak 73 = .ok (.dup2, 1) := by decide +kernel
theorem dX1_speak_74 : decode cX1_speak 74 = .ok (.iaload, 1) := by decide +kernel
theorem dX1_speak_75 : decode cX1_speak 75 = .ok (.iconst 1, 1) := by decide +kernel
theorem dX1_speak_76 : decode cX1_speak 76 = .ok (.iadd, 1) := by decide +kernel
theorem dX1_speak_77 : decode cX1_speak 77 = .ok (.iastore, 1) := by decide +kernel
theorem dX1_speak_78 : decode cX1_speak 78 = .ok (.aload_n 0, 1) := by decide +kernel
theorem dX1_speak_79 : decode cX1_speak 79 = .ok (.getfield 45, 3) := by decide +kernel
theorem dX1_speak_82 : decode cX1_speak 82 = .ok (.iconst 4, 1) := by decide +kernel
theorem dX1_speak_83 : decode cX1_speak 83 = .ok (.dup2, 1) := by decide +kernel
theorem dX1_speak_84 : decode cX1_speak 84 = .ok (.iaload, 1) := by decide +kernel
theorem dX1_speak_85 : decode cX1_speak 85 = .ok (.iload_n 3, 1) := by decide +kernel
theorem dX1_speak_86 : decode cX1_speak 86 = .ok (.ifCond .eq 12, 3) := by decide +kernel
theorem dX1_speak_89 : decode cX1_speak 89 = .ok (.aload_n 0, 1) := by decide +kernel
theorem dX1_speak_90 : decode cX1_speak 90 = .ok (.getfield 39, 3) := by decide +kernel
theorem dX1_speak_93 : decode cX1_speak 93 = .ok (.iload_n 2, 1) := by decide +kernel
theorem dX1_speak_94 : decode cX1_speak 94 = .ok (.iaload, 1) := by decide +kernel
theorem dX1_speak_95 : decode cX1_speak 95 = .ok (.goto 4, 3) := by decide +kernel
theorem dX1_speak_98 : decode cX1_speak 98 = .ok (.iconst 0, 1) := by decide +kernel
theorem dX1_speak_99 : decode cX1_speak 99 = .ok (.iadd, 1) := by decide +kernel
theorem dX1_speak_100 : decode cX1_speak 100 = .ok (.iastore, 1) := by decide +kernel
theorem dX1_speak_101 : decode cX1_speak 101 = .ok (.aload_n 0, 1) := by decide +kernel
theorem dX1_speak_102 : decode cX1_speak 102 = .ok (.getfield 45, 3) := by decide +kernel
theorem dX1_speak_105 : decode cX1_speak 105 = .ok (.iconst 5, 1) := by decide +kernel
theorem dX1_speak_106 : decode cX1_speak 106 = .ok (.dup2, 1) := by decide +kernel
theorem dX1_speak_107 : decode cX1_speak 107 = .ok (.iaload, 1) := by decide +kernel
theorem dX1_speak_108 : decode cX1_speak 108 = .ok (.iload 4, 2) := by decide +kernel
theorem dX1_speak_110 : decode cX1_speak 110 = .ok (.iadd, 1) := by decide +kernel
theorem dX1_speak_111 : decode cX1_speak 111 = .ok (.iastore, 1) := by decide +kernel
theorem dX1_speak_112 : decode cX1_speak 112 = .ok (.aload_n 0, 1) := by decide +kernel
theorem dX1_speak_113 : decode cX1_speak 113 = .ok (.getfield 45, 3) := by decide +kernel
theorem dX1_speak_116 : decode cX1_speak 116 = .ok (.bipush 6, 2) := by decide +kernel
theorem dX1_speak_118 : decode cX1_speak 118 = .ok (.dup2, 1) := by decide +kernel
theorem dX1_speak_119 : decode cX1_speak 119 = .ok (.iaload, 1) := by decide +kernel
theorem dX1_speak_120 : decode cX1_speak 120 = .ok (.iload 5, 2) := by decide +kernel
theorem dX1_speak_122 : decode cX1_speak 122 = .ok (.iadd, 1) := by decide +kernel
theorem dX1_speak_123 : decode cX1_speak 123 = .ok (.iastore, 1) := by decide +kernel
theorem dX1_speak_124 : decode cX1_speak 124 = .ok (.aload_n 0, 1) := by decide +kernel
theorem dX1_speak_125 : decode cX1_speak 125 = .ok (.getfield 45, 3) := by decide +kernel
theorem dX1_speak_128 : decode cX1_speak 128 = .ok (.bipush 8, 2) := by decide +kernel
theorem dX1_speak_130 : decode cX1_speak 130 = .ok (.dup2, 1) := by decide +kernel
theorem dX1_speak_131 : decode cX1_speak 131 = .ok (.iaload, 1) := by decide +kernel
theorem dX1_speak_132 : decode cX1_speak 132 = .ok (.iload 6, 2) := by decide +kernel
theorem dX1_speak_134 : decode cX1_speak 134 = .ok (.iadd, 1) := by decide +kernel
theorem dX1_speak_135 : decode cX1_speak 135 = .ok (.iastore, 1) := by decide +kernel
theorem dX1_speak_136 : decode cX1_speak 136 = .ok (.iload 5, 2) := by decide +kernel
theorem dX1_speak_138 : decode cX1_speak 138 = .ok (.ifCond .le 21, 3) := by decide +kernel
theorem dX1_speak_141 : decode cX1_speak 141 = .ok (.aload_n 0, 1) := by decide +kernel
theorem dX1_speak_142 : decode cX1_speak 142 = .ok (.getfield 45, 3) := by decide +kernel
theorem dX1_speak_145 : decode cX1_speak 145 = .ok (.bipush 7, 2) := by decide +kernel
theorem dX1_speak_147 : decode cX1_speak 147 = .ok (.dup2, 1) := by decide +kernel
theorem dX1_speak_148 : decode cX1_speak 148 = .ok (.iaload, 1) := by decide +kernel
theorem dX1_speak_149 : decode cX1_speak 149 = .ok (.iconst 1, 1) := by decide +kernel
theorem dX1_speak_150 : decode cX1_speak 150 = .ok (.iadd, 1) := by decide +kernel
theorem dX1_speak_151 : decode cX1_speak 151 = .ok (.iastore, 1) := by decide +kernel
theorem dX1_speak_152 : decode cX1_speak 152 = .ok (.aload_n 0, 1) := by decide +kernel
theorem dX1_speak_153 : decode cX1_speak 153 = .ok (.getfield 33, 3) := by decide +kernel
theorem dX1_speak_156 : decode cX1_speak 156 = .ok (.iload_n 1, 1) := by decide +kernel
theorem dX1_speak_157 : decode cX1_speak 157 = .ok (.iconst 1, 1) := by decide +kernel
theorem dX1_speak_158 : decode cX1_speak 158 = .ok (.iastore, 1) := by decide +kernel
theorem dX1_speak_159 : decode cX1_speak 159 = .ok (.iload 6, 2) := by decide +kernel
theorem dX1_speak_161 : decode cX1_speak 161 = .ok (.ireturn, 1) := by decide +kernel
theorem dX1_learnSign_0 : decode cX1_learnSign 0 = .ok (.iload_n 3, 1) := by decide +kernel
theorem dX1_learnSign_1 : decode cX1_learnSign 1 = .ok (.aload_n 0, 1) := by decide +kernel
theorem dX1_learnSign_2 : decode cX1_learnSign 2 = .ok (.getfield 18, 3) := by decide +kernel
theorem dX1_learnSign_5 : decode cX1_learnSign 5 = .ok (.iload_n 1, 1) := by decide +kernel
theorem dX1_learnSign_6 : decode cX1_learnSign 6 = .ok (.iaload, 1) := by decide +kernel
theorem dX1_learnSign_7 : decode cX1_learnSign 7 = .ok (.invokestatic 102, 3) := by decide +kernel
theorem dX1_learnSign_10 : decode cX1_learnSign 10 = .ok (.ifCond .eq 39, 3) := by decide +kernel
theorem dX1_learnSign_13 : decode cX1_learnSign 13 = .ok (.iload_n 3, 1) := by decide +kernel
theorem dX1_learnSign_14 : decode cX1_learnSign 14 = .ok (.aload_n 0, 1) := by decide +kernel
theorem dX1_learnSign_15 : decode cX1_learnSign 15 = .ok (.getfield 18, 3) := by decide +kernel
theorem dX1_learnSign_18 : decode cX1_learnSign 18 = .ok (.iload_n 2, 1) := by decide +kernel
theorem dX1_learnSign_19 : decode cX1_learnSign 19 = .ok (.iaload, 1) := by decide +kernel
theorem dX1_learnSign_20 : decode cX1_learnSign 20 = .ok (.invokestatic 102, 3) := by decide +kernel
theorem dX1_learnSign_23 : decode cX1_learnSign 23 = .ok (.ifCond .ne 26, 3) := by decide +kernel
theorem dX1_learnSign_26 : decode cX1_learnSign 26 = .ok (.aload_n 0, 1) := by decide +kernel
theorem dX1_learnSign_27 : decode cX1_learnSign 27 = .ok (.getfield 18, 3) := by decide +kernel
theorem dX1_learnSign_30 : decode cX1_learnSign 30 = .ok (.iload_n 2, 1) := by decide +kernel
theorem dX1_learnSign_31 : decode cX1_learnSign 31 = .ok (.dup2, 1) := by decide +kernel
theorem dX1_learnSign_32 : decode cX1_learnSign 32 = .ok (.iaload, 1) := by decide +kernel
theorem dX1_learnSign_33 : decode cX1_learnSign 33 = .ok (.iconst 1, 1) := by decide +kernel
theorem dX1_learnSign_34 : decode cX1_learnSign 34 = .ok (.iload_n 3, 1) := by decide +kernel
theorem dX1_learnSign_35 : decode cX1_learnSign 35 = .ok (.ishl, 1) := by decide +kernel
theorem dX1_learnSign_36 : decode cX1_learnSign 36 = .ok (.ior, 1) := by decide +kernel
theorem dX1_learnSign_37 : decode cX1_learnSign 37 = .ok (.iastore, 1) := by decide +kernel
theorem dX1_learnSign_38 : decode cX1_learnSign 38 = .ok (.aload_n 0, 1) := by decide +kernel
theorem dX1_learnSign_39 : decode cX1_learnSign 39 = .ok (.getfield 45, 3) := by decide +kernel
theorem dX1_learnSign_42 : decode cX1_learnSign 42 = .ok (.bipush 13, 2) := by decide +kernel
theorem dX1_learnSign_44 : decode cX1_learnSign 44 = .ok (.dup2, 1) := by decide +kernel
theorem dX1_learnSign_45 : decode cX1_learnSign 45 = .ok (.iaload, 1) := by decide +kernel
theorem dX1_learnSign_46 : decode cX1_learnSign 46 = .ok (.iconst 1, 1) := by decide +kernel
theorem dX1_learnSign_47 : decode cX1_learnSign 47 = .ok (.iadd, 1) := by decide +kernel
theorem dX1_learnSign_48 : decode cX1_learnSign 48 = .ok (.iastore, 1) := by decide +kernel
theorem dX1_learnSign_49 : decode cX1_learnSign 49 = .ok (.return_, 1) := by decide +kernel
theorem dX1_meetWant_0 : decode cX1_meetWant 0 = .ok (.iload_n 3, 1) := by decide +kernel
theorem dX1_meetWant_1 : decode cX1_meetWant 1 = .ok (.aload_n 0, 1) := by decide +kernel
theorem dX1_meetWant_2 : decode cX1_meetWant 2 = .ok (.getfield 21, 3) := by decide +kernel
theorem dX1_meetWant_5 : decode cX1_meetWant 5 = .ok (.iload_n 1, 1) := by decide +kernel
theorem dX1_meetWant_6 : decode cX1_meetWant 6 = .ok (.iaload, 1) := by decide +kernel
theorem dX1_meetWant_7 : decode cX1_meetWant 7 = .ok (.invokestatic 102, 3) := by decide +kernel
theorem dX1_meetWant_10 : decode cX1_meetWant 10 = .ok (.ifCond .eq 43, 3) := by decide +kernel
theorem dX1_meetWant_13 : decode cX1_meetWant 13 = .ok (.aload_n 0, 1) := by decide +kernel
theorem dX1_meetWant_14 : decode cX1_meetWant 14 = .ok (.getfield 15, 3) := by decide +kernel
theorem dX1_meetWant_17 : decode cX1_meetWant 17 = .ok (.iload_n 2, 1) := by decide +kernel
theorem dX1_meetWant_18 : decode cX1_meetWant 18 = .ok (.iaload, 1) := by decide +kernel
theorem dX1_meetWant_19 : decode cX1_meetWant 19 = .ok (.aload_n 0, 1) := by decide +kernel
theorem dX1_meetWant_20 : decode cX1_meetWant 20 = .ok (.getfield 15, 3) := by decide +kernel
theorem dX1_meetWant_23 : decode cX1_meetWant 23 = .ok (.iload_n 1, 1) := by decide +kernel
theorem dX1_meetWant_24 : decode cX1_meetWant 24 = .ok (.iaload, 1) := by decide +kernel
theorem dX1_meetWant_25 : decode cX1_meetWant 25 = .ok (.if_icmp .lt 28, 3) := by decide +kernel
theorem dX1_meetWant_28 : decode cX1_meetWant 28 = .ok (.aload_n 0, 1) := by decide +kernel
theorem dX1_meetWant_29 : decode cX1_meetWant 29 = .ok (.getfield 21, 3) := by decide +kernel
theorem dX1_meetWant_32 : decode cX1_meetWant 32 = .ok (.iload_n 1, 1) := by decide +kernel
theorem dX1_meetWant_33 : decode cX1_meetWant 33 = .ok (.dup2, 1) := by decide +kernel
theorem dX1_meetWant_34 : decode cX1_meetWant 34 = .ok (.iaload, 1) := by decide +kernel
theorem dX1_meetWant_35 : decode cX1_meetWant 35 = .ok (.iconst 1, 1) := by decide +kernel
theorem dX1_meetWant_36 : decode cX1_meetWant 36 = .ok (.iload_n 3, 1) := by decide +kernel
theorem dX1_meetWant_37 : decode cX1_meetWant 37 = .ok (.ishl, 1) := by decide +kernel
theorem dX1_meetWant_38 : decode cX1_meetWant 38 = .ok (.iconst (-1), 1) := by decide +kernel
theorem dX1_meetWant_39 : decode cX1_meetWant 39 = .ok (.ixor, 1) := by decide +kernel
theorem dX1_meetWant_40 : decode cX1_meetWant 40 = .ok (.iand, 1) := by decide +kernel
theorem dX1_meetWant_41 : decode cX1_meetWant 41 = .ok (.iastore, 1) := by decide +kernel
theorem dX1_meetWant_42 : decode cX1_meetWant 42 = .ok (.aload_n 0, 1) := by decide +kernel
theorem dX1_meetWant_43 : decode cX1_meetWant 43 = .ok (.getfield 45, 3) := by decide +kernel
theorem dX1_meetWant_46 : decode cX1_meetWant 46 = .ok (.bipush 12, 2) := by decide +kernel
theorem dX1_meetWant_48 : decode cX1_meetWant 48 = .ok (.dup2, 1) := by decide +kernel
theorem dX1_meetWant_49 : decode cX1_meetWant 49 = .ok (.iaload, 1) := by decide +kernel
theorem dX1_meetWant_50 : decode cX1_meetWant 50 = .ok (.iconst 1, 1) := by decide +kernel
theorem dX1_meetWant_51 : decode cX1_meetWant 51 = .ok (.iadd, 1) := by decide +kernel
theorem dX1_meetWant_52 : decode cX1_meetWant 52 = .ok (.iastore, 1) := by decide +kernel
theorem dX1_meetWant_53 : decode cX1_meetWant 53 = .ok (.return_, 1) := by decide +kernel
theorem dX1_giveLeave_0 : decode cX1_giveLeave 0 = .ok (.aload_n 0, 1) := by decide +kernel
theorem dX1_giveLeave_1 : decode cX1_giveLeave 1 = .ok (.getfield 24, 3) := by decide +kernel
theorem dX1_giveLeave_4 : decode cX1_giveLeave 4 = .ok (.iload_n 2, 1) := by decide +kernel
theorem dX1_giveLeave_5 : decode cX1_giveLeave 5 = .ok (.dup2, 1) := by decide +kernel
theorem dX1_giveLeave_6 : decode cX1_giveLeave 6 = .ok (.iaload, 1) := by decide +kernel
theorem dX1_giveLeave_7 : decode cX1_giveLeave 7 = .ok (.iload_n 3, 1) := by decide +kernel
theorem dX1_giveLeave_8 : decode cX1_giveLeave 8 = .ok (.iadd, 1) := by decide +kernel
theorem dX1_giveLeave_9 : decode cX1_giveLeave 9 = .ok (.iastore, 1) := by decide +kernel
theorem dX1_giveLeave_10 : decode cX1_giveLeave 10 = .ok (.aload_n 0, 1) := by decide +kernel
theorem dX1_giveLeave_11 : decode cX1_giveLeave 11 = .ok (.getfield 30, 3) := by decide +kernel
theorem dX1_giveLeave_14 : decode cX1_giveLeave 14 = .ok (.iload_n 1, 1) := by decide +kernel
theorem dX1_giveLeave_15 : decode cX1_giveLeave 15 = .ok (.dup2, 1) := by decide +kernel
theorem dX1_giveLeave_16 : decode cX1_giveLeave 16 = .ok (.iaload, 1) := by decide +kernel
theorem dX1_giveLeave_17 : decode cX1_giveLeave 17 = .ok (.iload_n 3, 1) := by decide +kernel
theorem dX1_giveLeave_18 : decode cX1_giveLeave 18 = .ok (.iadd, 1) := by decide +kernel
theorem dX1_giveLeave_19 : decode cX1_giveLeave 19 = .ok (.iastore, 1) := by decide +kernel
theorem dX1_giveLeave_20 : decode cX1_giveLeave 20 = .ok (.aload_n 0, 1) := by decide +kernel
theorem dX1_giveLeave_21 : decode cX1_giveLeave 21 = .ok (.getfield 45, 3) := by decide +kernel
theorem dX1_giveLeave_24 : decode cX1_giveLeave 24 = .ok (.bipush 10, 2) := by decide +kernel
theorem dX1_giveLeave_26 : decode cX1_giveLeave 26 = .ok (.dup2, 1) := by decide +kernel
theorem dX1_giveLeave_27 : decode cX1_giveLeave 27 = .ok (.iaload, 1) := by decide +kernel
theorem dX1_giveLeave_28 : decode cX1_giveLeave 28 = .ok (.iload_n 3, 1) := by decide +kernel
theorem dX1_giveLeave_29 : decode cX1_giveLeave 29 = .ok (.iadd, 1) := by decide +kernel
theorem dX1_giveLeave_30 : decode cX1_giveLeave 30 = .ok (.iastore, 1) := by decide +kernel
theorem dX1_giveLeave_31 : decode cX1_giveLeave 31 = .ok (.aload_n 0, 1) := by decide +kernel
theorem dX1_giveLeave_32 : decode cX1_giveLeave 32 = .ok (.getfield 24, 3) := by decide +kernel
theorem dX1_giveLeave_35 : decode cX1_giveLeave 35 = .ok (.iload_n 2, 1) := by decide +kernel
theorem dX1_giveLeave_36 : decode cX1_giveLeave 36 = .ok (.iaload, 1) := by decide +kernel
theorem dX1_giveLeave_37 : decode cX1_giveLeave 37 = .ok (.ireturn, 1) := by decide +kernel
theorem dX1_passHours_0 : decode cX1_passHours 0 = .ok (.iconst 0, 1) := by decide +kernel
theorem dX1_passHours_1 : decode cX1_passHours 1 = .ok (.istore_n 2, 1) := by decide +kernel
theorem dX1_passHours_2 : decode cX1_passHours 2 = .ok (.iconst 0, 1) := by decide +kernel
theorem dX1_passHours_3 : decode cX1_passHours 3 = .ok (.istore_n 3, 1) := by decide +kernel
theorem dX1_passHours_4 : decode cX1_passHours 4 = .ok (.iload_n 3, 1) := by decide +kernel
theorem dX1_passHours_5 : decode cX1_passHours 5 = .ok (.iload_n 1, 1) := by decide +kernel
theorem dX1_passHours_6 : decode cX1_passHours 6 = .ok (.if_icmp .ge 36, 3) := by decide +kernel
theorem dX1_passHours_9 : decode cX1_passHours 9 = .ok (.aload_n 0, 1) := by decide +kernel
theorem dX1_passHours_10 : decode cX1_passHours 10 = .ok (.dup, 1) := by decide +kernel
theorem dX1_passHours_11 : decode cX1_passHours 11 = .ok (.getfield 67, 3) := by decide +kernel
theorem dX1_passHours_14 : decode cX1_passHours 14 = .ok (.iconst 1, 1) := by decide +kernel
theorem dX1_passHours_15 : decode cX1_passHours 15 = .ok (.iadd, 1) := by decide +kernel
theorem dX1_passHours_16 : decode cX1_passHours 16 = .ok (.putfield 67, 3) := by decide +kernel
theorem dX1_passHours_19 : decode cX1_passHours 19 = .ok (.aload_n 0, 1) := by decide +kernel
theorem dX1_passHours_20 : decode cX1_passHours 20 = .ok (.getfield 67, 3) := by decide +kernel
theorem dX1_passHours_23 : decode cX1_passHours 23 = .ok (.bipush 24, 2) := by decide +kernel
theorem dX1_passHours_25 : decode cX1_passHours 25 = .ok (.irem, 1) := by decide +kernel
theorem dX1_passHours_26 : decode cX1_passHours 26 = .ok (.ifCond .ne 10, 3) := by decide +kernel
theorem dX1_passHours_29 : decode cX1_passHours 29 = .ok (.aload_n 0, 1) := by decide +kernel
theorem dX1_passHours_30 : decode cX1_passHours 30 = .ok (.invokevirtual 159, 3) := by decide +kernel
theorem dX1_passHours_33 : decode cX1_passHours 33 = .ok (.iinc 2 1, 3) := by decide +kernel
theorem dX1_passHours_36 : decode cX1_passHours 36 = .ok (.iinc 3 1, 3) := by decide +kernel
theorem dX1_passHours_39 : decode cX1_passHours 39 = .ok (.goto (-35), 3) := by decide +kernel
theorem dX1_passHours_42 : decode cX1_passHours 42 = .ok (.iload_n 2, 1) := by decide +kernel
theorem dX1_passHours_43 : decode cX1_passHours 43 = .ok (.ireturn, 1) := by decide +kernel
theorem dX1_endDay_0 : decode cX1_endDay 0 = .ok (.iconst 0, 1) := by decide +kernel
theorem dX1_endDay_1 : decode cX1_endDay 1 = .ok (.istore_n 1, 1) := by decide +kernel
theorem dX1_endDay_2 : decode cX1_endDay 2 = .ok (.iload_n 1, 1) := by decide +kernel
theorem dX1_endDay_3 : decode cX1_endDay 3 = .ok (.aload_n 0, 1) := by decide +kernel
theorem dX1_endDay_4 : decode cX1_endDay 4 = .ok (.getfield 54, 3) := by decide +kernel
theorem dX1_endDay_7 : decode cX1_endDay 7 = .ok (.if_icmp .ge 85, 3) := by decide +kernel
theorem dX1_endDay_10 : decode cX1_endDay 10 = .ok (.aload_n 0, 1) := by decide +kernel
theorem dX1_endDay_11 : decode cX1_endDay 11 = .ok (.getfield 45, 3) := by decide +kernel
theorem dX1_endDay_14 : decode cX1_endDay 14 = .ok (.bipush 11, 2) := by decide +kernel
theorem dX1_endDay_16 : decode cX1_endDay 16 = .ok (.dup2, 1) := by decide +kernel
theorem dX1_endDay_17 : decode cX1_endDay 17 = .ok (.iaload, 1) := by decide +kernel
theorem dX1_endDay_18 : decode cX1_endDay 18 = .ok (.aload_n 0, 1) := by decide +kernel
theorem dX1_endDay_19 : decode cX1_endDay 19 = .ok (.getfield 24, 3) := by decide +kernel
theorem dX1_endDay_22 : decode cX1_endDay 22 = .ok (.iload_n 1, 1) := by decide +kernel
theorem dX1_endDay_23 : decode cX1_endDay 23 = .ok (.iaload, 1) := by decide +kernel
theorem dX1_endDay_24 : decode cX1_endDay 24 = .ok (.iadd, 1) := by decide +kernel
theorem dX1_endDay_25 : decode cX1_endDay 25 = .ok (.iastore, 1) := by decide +kernel
theorem dX1_endDay_26 : decode cX1_endDay 26 = .ok (.aload_n 0, 1) := by decide +kernel
theorem dX1_endDay_27 : decode cX1_endDay 27 = .ok (.getfield 24, 3) := by decide +kernel
theorem dX1_endDay_30 : decode cX1_endDay 30 = .ok (.iload_n 1, 1) := by decide +kernel
theorem dX1_endDay_31 : decode cX1_endDay 31 = .ok (.iconst 0, 1) := by decide +kernel
theorem dX1_endDay_32 : decode cX1_endDay 32 = .ok (.iastore, 1) := by decide +kernel
theorem dX1_endDay_33 : decode cX1_endDay 33 = .ok (.aload_n 0, 1) := by decide +kernel
theorem dX1_endDay_34 : decode cX1_endDay 34 = .ok (.getfield 33, 3) := by decide +kernel
theorem dX1_endDay_37 : decode cX1_endDay 37 = .ok (.iload_n 1, 1) := by decide +kernel
theorem dX1_endDay_38 : decode cX1_endDay 38 = .ok (.iaload, 1) := by decide +kernel
theorem dX1_endDay_39 : decode cX1_endDay 39 = .ok (.ifCond .ne 33, 3) := by decide +kernel
theorem dX1_endDay_42 : decode cX1_endDay 42 = .ok (.aload_n 0, 1) := by decide +kernel
theorem dX1_endDay_43 : decode cX1_endDay 43 = .ok (.getfield 27, 3) := by decide +kernel
theorem dX1_endDay_46 : decode cX1_endDay 46 = .ok (.iload_n 1, 1) := by decide +kernel
theorem dX1_endDay_47 : decode cX1_endDay 47 = .ok (.iaload, 1) := by decide +kernel
theorem dX1_endDay_48 : decode cX1_endDay 48 = .ok (.ifCond .le 24, 3) := by decide +kernel
theorem dX1_endDay_51 : decode cX1_endDay 51 = .ok (.aload_n 0, 1) := by decide +kernel
theorem dX1_endDay_52 : decode cX1_endDay 52 = .ok (.getfield 27, 3) := by decide +kernel
theorem dX1_endDay_55 : decode cX1_endDay 55 = .ok (.iload_n 1, 1) := by decide +kernel
theorem dX1_endDay_56 : decode cX1_endDay 56 = .ok (.dup2, 1) := by decide +kernel
theorem dX1_endDay_57 : decode cX1_endDay 57 = .ok (.iaload, 1) := by decide +kernel
theorem dX1_endDay_58 : decode cX1_endDay 58 = .ok (.iconst 1, 1) := by decide +kernel
theorem dX1_endDay_59 : decode cX1_endDay 59 = .ok (.isub, 1) := by decide +kernel
theorem dX1_endDay_60 : decode cX1_endDay 60 = .ok (.iastore, 1) := by decide +kernel
theorem dX1_endDay_61 : decode cX1_endDay 61 = .ok (.aload_n 0, 1) := by decide +kernel
theorem dX1_endDay_62 : decode cX1_endDay 62 = .ok (.getfield 45, 3) := by decide +kernel
theorem dX1_endDay_65 : decode cX1_endDay 65 = .ok (.bipush 9, 2) := by decide +kernel
theorem dX1_endDay_67 : decode cX1_endDay 67 = .ok (.dup2, 1) := by decide +kernel
theorem dX1_endDay_68 : decode cX1_endDay 68 = .ok (.iaload, 1) := by decide +kernel
theorem dX1_endDay_69 : decode cX1_endDay 69 = .ok (.iconst 1, 1) := by decide +kernel
theorem dX1_endDay_70 : decode cX1_endDay 70 = .ok (.iadd, 1) := by decide +kernel
theorem dX1_endDay_71 : decode cX1_endDay 71 = .ok (.iastore, 1) := by decide +kernel
theorem dX1_endDay_72 : decode cX1_endDay 72 = .ok (.aload_n 0, 1) := by decide +kernel
theorem dX1_endDay_73 : decode cX1_endDay 73 = .ok (.getfield 30, 3) := by decide +kernel
theorem dX1_endDay_76 : decode cX1_endDay 76 = .ok (.iload_n 1, 1) := by decide +kernel
theorem dX1_endDay_77 : decode cX1_endDay 77 = .ok (.iconst 0, 1) := by decide +kernel
theorem dX1_endDay_78 : decode cX1_endDay 78 = .ok (.iastore, 1) := by decide +kernel
theorem dX1_endDay_79 : decode cX1_endDay 79 = .ok (.aload_n 0, 1) := by decide +kernel
theorem dX1_endDay_80 : decode cX1_endDay 80 = .ok (.getfield 33, 3) := by decide +kernel
theorem dX1_endDay_83 : decode cX1_endDay 83 = .ok (.iload_n 1, 1) := by decide +kernel
theorem dX1_endDay_84 : decode cX1_endDay 84 = .ok (.iconst 0, 1) := by decide +kernel
theorem dX1_endDay_85 : decode cX1_endDay 85 = .ok (.iastore, 1) := by decide +kernel
theorem dX1_endDay_86 : decode cX1_endDay 86 = .ok (.iinc 1 1, 3) := by decide +kernel
theorem dX1_endDay_89 : decode cX1_endDay 89 = .ok (.goto (-87), 3) := by decide +kernel
theorem dX1_endDay_92 : decode cX1_endDay 92 = .ok (.return_, 1) := by decide +kernel
theorem dX1_fastBehind_0 : decode cX1_fastBehind 0 = .ok (.aload_n 0, 1) := by decide +kernel
theorem dX1_fastBehind_1 : decode cX1_fastBehind 1 = .ok (.getfield 67, 3) := by decide +kernel
theorem dX1_fastBehind_4 : decode cX1_fastBehind 4 = .ok (.bipush 24, 2) := by decide +kernel
theorem dX1_fastBehind_6 : decode cX1_fastBehind 6 = .ok (.irem, 1) := by decide +kernel
theorem dX1_fastBehind_7 : decode cX1_fastBehind 7 = .ok (.iload_n 1, 1) := by decide +kernel
theorem dX1_fastBehind_8 : decode cX1_fastBehind 8 = .ok (.iadd, 1) := by decide +kernel
theorem dX1_fastBehind_9 : decode cX1_fastBehind 9 = .ok (.bipush 24, 2) := by decide +kernel
theorem dX1_fastBehind_11 : decode cX1_fastBehind 11 = .ok (.idiv, 1) := by decide +kernel
theorem dX1_fastBehind_12 : decode cX1_fastBehind 12 = .ok (.istore_n 2, 1) := by decide +kernel
theorem dX1_fastBehind_13 : decode cX1_fastBehind 13 = .ok (.iconst 0, 1) := by decide +kernel
theorem dX1_fastBehind_14 : decode cX1_fastBehind 14 = .ok (.istore_n 3, 1) := by decide +kernel
theorem dX1_fastBehind_15 : decode cX1_fastBehind 15 = .ok (.iconst 0, 1) := by decide +kernel
theorem dX1_fastBehind_16 : decode cX1_fastBehind 16 = .ok (.istore 4, 2) := by decide +kernel
theorem dX1_fastBehind_18 : decode cX1_fastBehind 18 = .ok (.iload 4, 2) := by decide +kernel
theorem dX1_fastBehind_20 : decode cX1_fastBehind 20 = .ok (.aload_n 0, 1) := by decide +kernel
theorem dX1_fastBehind_21 : decode cX1_fastBehind 21 = .ok (.getfield 54, 3) := by decide +kernel
theorem dX1_fastBehind_24 : decode cX1_fastBehind 24 = .ok (.if_icmp .ge 41, 3) := by decide +kernel
theorem dX1_fastBehind_27 : decode cX1_fastBehind 27 = .ok (.iload_n 2, 1) := by decide +kernel
theorem dX1_fastBehind_28 : decode cX1_fastBehind 28 = .ok (.aload_n 0, 1) := by decide +kernel
theorem dX1_fastBehind_29 : decode cX1_fastBehind 29 = .ok (.getfield 33, 3) := by decide +kernel
theorem dX1_fastBehind_32 : decode cX1_fastBehind 32 = .ok (.iload 4, 2) := by decide +kernel
theorem dX1_fastBehind_34 : decode cX1_fastBehind 34 = .ok (.iaload, 1) := by decide +kernel
theorem dX1_fastBehind_35 : decode cX1_fastBehind 35 = .ok (.isub, 1) := by decide +kernel
theorem dX1_fastBehind_36 : decode cX1_fastBehind 36 = .ok (.iconst 0, 1) := by decide +kernel
theorem dX1_fastBehind_37 : decode cX1_fastBehind 37 = .ok (.invokestatic 120, 3) := by decide +kernel
theorem dX1_fastBehind_40 : decode cX1_fastBehind 40 = .ok (.istore 5, 2) := by decide +kernel
theorem dX1_fastBehind_42 : decode cX1_fastBehind 42 = .ok (.iload_n 3, 1) := by decide +kernel
theorem dX1_fastBehind_43 : decode cX1_fastBehind 43 = .ok (.aload_n 0, 1) := by decide +kernel
theorem dX1_fastBehind_44 : decode cX1_fastBehind 44 = .ok (.getfield 27, 3) := by decide +kernel
theorem dX1_fastBehind_47 : decode cX1_fastBehind 47 = .ok (.iload 4, 2) := by decide +kernel
theorem dX1_fastBehind_49 : decode cX1_fastBehind 49 = .ok (.iaload, 1) := by decide +kernel
theorem dX1_fastBehind_50 : decode cX1_fastBehind 50 = .ok (.iload 5, 2) := by decide +kernel
theorem dX1_fastBehind_52 : decode cX1_fastBehind 52 = .ok (.isub, 1) := by decide +kernel
theorem dX1_fastBehind_53 : decode cX1_fastBehind 53 = .ok (.iconst 0, 1) := by decide +kernel
theorem dX1_fastBehind_54 : decode cX1_fastBehind 54 = .ok (.invokestatic 120, 3) := by decide +kernel
theorem dX1_fastBehind_57 : decode cX1_fastBehind 57 = .ok (.iadd, 1) := by decide +kernel
theorem dX1_fastBehind_58 : decode cX1_fastBehind 58 = .ok (.istore_n 3, 1) := by decide +kernel
theorem dX1_fastBehind_59 : decode cX1_fastBehind 59 = .ok (.iinc 4 1, 3) := by decide +kernel
theorem dX1_fastBehind_62 : decode cX1_fastBehind 62 = .ok (.goto (-44), 3) := by decide +kernel
theorem dX1_fastBehind_65 : decode cX1_fastBehind 65 = .ok (.iload_n 3, 1) := by decide +kernel
theorem dX1_fastBehind_66 : decode cX1_fastBehind 66 = .ok (.ireturn, 1) := by decide +kernel
theorem dX2_with_0 : decode cX2_with 0 = .ok (.iload_n 0, 1) := by decide +kernel
theorem dX2_with_1 : decode cX2_with 1 = .ok (.iconst 5, 1) := by decide +kernel
theorem dX2_with_2 : decode cX2_with 2 = .ok (.ishl, 1) := by decide +kernel
theorem dX2_with_3 : decode cX2_with 3 = .ok (.iload_n 1, 1) := by decide +kernel
theorem dX2_with_4 : decode cX2_with 4 = .ok (.bipush 96, 2) := by decide +kernel
theorem dX2_with_6 : decode cX2_with 6 = .ok (.isub, 1) := by decide +kernel
theorem dX2_with_7 : decode cX2_with 7 = .ok (.ior, 1) := by decide +kernel
theorem dX2_with_8 : decode cX2_with 8 = .ok (.ireturn, 1) := by decide +kernel
theorem dX2_letterAt_0 : decode cX2_letterAt 0 = .ok (.iload_n 0, 1) := by decide +kernel
theorem dX2_letterAt_1 : decode cX2_letterAt 1 = .ok (.iconst 5, 1) := by decide +kernel
theorem dX2_letterAt_2 : decode cX2_letterAt 2 = .ok (.iconst 5, 1) := by decide +kernel
theorem dX2_letterAt_3 : decode cX2_letterAt 3 = .ok (.iload_n 1, 1) := by decide +kernel
theorem dX2_letterAt_4 : decode cX2_letterAt 4 = .ok (.isub, 1) := by decide +kernel
theorem dX2_letterAt_5 : decode cX2_letterAt 5 = .ok (.imul, 1) := by decide +kernel
theorem dX2_letterAt_6 : decode cX2_letterAt 6 = .ok (.ishr, 1) := by decide +kernel
theorem dX2_letterAt_7 : decode cX2_letterAt 7 = .ok (.bipush 31, 2) := by decide +kernel
theorem dX2_letterAt_9 : decode cX2_letterAt 9 = .ok (.iand, 1) := by decide +kernel
theorem dX2_letterAt_10 : decode cX2_letterAt 10 = .ok (.istore_n 2, 1) := by decide +kernel
theorem dX2_letterAt_11 : decode cX2_letterAt 11 = .ok (.iload_n 2, 1) := by decide +kernel
theorem dX2_letterAt_12 : decode cX2_letterAt 12 = .ok (.ifCond .ne 7, 3) := by decide +kernel
theorem dX2_letterAt_15 : decode cX2_letterAt 15 = .ok (.iconst 0, 1) := by decide +kernel
theorem dX2_letterAt_16 : decode cX2_letterAt 16 = .ok (.goto 7, 3) := by decide +kernel
theorem dX2_letterAt_19 : decode cX2_letterAt 19 = .ok (.iload_n 2, 1) := by decide +kernel
theorem dX2_letterAt_20 : decode cX2_letterAt 20 = .ok (.bipush 96, 2) := by decide +kernel
theorem dX2_letterAt_22 : decode cX2_letterAt 22 = .ok (.iadd, 1) := by decide +kernel
theorem dX2_letterAt_23 : decode cX2_letterAt 23 = .ok (.ireturn, 1) := by decide +kernel
theorem dX2_lettersIn_0 : decode cX2_lettersIn 0 = .ok (.iconst 0, 1) := by decide +kernel
theorem dX2_lettersIn_1 : decode cX2_lettersIn 1 = .ok (.istore_n 1, 1) := by decide +kernel
theorem dX2_lettersIn_2 : decode cX2_lettersIn 2 = .ok (.iconst 0, 1) := by decide +kernel
theorem dX2_lettersIn_3 : decode cX2_lettersIn 3 = .ok (.istore_n 2, 1) := by decide +kernel
theorem dX2_lettersIn_4 : decode cX2_lettersIn 4 = .ok (.iload_n 2, 1) := by decide +kernel
theorem dX2_lettersIn_5 : decode cX2_lettersIn 5 = .ok (.bipush 6, 2) := by decide +kernel
theorem dX2_lettersIn_7 : decode cX2_lettersIn 7 = .ok (.if_icmp .ge 20, 3) := by decide +kernel
theorem dX2_lettersIn_10 : decode cX2_lettersIn 10 = .ok (.iload_n 0, 1) := by decide +kernel
theorem dX2_lettersIn_11 : decode cX2_lettersIn 11 = .ok (.iload_n 2, 1) := by decide +kernel
theorem dX2_lettersIn_12 : decode cX2_lettersIn 12 = .ok (.invokestatic 11, 3) := by decide +kernel
theorem dX2_lettersIn_15 : decode cX2_lettersIn 15 = .ok (.ifCond .eq 6, 3) := by decide +kernel
theorem dX2_lettersIn_18 : decode cX2_lettersIn 18 = .ok (.iinc 1 1, 3) := by decide +kernel
theorem dX2_lettersIn_21 : decode cX2_lettersIn 21 = .ok (.iinc 2 1, 3) := by decide +kernel
theorem dX2_lettersIn_24 : decode cX2_lettersIn 24 = .ok (.goto (-20), 3) := by decide +kernel
theorem dX2_lettersIn_27 : decode cX2_lettersIn 27 = .ok (.iload_n 1, 1) := by decide +kernel
theorem dX2_lettersIn_28 : decode cX2_lettersIn 28 = .ok (.ireturn, 1) := by decide +kernel
theorem dX3_init_0 : decode cX3_init 0 = .ok (.aload_n 0, 1) := by decide +kernel
theorem dX3_init_1 : decode cX3_init 1 = .ok (.invokespecial 3, 3) := by decide +kernel
theorem dX3_init_4 : decode cX3_init 4 = .ok (.aload_n 0, 1) := by decide +kernel
theorem dX3_init_5 : decode cX3_init 5 = .ok (.sipush 800, 3) := by decide +kernel
theorem dX3_init_8 : decode cX3_init 8 = .ok (.newarray .int, 2) := by decide +kernel
theorem dX3_init_10 : decode cX3_init 10 = .ok (.putfield 9, 3) := by decide +kernel
theorem dX3_init_13 : decode cX3_init 13 = .ok (.aload_n 0, 1) := by decide +kernel
theorem dX3_init_14 : decode cX3_init 14 = .ok (.new 15, 3) := by decide +kernel
theorem dX3_init_17 : decode cX3_init 17 = .ok (.dup, 1) := by decide +kernel
theorem dX3_init_18 : decode cX3_init 18 = .ok (.invokespecial 17, 3) := by decide +kernel
theorem dX3_init_21 : decode cX3_init 21 = .ok (.putfield 18, 3) := by decide +kernel
theorem dX3_init_24 : decode cX3_init 24 = .ok (.aload_n 0, 1) := by decide +kernel
theorem dX3_init_25 : decode cX3_init 25 = .ok (.iconst (-1), 1) := by decide +kernel
theorem dX3_init_26 : decode cX3_init 26 = .ok (.putfield 22, 3) := by decide +kernel
theorem dX3_init_29 : decode cX3_init 29 = .ok (.return_, 1) := by decide +kernel
theorem dX3_bytesIn_0 : decode cX3_bytesIn 0 = .ok (.iconst 0, 1) := by decide +kernel
theorem dX3_bytesIn_1 : decode cX3_bytesIn 1 = .ok (.istore_n 1, 1) := by decide +kernel
theorem dX3_bytesIn_2 : decode cX3_bytesIn 2 = .ok (.bipush 24, 2) := by decide +kernel
theorem dX3_bytesIn_4 : decode cX3_bytesIn 4 = .ok (.istore_n 2, 1) := by decide +kernel
theorem dX3_bytesIn_5 : decode cX3_bytesIn 5 = .ok (.iload_n 2, 1) := by decide +kernel
theorem dX3_bytesIn_6 : decode cX3_bytesIn 6 = .ok (.ifCond .lt 22, 3) := by decide +kernel
theorem dX3_bytesIn_9 : decode cX3_bytesIn 9 = .ok (.iload_n 0, 1) := by decide +kernel
theorem dX3_bytesIn_10 : decode cX3_bytesIn 10 = .ok (.iload_n 2, 1) := by decide +kernel
theorem dX3_bytesIn_11 : decode cX3_bytesIn 11 = .ok (.iushr, 1) := by decide +kernel
theorem dX3_bytesIn_12 : decode cX3_bytesIn 12 = .ok (.sipush 255, 3) := by decide +kernel
theorem dX3_bytesIn_15 : decode cX3_bytesIn 15 = .ok (.iand, 1) := by decide +kernel
theorem dX3_bytesIn_16 : decode cX3_bytesIn 16 = .ok (.ifCond .eq 6, 3) := by decide +kernel
theorem dX3_bytesIn_19 : decode cX3_bytesIn 19 = .ok (.iinc 1 1, 3) := by decide +kernel
theorem dX3_bytesIn_22 : decode cX3_bytesIn 22 = .ok (.iinc 2 (-8), 3) := by decide +kernel
theorem dX3_bytesIn_25 : decode cX3_bytesIn 25 = .ok (.goto (-20), 3) := by decide +kernel
theorem dX3_bytesIn_28 : decode cX3_bytesIn 28 = .ok (.iload_n 1, 1) := by decide +kernel
theorem dX3_bytesIn_29 : decode cX3_bytesIn 29 = .ok (.ireturn, 1) := by decide +kernel
theorem dX3_addBytes_0 : decode cX3_addBytes 0 = .ok (.bipush 24, 2) := by decide +kernel
theorem dX3_addBytes_2 : decode cX3_addBytes 2 = .ok (.istore_n 2, 1) := by decide +kernel
theorem dX3_addBytes_3 : decode cX3_addBytes 3 = .ok (.iload_n 2, 1) := by decide +kernel
theorem dX3_addBytes_4 : decode cX3_addBytes 4 = .ok (.ifCond .lt 51, 3) := by decide +kernel
theorem dX3_addBytes_7 : decode cX3_addBytes 7 = .ok (.iload_n 1, 1) := by decide +kernel
theorem dX3_addBytes_8 : decode cX3_addBytes 8 = .ok (.iload_n 2, 1) := by decide +kernel
theorem dX3_addBytes_9 : decode cX3_addBytes 9 = .ok (.iushr, 1) := by decide +kernel
theorem dX3_addBytes_10 : decode cX3_addBytes 10 = .ok (.sipush 255, 3) := by decide +kernel
theorem dX3_addBytes_13 : decode cX3_addBytes 13 = .ok (.iand, 1) := by decide +kernel
theorem dX3_addBytes_14 : decode cX3_addBytes 14 = .ok (.istore_n 3, 1) := by decide +kernel
theorem dX3_addBytes_15 : decode cX3_addBytes 15 = .ok (.iload_n 3, 1) := by decide +kernel
theorem dX3_addBytes_16 : decode cX3_addBytes 16 = .ok (.ifCond .eq 33, 3) := by decide +kernel
theorem dX3_addBytes_19 : decode cX3_addBytes 19 = .ok (.aload_n 0, 1) := by decide +kernel
theorem dX3_addBytes_20 : decode cX3_addBytes 20 = .ok (.getfield 26, 3) := by decide +kernel
theorem dX3_addBytes_23 : decode cX3_addBytes 23 = .ok (.sipush 800, 3) := by decide +kernel
theorem dX3_addBytes_26 : decode cX3_addBytes 26 = .ok (.if_icmp .ge 23, 3) := by decide +kernel
theorem dX3_addBytes_29 : decode cX3_addBytes 29 = .ok (.aload_n 0, 1) := by decide +kernel
theorem dX3_addBytes_30 : decode cX3_addBytes 30 = .ok (.getfield 9, 3) := by decide +kernel
theorem dX3_addBytes_33 : decode cX3_addBytes 33 = .ok (.aload_n 0, 1) := by decide +kernel
theorem dX3_addBytes_34 : decode cX3_addBytes 34 = .ok (.getfield 26, 3) := by decide +kernel
theorem dX3_addBytes_37 : decode cX3_addBytes 37 = .ok (.iload_n 3, 1) := by decide +kernel
theorem dX3_addBytes_38 : decode cX3_addBytes 38 = .ok (.iastore, 1) := by decide +kernel
theorem dX3_addBytes_39 : decode cX3_addBytes 39 = .ok (.aload_n 0, 1) := by decide +kernel
theorem dX3_addBytes_40 : decode cX3_addBytes 40 = .ok (.dup, 1) := by decide +kernel
theorem dX3_addBytes_41 : decode cX3_addBytes 41 = .ok (.getfield 26, 3) := by decide +kernel
theorem dX3_addBytes_44 : decode cX3_addBytes 44 = .ok (.iconst 1, 1) := by decide +kernel
theorem dX3_addBytes_45 : decode cX3_addBytes 45 = .ok (.iadd, 1) := by decide +kernel
theorem dX3_addBytes_46 : decode cX3_addBytes 46 = .ok (.putfield 26, 3) := by decide +kernel
theorem dX3_addBytes_49 : decode cX3_addBytes 49 = .ok (.iinc 2 (-8), 3) := by decide +kernel
theorem dX3_addBytes_52 : decode cX3_addBytes 52 = .ok (.goto (-49), 3) := by decide +kernel
theorem dX3_addBytes_55 : decode cX3_addBytes 55 = .ok (.return_, 1) := by decide +kernel
theorem dX3_readText_0 : decode cX3_readText 0 = .ok (.aload_n 0, 1) := by decide +kernel
theorem dX3_readText_1 : decode cX3_readText 1 = .ok (.iconst (-1), 1) := by decide +kernel
theorem dX3_readText_2 : decode cX3_readText 2 = .ok (.putfield 22, 3) := by decide +kernel
theorem dX3_readText_5 : decode cX3_readText 5 = .ok (.aload_n 0, 1) := by decide +kernel
theorem dX3_readText_6 : decode cX3_readText 6 = .ok (.iconst 0, 1) := by decide +kernel
theorem dX3_readText_7 : decode cX3_readText 7 = .ok (.putfield 29, 3) := by decide +kernel
theorem dX3_readText_10 : decode cX3_readText 10 = .ok (.aload_n 0, 1) := by decide +kernel
theorem dX3_readText_11 : decode cX3_readText 11 = .ok (.getfield 18, 3) := by decide +kernel
theorem dX3_readText_14 : decode cX3_readText 14 = .ok (.invokevirtual 32, 3) := by decide +kernel
theorem dX3_readText_17 : decode cX3_readText 17 = .ok (.aload_n 0, 1) := by decide +kernel
theorem dX3_readText_18 : decode cX3_readText 18 = .ok (.invokevirtual 35, 3) := by decide +kernel
theorem dX3_readText_21 : decode cX3_readText 21 = .ok (.aload_n 0, 1) := by decide +kernel
theorem dX3_readText_22 : decode cX3_readText 22 = .ok (.invokevirtual 38, 3) := by decide +kernel
theorem dX3_readText_25 : decode cX3_readText 25 = .ok (.ifCond .eq 31, 3) := by decide +kernel
theorem dX3_readText_28 : decode cX3_readText 28 = .ok (.aload_n 0, 1) := by decide +kernel
theorem dX3_readText_29 : decode cX3_readText 29 = .ok (.invokevirtual 42, 3) := by decide +kernel
theorem dX3_readText_32 : decode cX3_readText 32 = .ok (.ifCond .eq 24, 3) := by decide +kernel
theorem dX3_readText_35 : decode cX3_readText 35 = .ok (.aload_n 0, 1) := by decide +kernel
theorem dX3_readText_36 : decode cX3_readText 36 = .ok (.invokevirtual 45, 3) := by decide +kernel
theorem dX3_readText_39 : decode cX3_readText 39 = .ok (.ifCond .eq 17, 3) := by decide +kernel
theorem dX3_readText_42 : decode cX3_readText 42 = .ok (.aload_n 0, 1) := by decide +kernel
theorem dX3_readText_43 : decode cX3_readText 43 = .ok (.invokevirtual 48, 3) := by decide +kernel
theorem dX3_readText_46 : decode cX3_readText 46 = .ok (.ifCond .eq 10, 3) := by decide +kernel
theorem dX3_readText_49 : decode cX3_readText 49 = .ok (.aload_n 0, 1) := by decide +kernel
theorem dX3_readText_50 : decode cX3_readText 50 = .ok (.invokevirtual 51, 3) := by decide +kernel
theorem dX3_readText_53 : decode cX3_readText 53 = .ok (.ifCond .ne 5, 3) := by decide +kernel
theorem dX3_readText_56 : decode cX3_readText 56 = .ok (.iconst 0, 1) := by decide +kernel
theorem dX3_readText_57 : decode cX3_readText 57 = .ok (.ireturn, 1) := by decide +kernel
theorem dX3_readText_58 : decode cX3_readText 58 = .ok (.iconst 0, 1) := by decide +kernel
theorem dX3_readText_59 : decode cX3_readText 59 = .ok (.istore_n 1, 1) := by decide +kernel
theorem dX3_readText_60 : decode cX3_readText 60 = .ok (.iload_n 1, 1) := by decide +kernel
theorem dX3_readText_61 : decode cX3_readText 61 = .ok (.sipush 800, 3) := by decide +kernel
theorem dX3_readText_64 : decode cX3_readText 64 = .ok (.if_icmp .ge 29, 3) := by decide +kernel
theorem dX3_readText_67 : decode cX3_readText 67 = .ok (.aload_n 0, 1) := by decide +kernel
theorem dX3_readText_68 : decode cX3_readText 68 = .ok (.getfield 54, 3) := by decide +kernel
theorem dX3_readText_71 : decode cX3_readText 71 = .ok (.aload_n 0, 1) := by decide +kernel
theorem dX3_readText_72 : decode cX3_readText 72 = .ok (.getfield 26, 3) := by decide +kernel
theorem dX3_readText_75 : decode cX3_readText 75 = .ok (.if_icmp .ge 18, 3) := by decide +kernel
theorem dX3_readText_78 : decode cX3_readText 78 = .ok (.aload_n 0, 1) := by decide +kernel
theorem dX3_readText_79 : decode cX3_readText 79 = .ok (.invokevirtual 57, 3) := by decide +kernel
theorem dX3_readText_82 : decode cX3_readText 82 = .ok (.ifCond .ne 5, 3) := by decide +kernel
theorem dX3_readText_85 : decode cX3_readText 85 = .ok (.iconst 0, 1) := by decide +kernel
theorem dX3_readText_86 : decode cX3_readText 86 = .ok (.ireturn, 1) := by decide +kernel
theorem dX3_readText_87 : decode cX3_readText 87 = .ok (.iinc 1 1, 3) := by decide +kernel
theorem dX3_readText_90 : decode cX3_readText 90 = .ok (.goto (-30), 3) := by decide +kernel
theorem dX3_readText_93 : decode cX3_readText 93 = .ok (.iconst 1, 1) := by decide +kernel
theorem dX3_readText_94 : decode cX3_readText 94 = .ok (.ireturn, 1) := by decide +kernel
theorem dX3_nextToken_0 : decode cX3_nextToken 0 = .ok (.aload_n 0, 1) := by decide +kernel
theorem dX3_nextToken_1 : decode cX3_nextToken 1 = .ok (.getfield 29, 3) := by decide +kernel
theorem dX3_nextToken_4 : decode cX3_nextToken 4 = .ok (.istore_n 1, 1) := by decide +kernel
theorem dX3_nextToken_5 : decode cX3_nextToken 5 = .ok (.iload_n 1, 1) := by decide +kernel
theorem dX3_nextToken_6 : decode cX3_nextToken 6 = .ok (.aload_n 0, 1) := by decide +kernel
theorem dX3_nextToken_7 : decode cX3_nextToken 7 = .ok (.getfield 26, 3) := by decide +kernel
theorem dX3_nextToken_10 : decode cX3_nextToken 10 = .ok (.if_icmp .ge 20, 3) := by decide +kernel
theorem dX3_nextToken_13 : decode cX3_nextToken 13 = .ok (.aload_n 0, 1) := by decide +kernel
theorem dX3_nextToken_14 : decode cX3_nextToken 14 = .ok (.getfield 9, 3) := by decide +kernel
theorem dX3_nextToken_17 : decode cX3_nextToken 17 = .ok (.iload_n 1, 1) := by decide +kernel
theorem dX3_nextToken_18 : decode cX3_nextToken 18 = .ok (.iaload, 1) := by decide +kernel
theorem dX3_nextToken_19 : decode cX3_nextToken 19 = .ok (.bipush 32, 2) := by decide +kernel
theorem dX3_nextToken_21 : decode cX3_nextToken 21 = .ok (.if_icmp .ne 9, 3) := by decide +kernel
theorem dX3_nextToken_24 : decode cX3_nextToken 24 = .ok (.iinc 1 1, 3) := by decide +kernel
theorem dX3_nextToken_27 : decode cX3_nextToken 27 = .ok (.goto (-22), 3) := by decide +kernel
theorem dX3_nextToken_30 : decode cX3_nextToken 30 = .ok (.aload_n 0, 1) := by decide +kernel
theorem dX3_nextToken_31 : decode cX3_nextToken 31 = .ok (.iload_n 1, 1) := by decide +kernel
theorem dX3_nextToken_32 : decode cX3_nextToken 32 = .ok (.putfield 54, 3) := by decide +kernel
theorem dX3_nextToken_35 : decode cX3_nextToken 35 = .ok (.iload_n 1, 1) := by decide +kernel
theorem dX3_nextToken_36 : decode cX3_nextToken 36 = .ok (.aload_n 0, 1) := by decide +kernel
theorem dX3_nextToken_37 : decode cX3_nextToken 37 = .ok (.getfield 26, 3) := by decide +kernel
theorem dX3_nextToken_40 : decode cX3_nextToken 40 = .ok (.if_icmp .ge 31, 3) := by decide +kernel
theorem dX3_nextToken_43 : decode cX3_nextToken 43 = .ok (.aload_n 0, 1) := by decide +kernel
theorem dX3_nextToken_44 : decode cX3_nextToken 44 = .ok (.getfield 9, 3) := by decide +kernel
theorem dX3_nextToken_47 : decode cX3_nextToken 47 = .ok (.iload_n 1, 1) := by decide +kernel
theorem dX3_nextToken_48 : decode cX3_nextToken 48 = .ok (.iaload, 1) := by decide +kernel
theorem dX3_nextToken_49 : decode cX3_nextToken 49 = .ok (.bipush 97, 2) := by decide +kernel
theorem dX3_nextToken_51 : decode cX3_nextToken 51 = .ok (.if_icmp .lt 20, 3) := by decide +kernel
theorem dX3_nextToken_54 : decode cX3_nextToken 54 = .ok (.aload_n 0, 1) := by decide +kernel
theorem dX3_nextToken_55 : decode cX3_nextToken 55 = .ok (.getfield 9, 3) := by decide +kernel
theorem dX3_nextToken_58 : decode cX3_nextToken 58 = .ok (.iload_n 1, 1) := by decide +kernel
theorem dX3_nextToken_59 : decode cX3_nextToken 59 = .ok (.iaload, 1) := by decide +kernel
theorem dX3_nextToken_60 : decode cX3_nextToken 60 = .ok (.bipush 122, 2) := by decide +kernel
theorem dX3_nextToken_62 : decode cX3_nextToken 62 = .ok (.if_icmp .gt 9, 3) := by decide +kernel
theorem dX3_nextToken_65 : decode cX3_nextToken 65 = .ok (.iinc 1 1, 3) := by decide +kernel
theorem dX3_nextToken_68 : decode cX3_nextToken 68 = .ok (.goto (-33), 3) := by decide +kernel
theorem dX3_nextToken_71 : decode cX3_nextToken 71 = .ok (.iload_n 1, 1) := by decide +kernel
theorem dX3_nextToken_72 : decode cX3_nextToken 72 = .ok (.aload_n 0, 1) := by decide +kernel
theorem dX3_nextToken_73 : decode cX3_nextToken 73 = .ok (.getfield 54, 3) := by decide +kernel
theorem dX3_nextToken_76 : decode cX3_nextToken 76 = .ok (.if_icmp .ne 39, 3) := by decide +kernel
theorem dX3_nextToken_79 : decode cX3_nextToken 79 = .ok (.iload_n 1, 1) := by decide +kernel
theorem dX3_nextToken_80 : decode cX3_nextToken 80 = .ok (.aload_n 0, 1) := by decide +kernel
theorem dX3_nextToken_81 : decode cX3_nextToken 81 = .ok (.getfield 26, 3) := by decide +kernel
theorem dX3_nextToken_84 : decode cX3_nextToken 84 = .ok (.if_icmp .ge 31, 3) := by decide +kernel
theorem dX3_nextToken_87 : decode cX3_nextToken 87 = .ok (.aload_n 0, 1) := by decide +kernel
theorem dX3_nextToken_88 : decode cX3_nextToken 88 = .ok (.getfield 9, 3) := by decide +kernel
theorem dX3_nextToken_91 : decode cX3_nextToken 91 = .ok (.iload_n 1, 1) := by decide +kernel
theorem dX3_nextToken_92 : decode cX3_nextToken 92 = .ok (.iaload, 1) := by decide +kernel
theorem dX3_nextToken_93 : decode cX3_nextToken 93 = .ok (.bipush 48, 2) := by decide +kernel
theorem dX3_nextToken_95 : decode cX3_nextToken 95 = .ok (.if_icmp .lt 20, 3) := by decide +kernel
theorem dX3_nextToken_98 : decode cX3_nextToken 98 = .ok (.aload_n 0, 1) := by decide +kernel
theorem dX3_nextToken_99 : decode cX3_nextToken 99 = .ok (.getfield 9, 3) := by decide +kernel
theorem dX3_nextToken_102 : decode cX3_nextToken 102 = .ok (.iload_n 1, 1) := by decide +kernel
theorem dX3_nextToken_103 : decode cX3_nextToken 103 = .ok (.iaload, 1) := by decide +kernel
theorem dX3_nextToken_104 : decode cX3_nextToken 104 = .ok (.bipush 57, 2) := by decide +kernel
theorem dX3_nextToken_106 : decode cX3_nextToken 106 = .ok (.if_icmp .gt 9, 3) := by decide +kernel
theorem dX3_nextToken_109 : decode cX3_nextToken 109 = .ok (.iinc 1 1, 3) := by decide +kernel
theorem dX3_nextToken_112 : decode cX3_nextToken 112 = .ok (.goto (-33), 3) := by decide +kernel
theorem dX3_nextToken_115 : decode cX3_nextToken 115 = .ok (.iload_n 1, 1) := by decide +kernel
theorem dX3_nextToken_116 : decode cX3_nextToken 116 = .ok (.aload_n 0, 1) := by decide +kernel
theorem dX3_nextToken_117 : decode cX3_nextToken 117 = .ok (.getfield 54, 3) := by decide +kernel
theorem dX3_nextToken_120 : decode cX3_nextToken 120 = .ok (.if_icmp .ne 14, 3) := by decide +kernel
theorem dX3_nextToken_123 : decode cX3_nextToken 123 = .ok (.iload_n 1, 1) := by decide +kernel
theorem dX3_nextToken_124 : decode cX3_nextToken 124 = .ok (.aload_n 0, 1) := by decide +kernel
theorem dX3_nextToken_125 : decode cX3_nextToken 125 = .ok (.getfield 26, 3) := by decide +kernel
theorem dX3_nextToken_128 : decode cX3_nextToken 128 = .ok (.if_icmp .ge 6, 3) := by decide +kernel
theorem dX3_nextToken_131 : decode cX3_nextToken 131 = .ok (.iinc 1 1, 3) := by decide +kernel
theorem dX3_nextToken_134 : decode cX3_nextToken 134 = .ok (.aload_n 0, 1) := by decide +kernel
theorem dX3_nextToken_135 : decode cX3_nextToken 135 = .ok (.iload_n 1, 1) := by decide +kernel
theorem dX3_nextToken_136 : decode cX3_nextToken 136 = .ok (.putfield 29, 3) := by decide +kernel
theorem dX3_nextToken_139 : decode cX3_nextToken 139 = .ok (.return_, 1) := by decide +kernel
theorem dX3_firstByte_0 : decode cX3_firstByte 0 = .ok (.aload_n 0, 1) := by decide +kernel
theorem dX3_firstByte_1 : decode cX3_firstByte 1 = .ok (.getfield 54, 3) := by decide +kernel
theorem dX3_firstByte_4 : decode cX3_firstByte 4 = .ok (.aload_n 0, 1) := by decide +kernel
theorem dX3_firstByte_5 : decode cX3_firstByte 5 = .ok (.getfield 26, 3) := by decide +kernel
theorem dX3_firstByte_8 : decode cX3_firstByte 8 = .ok (.if_icmp .ge 15, 3) := by decide +kernel
theorem dX3_firstByte_11 : decode cX3_firstByte 11 = .ok (.aload_n 0, 1) := by decide +kernel
theorem dX3_firstByte_12 : decode cX3_firstByte 12 = .ok (.getfield 9, 3) := by decide +kernel
theorem dX3_firstByte_15 : decode cX3_firstByte 15 = .ok (.aload_n 0, 1) := by decide +kernel
theorem dX3_firstByte_16 : decode cX3_firstByte 16 = .ok (.getfield 54, 3) := by decide +kernel
theorem dX3_firstByte_19 : decode cX3_firstByte 19 = .ok (.iaload, 1) := by decide +kernel
theorem dX3_firstByte_20 : decode cX3_firstByte 20 = .ok (.goto 4, 3) := by decide +kernel
theorem dX3_firstByte_23 : decode cX3_firstByte 23 = .ok (.iconst 0, 1) := by decide +kernel
theorem dX3_firstByte_24 : decode cX3_firstByte 24 = .ok (.ireturn, 1) := by decide +kernel
theorem dX3_fail_0 : decode cX3_fail 0 = .ok (.aload_n 0, 1) := by decide +kernel
theorem dX3_fail_1 : decode cX3_fail 1 = .ok (.iload_n 1, 1) := by decide +kernel
theorem dX3_fail_2 : decode cX3_fail 2 = .ok (.putfield 60, 3) := by decide +kernel
theorem dX3_fail_5 : decode cX3_fail 5 = .ok (.aload_n 0, 1) := by decide +kernel
theorem dX3_fail_6 : decode cX3_fail 6 = .ok (.aload_n 0, 1) := by decide +kernel
theorem dX3_fail_7 : decode cX3_fail 7 = .ok (.getfield 54, 3) := by decide +kernel
theorem dX3_fail_10 : decode cX3_fail 10 = .ok (.putfield 22, 3) := by decide +kernel
theorem dX3_fail_13 : decode cX3_fail 13 = .ok (.iconst 0, 1) := by decide +kernel
theorem dX3_fail_14 : decode cX3_fail 14 = .ok (.ireturn, 1) := by decide +kernel
theorem dX3_isWord_0 : decode cX3_isWord 0 = .ok (.aload_n 0, 1) := by decide +kernel
theorem dX3_isWord_1 : decode cX3_isWord 1 = .ok (.getfield 29, 3) := by decide +kernel
theorem dX3_isWord_4 : decode cX3_isWord 4 = .ok (.aload_n 0, 1) := by decide +kernel
theorem dX3_isWord_5 : decode cX3_isWord 5 = .ok (.getfield 54, 3) := by decide +kernel
theorem dX3_isWord_8 : decode cX3_isWord 8 = .ok (.isub, 1) := by decide +kernel
theorem dX3_isWord_9 : decode cX3_isWord 9 = .ok (.aload_n 1, 1) := by decide +kernel
theorem dX3_isWord_10 : decode cX3_isWord 10 = .ok (.invokevirtual 63, 3) := by decide +kernel
theorem dX3_isWord_13 : decode cX3_isWord 13 = .ok (.if_icmp .eq 5, 3) := by decide +kernel
theorem dX3_isWord_16 : decode cX3_isWord 16 = .ok (.iconst 0, 1) := by decide +kernel
theorem dX3_isWord_17 : decode cX3_isWord 17 = .ok (.ireturn, 1) := by decide +kernel
theorem dX3_isWord_18 : decode cX3_isWord 18 = .ok (.iconst 0, 1) := by decide +kernel
theorem dX3_isWord_19 : decode cX3_isWord 19 = .ok (.istore_n 2, 1) := by decide +kernel
theorem dX3_isWord_20 : decode cX3_isWord 20 = .ok (.iload_n 2, 1) := by decide +kernel
theorem dX3_isWord_21 : decode cX3_isWord 21 = .ok (.aload_n 1, 1) := by decide +kernel
theorem dX3_isWord_22 : decode cX3_isWord 22 = .ok (.invokevirtual 63, 3) := by decide +kernel
theorem dX3_isWord_25 : decode cX3_isWord 25 = .ok (.if_icmp .ge 30, 3) := by decide +kernel
theorem dX3_isWord_28 : decode cX3_isWord 28 = .ok (.aload_n 0, 1) := by decide +kernel
theorem dX3_isWord_29 : decode cX3_isWord 29 = .ok (.getfield 9, 3) := by decide +kernel
theorem dX3_isWord_32 : decode cX3_isWord 32 = .ok (.aload_n 0, 1) := by decide +kernel
theorem dX3_isWord_33 : decode cX3_isWord 33 = .ok (.getfield 54, 3) := by decide +kernel
theorem dX3_isWord_36 : decode cX3_isWord 36 = .ok (.iload_n 2, 1) := by decide +kernel
theorem dX3_isWord_37 : decode cX3_isWord 37 = .ok (.iadd, 1) := by decide +kernel
theorem dX3_isWord_38 : decode cX3_isWord 38 = .ok (.iaload, 1) := by decide +kernel
theorem dX3_isWord_39 : decode cX3_isWord 39 = .ok (.aload_n 1, 1) := by decide +kernel
theorem dX3_isWord_40 : decode cX3_isWord 40 = .ok (.iload_n 2, 1) := by decide +kernel
theorem dX3_isWord_41 : decode cX3_isWord 41 = .ok (.invokevirtual 68, 3) := by decide +kernel
theorem dX3_isWord_44 : decode cX3_isWord 44 = .ok (.if_icmp .eq 5, 3) := by decide +kernel
theorem dX3_isWord_47 : decode cX3_isWord 47 = .ok (.iconst 0, 1) := by decide +kernel
theorem dX3_isWord_48 : decode cX3_isWord 48 = .ok (.ireturn, 1) := by decide +kernel
theorem dX3_isWord_49 : decode cX3_isWord 49 = .ok (.iinc 2 1, 3) := by decide +kernel
theorem dX3_isWord_52 : decode cX3_isWord 52 = .ok (.goto (-32), 3) := by decide +kernel
theorem dX3_isWord_55 : decode cX3_isWord 55 = .ok (.iconst 1, 1) := by decide +kernel
theorem dX3_isWord_56 : decode cX3_isWord 56 = .ok (.ireturn, 1) := by decide +kernel
theorem dX3_takeWord_0 : decode cX3_takeWord 0 = .ok (.aload_n 0, 1) := by decide +kernel
theorem dX3_takeWord_1 : decode cX3_takeWord 1 = .ok (.aload_n 1, 1) := by decide +kernel
theorem dX3_takeWord_2 : decode cX3_takeWord 2 = .ok (.invokevirtual 72, 3) := by decide +kernel
theorem dX3_takeWord_5 : decode cX3_takeWord 5 = .ok (.ifCond .ne 5, 3) := by decide +kernel
theorem dX3_takeWord_8 : decode cX3_takeWord 8 = .ok (.iconst 0, 1) := by decide +kernel
theorem dX3_takeWord_9 : decode cX3_takeWord 9 = .ok (.ireturn, 1) := by decide +kernel
theorem dX3_takeWord_10 : decode cX3_takeWord 10 = .ok (.aload_n 0, 1) := by decide +kernel
theorem dX3_takeWord_11 : decode cX3_takeWord 11 = .ok (.invokevirtual 35, 3) := by decide +kernel
theorem dX3_takeWord_14 : decode cX3_takeWord 14 = .ok (.iconst 1, 1) := by decide +kernel
theorem dX3_takeWord_15 : decode cX3_takeWord 15 = .ok (.ireturn, 1) := by decide +kernel
theorem dX3_takeSemicolon_0 : decode cX3_takeSemicolon 0 = .ok (.aload_n 0, 1) := by decide +kernel
theorem dX3_takeSemicolon_1 : decode cX3_takeSemicolon 1 = .ok (.invokevirtual 76, 3) := by decide +kernel
theorem dX3_takeSemicolon_4 : decode cX3_takeSemicolon 4 = .ok (.bipush 59, 2) := by decide +kernel
theorem dX3_takeSemicolon_6 : decode cX3_takeSemicolon 6 = .ok (.if_icmp .eq 10, 3) := by decide +kernel
theorem dX3_takeSemicolon_9 : decode cX3_takeSemicolon 9 = .ok (.aload_n 0, 1) := by decide +kernel
theorem dX3_takeSemicolon_10 : decode cX3_takeSemicolon 10 = .ok (.bipush (-2), 2) := by decide +kernel
theorem dX3_takeSemicolon_12 : decode cX3_takeSemicolon 12 = .ok (.invokevirtual 79, 3) := by decide +kernel
theorem dX3_takeSemicolon_15 : decode cX3_takeSemicolon 15 = .ok (.ireturn, 1) := by decide +kernel
theorem dX3_takeSemicolon_16 : decode cX3_takeSemicolon 16 = .ok (.aload_n 0, 1) := by decide +kernel
theorem dX3_takeSemicolon_17 : decode cX3_takeSemicolon 17 = .ok (.invokevirtual 35, 3) := by decide +kernel
theorem dX3_takeSemicolon_20 : decode cX3_takeSemicolon 20 = .ok (.iconst 1, 1) := by decide +kernel
theorem dX3_takeSemicolon_21 : decode cX3_takeSemicolon 21 = .ok (.ireturn, 1) := by decide +kernel
theorem dX3_takeNumber_0 : decode cX3_takeNumber 0 = .ok (.aload_n 0, 1) := by decide +kernel
theorem dX3_takeNumber_1 : decode cX3_takeNumber 1 = .ok (.invokevirtual 76, 3) := by decide +kernel
theorem dX3_takeNumber_4 : decode cX3_takeNumber 4 = .ok (.bipush 48, 2) := by decide +kernel
theorem dX3_takeNumber_6 : decode cX3_takeNumber 6 = .ok (.if_icmp .lt 12, 3) := by decide +kernel
theorem dX3_takeNumber_9 : decode cX3_takeNumber 9 = .ok (.aload_n 0, 1) := by decide +kernel
theorem dX3_takeNumber_10 : decode cX3_takeNumber 10 = .ok (.invokevirtual 76, 3) := by decide +kernel
theorem dX3_takeNumber_13 : decode cX3_takeNumber 13 = .ok (.bipush 57, 2) := by decide +kernel
theorem dX3_takeNumber_15 : decode cX3_takeNumber 15 = .ok (.if_icmp .le 12, 3) := by decide +kernel
theorem dX3_takeNumber_18 : decode cX3_takeNumber 18 = .ok (.aload_n 0, 1) := by decide +kernel
theorem dX3_takeNumber_19 : decode cX3_takeNumber 19 = .ok (.bipush (-2), 2) := by decide +kernel
theorem dX3_takeNumber_21 : decode cX3_takeNumber 21 = .ok (.invokevirtual 79, 3) := by decide +kernel
theorem dX3_takeNumber_24 : decode cX3_takeNumber 24 = .ok (.pop, 1) := by decide +kernel
theorem dX3_takeNumber_25 : decode cX3_takeNumber 25 = .ok (.iconst (-1), 1) := by decide +kernel
theorem dX3_takeNumber_26 : decode cX3_takeNumber 26 = .ok (.ireturn, 1) := by decide +kernel
theorem dX3_takeNumber_27 : decode cX3_takeNumber 27 = .ok (.iconst 0, 1) := by decide +kernel
theorem dX3_takeNumber_28 : decode cX3_takeNumber 28 = .ok (.istore_n 3, 1) := by decide +kernel
theorem dX3_takeNumber_29 : decode cX3_takeNumber 29 = .ok (.aload_n 0, 1) := by decide +kernel
theorem dX3_takeNumber_30 : decode cX3_takeNumber 30 = .ok (.getfield 54, 3) := by decide +kernel
theorem dX3_takeNumber_33 : decode cX3_takeNumber 33 = .ok (.istore 4, 2) := by decide +kernel
theorem dX3_takeNumber_35 : decode cX3_takeNumber 35 = .ok (.iload 4, 2) := by decide +kernel
theorem dX3_takeNumber_37 : decode cX3_takeNumber 37 = .ok (.aload_n 0, 1) := by decide +kernel
theorem dX3_takeNumber_38 : decode cX3_takeNumber 38 = .ok (.getfield 29, 3) := by decide +kernel
theorem dX3_takeNumber_41 : decode cX3_takeNumber 41 = .ok (.if_icmp .ge 31, 3) := by decide +kernel
theorem dX3_takeNumber_44 : decode cX3_takeNumber 44 = .ok (.iload_n 3, 1) := by decide +kernel
theorem dX3_takeNumber_45 : decode cX3_takeNumber 45 = .ok (.bipush 10, 2) := by decide +kernel
theorem dX3_takeNumber_47 : decode cX3_takeNumber 47 = .ok (.imul, 1) := by decide +kernel
theorem dX3_takeNumber_48 : decode cX3_takeNumber 48 = .ok (.aload_n 0, 1) := by decide +kernel
theorem dX3_takeNumber_49 : decode cX3_takeNumber 49 = .ok (.getfield 9, 3) := by decide +kernel
theorem dX3_takeNumber_52 : decode cX3_takeNumber 52 = .ok (.iload 4, 2) := by decide +kernel
theorem dX3_takeNumber_54 : decode cX3_takeNumber 54 = .ok (.iaload, 1) := by decide +kernel
theorem dX3_takeNumber_55 : decode cX3_takeNumber 55 = .ok (.iadd, 1) := by decide +kernel
theorem dX3_takeNumber_56 : decode cX3_takeNumber 56 = .ok (.bipush 48, 2) := by decide +kernel
theorem dX3_takeNumber_58 : decode cX3_takeNumber 58 = .ok (.isub, 1) := by decide +kernel
theorem dX3_takeNumber_59 : decode cX3_takeNumber 59 = .ok (.iload_n 2, 1) := by decide +kernel
theorem dX3_takeNumber_60 : decode cX3_takeNumber 60 = .ok (.iconst 1, 1) := by decide +kernel
theorem dX3_takeNumber_61 : decode cX3_takeNumber 61 = .ok (.iadd, 1) := by decide +kernel
theorem dX3_takeNumber_62 : decode cX3_takeNumber 62 = .ok (.invokestatic 83, 3) := by decide +kernel
theorem dX3_takeNumber_65 : decode cX3_takeNumber 65 = .ok (.istore_n 3, 1) := by decide +kernel
theorem dX3_takeNumber_66 : decode cX3_takeNumber 66 = .ok (.iinc 4 1, 3) := by decide +kernel
theorem dX3_takeNumber_69 : decode cX3_takeNumber 69 = .ok (.goto (-34), 3) := by decide +kernel
theorem dX3_takeNumber_72 : decode cX3_takeNumber 72 = .ok (.iload_n 3, 1) := by decide +kernel
theorem dX3_takeNumber_73 : decode cX3_takeNumber 73 = .ok (.iload_n 1, 1) := by decide +kernel
theorem dX3_takeNumber_74 : decode cX3_takeNumber 74 = .ok (.if_icmp .lt 8, 3) := by decide +kernel
theorem dX3_takeNumber_77 : decode cX3_takeNumber 77 = .ok (.iload_n 3, 1) := by decide +kernel
theorem dX3_takeNumber_78 : decode cX3_takeNumber 78 = .ok (.iload_n 2, 1) := by decide +kernel
theorem dX3_takeNumber_79 : decode cX3_takeNumber 79 = .ok (.if_icmp .le 12, 3) := by decide +kernel
theorem dX3_takeNumber_82 : decode cX3_takeNumber 82 = .ok (.aload_n 0, 1) := by decide +kernel
theorem dX3_takeNumber_83 : decode cX3_takeNumber 83 = .ok (.bipush (-3), 2) := by decide +kernel
theorem dX3_takeNumber_85 : decode cX3_takeNumber 85 = .ok (.invokevirtual 79, 3) := by decide +kernel
theorem dX3_takeNumber_88 : decode cX3_takeNumber 88 = .ok (.pop, 1) := by decide +kernel
theorem dX3_takeNumber_89 : decode cX3_takeNumber 89 = .ok (.iconst (-1), 1) := by decide +kernel
theorem dX3_takeNumber_90 : decode cX3_takeNumber 90 = .ok (.ireturn, 1) := by decide +kernel
theorem dX3_takeNumber_91 : decode cX3_takeNumber 91 = .ok (.aload_n 0, 1) := by decide +kernel
theorem dX3_takeNumber_92 : decode cX3_takeNumber 92 = .ok (.invokevirtual 35, 3) := by decide +kernel
theorem dX3_takeNumber_95 : decode cX3_takeNumber 95 = .ok (.iload_n 3, 1) := by decide +kernel
theorem dX3_takeNumber_96 : decode cX3_takeNumber 96 = .ok (.ireturn, 1) := by decide +kernel
theorem dX3_nameHere_0 : decode cX3_nameHere 0 = .ok (.aload_n 0, 1) := by decide +kernel
theorem dX3_nameHere_1 : decode cX3_nameHere 1 = .ok (.invokevirtual 76, 3) := by decide +kernel
theorem dX3_nameHere_4 : decode cX3_nameHere 4 = .ok (.bipush 97, 2) := by decide +kernel
theorem dX3_nameHere_6 : decode cX3_nameHere 6 = .ok (.if_icmp .lt 26, 3) := by decide +kernel
theorem dX3_nameHere_9 : decode cX3_nameHere 9 = .ok (.aload_n 0, 1) := by decide +kernel
theorem dX3_nameHere_10 : decode cX3_nameHere 10 = .ok (.invokevirtual 76, 3) := by decide +kernel
theorem dX3_nameHere_13 : decode cX3_nameHere 13 = .ok (.bipush 122, 2) := by decide +kernel
theorem dX3_nameHere_15 : decode cX3_nameHere 15 = .ok (.if_icmp .gt 17, 3) := by decide +kernel
theorem dX3_nameHere_18 : decode cX3_nameHere 18 = .ok (.aload_n 0, 1) := by decide +kernel
theorem dX3_nameHere_19 : decode cX3_nameHere 19 = .ok (.getfield 29, 3) := by decide +kernel
theorem dX3_nameHere_22 : decode cX3_nameHere 22 = .ok (.aload_n 0, 1) := by decide +kernel
theorem dX3_nameHere_23 : decode cX3_nameHere 23 = .ok (.getfield 54, 3) := by decide +kernel
theorem dX3_nameHere_26 : decode cX3_nameHere 26 = .ok (.isub, 1) := by decide +kernel
theorem dX3_nameHere_27 : decode cX3_nameHere 27 = .ok (.bipush 6, 2) := by decide +kernel
theorem dX3_nameHere_29 : decode cX3_nameHere 29 = .ok (.if_icmp .le 12, 3) := by decide +kernel
theorem dX3_nameHere_32 : decode cX3_nameHere 32 = .ok (.aload_n 0, 1) := by decide +kernel
theorem dX3_nameHere_33 : decode cX3_nameHere 33 = .ok (.bipush (-2), 2) := by decide +kernel
theorem dX3_nameHere_35 : decode cX3_nameHere 35 = .ok (.invokevirtual 79, 3) := by decide +kernel
theorem dX3_nameHere_38 : decode cX3_nameHere 38 = .ok (.pop, 1) := by decide +kernel
theorem dX3_nameHere_39 : decode cX3_nameHere 39 = .ok (.iconst 0, 1) := by decide +kernel
theorem dX3_nameHere_40 : decode cX3_nameHere 40 = .ok (.ireturn, 1) := by decide +kernel
theorem dX3_nameHere_41 : decode cX3_nameHere 41 = .ok (.iconst 0, 1) := by decide +kernel
theorem dX3_nameHere_42 : decode cX3_nameHere 42 = .ok (.istore_n 1, 1) := by decide +kernel
theorem dX3_nameHere_43 : decode cX3_nameHere 43 = .ok (.aload_n 0, 1) := by decide +kernel
theorem dX3_nameHere_44 : decode cX3_nameHere 44 = .ok (.getfield 54, 3) := by decide +kernel
theorem dX3_nameHere_47 : decode cX3_nameHere 47 = .ok (.istore_n 2, 1) := by decide +kernel
theorem dX3_nameHere_48 : decode cX3_nameHere 48 = .ok (.iload_n 2, 1) := by decide +kernel
theorem dX3_nameHere_49 : decode cX3_nameHere 49 = .ok (.aload_n 0, 1) := by decide +kernel
theorem dX3_nameHere_50 : decode cX3_nameHere 50 = .ok (.getfield 29, 3) := by decide +kernel
theorem dX3_nameHere_53 : decode cX3_nameHere 53 = .ok (.if_icmp .ge 20, 3) := by decide +kernel
theorem dX3_nameHere_56 : decode cX3_nameHere 56 = .ok (.iload_n 1, 1) := by decide +kernel
theorem dX3_nameHere_57 : decode cX3_nameHere 57 = .ok (.aload_n 0, 1) := by decide +kernel
theorem dX3_nameHere_58 : decode cX3_nameHere 58 = .ok (.getfield 9, 3) := by decide +kernel
theorem dX3_nameHere_61 : decode cX3_nameHere 61 = .ok (.iload_n 2, 1) := by decide +kernel
theorem dX3_nameHere_62 : decode cX3_nameHere 62 = .ok (.iaload, 1) := by decide +kernel
theorem dX3_nameHere_63 : decode cX3_nameHere 63 = .ok (.invokestatic 91, 3) := by decide +kernel
theorem dX3_nameHere_66 : decode cX3_nameHere 66 = .ok (.istore_n 1, 1) := by decide +kernel
theorem dX3_nameHere_67 : decode cX3_nameHere 67 = .ok (.iinc 2 1, 3) := by decide +kernel
theorem dX3_nameHere_70 : decode cX3_nameHere 70 = .ok (.goto (-22), 3) := by decide +kernel
theorem dX3_nameHere_73 : decode cX3_nameHere 73 = .ok (.iload_n 1, 1) := by decide +kernel
theorem dX3_nameHere_74 : decode cX3_nameHere 74 = .ok (.ireturn, 1) := by decide +kernel
theorem dX3_takeMonk_0 : decode cX3_takeMonk 0 = .ok (.aload_n 0, 1) := by decide +kernel
theorem dX3_takeMonk_1 : decode cX3_takeMonk 1 = .ok (.invokevirtual 94, 3) := by decide +kernel
theorem dX3_takeMonk_4 : decode cX3_takeMonk 4 = .ok (.istore_n 2, 1) := by decide +kernel
theorem dX3_takeMonk_5 : decode cX3_takeMonk 5 = .ok (.iload_n 2, 1) := by decide +kernel
theorem dX3_takeMonk_6 : decode cX3_takeMonk 6 = .ok (.ifCond .ne 5, 3) := by decide +kernel
theorem dX3_takeMonk_9 : decode cX3_takeMonk 9 = .ok (.iconst (-1), 1) := by decide +kernel
theorem dX3_takeMonk_10 : decode cX3_takeMonk 10 = .ok (.ireturn, 1) := by decide +kernel
theorem dX3_takeMonk_11 : decode cX3_takeMonk 11 = .ok (.aload_n 0, 1) := by decide +kernel
theorem dX3_takeMonk_12 : decode cX3_takeMonk 12 = .ok (.getfield 18, 3) := by decide +kernel
theorem dX3_takeMonk_15 : decode cX3_takeMonk 15 = .ok (.iload_n 2, 1) := by decide +kernel
theorem dX3_takeMonk_16 : decode cX3_takeMonk 16 = .ok (.invokevirtual 97, 3) := by decide +kernel
theorem dX3_takeMonk_19 : decode cX3_takeMonk 19 = .ok (.istore_n 3, 1) := by decide +kernel
theorem dX3_takeMonk_20 : decode cX3_takeMonk 20 = .ok (.iload_n 3, 1) := by decide +kernel
theorem dX3_takeMonk_21 : decode cX3_takeMonk 21 = .ok (.iconst (-1), 1) := by decide +kernel
theorem dX3_takeMonk_22 : decode cX3_takeMonk 22 = .ok (.if_icmp .ne 12, 3) := by decide +kernel
theorem dX3_takeMonk_25 : decode cX3_takeMonk 25 = .ok (.aload_n 0, 1) := by decide +kernel
theorem dX3_takeMonk_26 : decode cX3_takeMonk 26 = .ok (.bipush (-4), 2) := by decide +kernel
theorem dX3_takeMonk_28 : decode cX3_takeMonk 28 = .ok (.invokevirtual 79, 3) := by decide +kernel
theorem dX3_takeMonk_31 : decode cX3_takeMonk 31 = .ok (.pop, 1) := by decide +kernel
theorem dX3_takeMonk_32 : decode cX3_takeMonk 32 = .ok (.iconst (-1), 1) := by decide +kernel
theorem dX3_takeMonk_33 : decode cX3_takeMonk 33 = .ok (.ireturn, 1) := by decide +kernel
theorem dX3_takeMonk_34 : decode cX3_takeMonk 34 = .ok (.iload_n 3, 1) := by decide +kernel
theorem dX3_takeMonk_35 : decode cX3_takeMonk 35 = .ok (.iload_n 1, 1) := by decide +kernel
theorem dX3_takeMonk_36 : decode cX3_takeMonk 36 = .ok (.if_icmp .ne 12, 3) := by decide +kernel
theorem dX3_takeMonk_39 : decode cX3_takeMonk 39 = .ok (.aload_n 0, 1) := by decide +kernel
theorem dX3_takeMonk_40 : decode cX3_takeMonk 40 = .ok (.bipush (-5), 2) := by decide +kernel
theorem dX3_takeMonk_42 : decode cX3_takeMonk 42 = .ok (.invokevirtual 79, 3) := by decide +kernel
theorem dX3_takeMonk_45 : decode cX3_takeMonk 45 = .ok (.pop, 1) := by decide +kernel
theorem dX3_takeMonk_46 : decode cX3_takeMonk 46 = .ok (.iconst (-1), 1) := by decide +kernel
theorem dX3_takeMonk_47 : decode cX3_takeMonk 47 = .ok (.ireturn, 1) := by decide +kernel
theorem dX3_takeMonk_48 : decode cX3_takeMonk 48 = .ok (.aload_n 0, 1) := by decide +kernel
theorem dX3_takeMonk_49 : decode cX3_takeMonk 49 = .ok (.invokevirtual 35, 3) := by decide +kernel
theorem dX3_takeMonk_52 : decode cX3_takeMonk 52 = .ok (.iload_n 3, 1) := by decide +kernel
theorem dX3_takeMonk_53 : decode cX3_takeMonk 53 = .ok (.ireturn, 1) := by decide +kernel
theorem dX3_takeNeed_0 : decode cX3_takeNeed 0 = .ok (.aload_n 0, 1) := by decide +kernel
theorem dX3_takeNeed_1 : decode cX3_takeNeed 1 = .ok (.invokevirtual 94, 3) := by decide +kernel
theorem dX3_takeNeed_4 : decode cX3_takeNeed 4 = .ok (.istore_n 2, 1) := by decide +kernel
theorem dX3_takeNeed_5 : decode cX3_takeNeed 5 = .ok (.iload_n 2, 1) := by decide +kernel
theorem dX3_takeNeed_6 : decode cX3_takeNeed 6 = .ok (.ifCond .ne 5, 3) := by decide +kernel
theorem dX3_takeNeed_9 : decode cX3_takeNeed 9 = .ok (.iconst (-1), 1) := by decide +kernel
theorem dX3_takeNeed_10 : decode cX3_takeNeed 10 = .ok (.ireturn, 1) := by decide +kernel
theorem dX3_takeNeed_11 : decode cX3_takeNeed 11 = .ok (.aload_n 0, 1) := by decide +kernel
theorem dX3_takeNeed_12 : decode cX3_takeNeed 12 = .ok (.getfield 18, 3) := by decide +kernel
theorem dX3_takeNeed_15 : decode cX3_takeNeed 15 = .ok (.iload_n 2, 1) := by decide +kernel
theorem dX3_takeNeed_16 : decode cX3_takeNeed 16 = .ok (.invokevirtual 101, 3) := by decide +kernel
theorem dX3_takeNeed_19 : decode cX3_takeNeed 19 = .ok (.istore_n 3, 1) := by decide +kernel
theorem dX3_takeNeed_20 : decode cX3_takeNeed 20 = .ok (.iload_n 3, 1) := by decide +kernel
theorem dX3_takeNeed_21 : decode cX3_takeNeed 21 = .ok (.iconst (-1), 1) := by decide +kernel
theorem dX3_takeNeed_22 : decode cX3_takeNeed 22 = .ok (.if_icmp .ne 12, 3) := by decide +kernel
theorem dX3_takeNeed_25 : decode cX3_takeNeed 25 = .ok (.aload_n 0, 1) := by decide +kernel
theorem dX3_takeNeed_26 : decode cX3_takeNeed 26 = .ok (.bipush (-4), 2) := by decide +kernel
theorem dX3_takeNeed_28 : decode cX3_takeNeed 28 = .ok (.invokevirtual 79, 3) := by decide +kernel
theorem dX3_takeNeed_31 : decode cX3_takeNeed 31 = .ok (.pop, 1) := by decide +kernel
theorem dX3_takeNeed_32 : decode cX3_takeNeed 32 = .ok (.iconst (-1), 1) := by decide +kernel
theorem dX3_takeNeed_33 : decode cX3_takeNeed 33 = .ok (.ireturn, 1) := by decide +kernel
theorem dX3_takeNeed_34 : decode cX3_takeNeed 34 = .ok (.iload_n 3, 1) := by decide +kernel
theorem dX3_takeNeed_35 : decode cX3_takeNeed 35 = .ok (.iload_n 1, 1) := by decide +kernel
theorem dX3_takeNeed_36 : decode cX3_takeNeed 36 = .ok (.invokestatic 104, 3) := by decide +kernel
theorem dX3_takeNeed_39 : decode cX3_takeNeed 39 = .ok (.ifCond .eq 12, 3) := by decide +kernel
theorem dX3_takeNeed_42 : decode cX3_takeNeed 42 = .ok (.aload_n 0, 1) := by decide +kernel
theorem dX3_takeNeed_43 : decode cX3_takeNeed 43 = .ok (.bipush (-5), 2) := by decide +kernel
theorem dX3_takeNeed_45 : decode cX3_takeNeed 45 = .ok (.invokevirtual 79, 3) := by decide +kernel
theorem dX3_takeNeed_48 : decode cX3_takeNeed 48 = .ok (.pop, 1) := by decide +kernel
theorem dX3_takeNeed_49 : decode cX3_takeNeed 49 = .ok (.iconst (-1), 1) := by decide +kernel
theorem dX3_takeNeed_50 : decode cX3_takeNeed 50 = .ok (.ireturn, 1) := by decide +kernel
theorem dX3_takeNeed_51 : decode cX3_takeNeed 51 = .ok (.aload_n 0, 1) := by decide +kernel
theorem dX3_takeNeed_52 : decode cX3_takeNeed 52 = .ok (.invokevirtual 35, 3) := by decide +kernel
theorem dX3_takeNeed_55 : decode cX3_takeNeed 55 = .ok (.iload_n 3, 1) := by decide +kernel
theorem dX3_takeNeed_56 : decode cX3_takeNeed 56 = .ok (.ireturn, 1) := by decide +kernel
theorem dX3_readPaper_0 : decode cX3_readPaper 0 = .ok (.aload_n 0, 1) := by decide +kernel
theorem dX3_readPaper_1 : decode cX3_readPaper 1 = .ok (.ldc 108, 2) := by decide +kernel
theorem dX3_readPaper_3 : decode cX3_readPaper 3 = .ok (.invokevirtual 110, 3) := by decide +kernel
theorem dX3_readPaper_6 : decode cX3_readPaper 6 = .ok (.ifCond .ne 5, 3) := by decide +kernel
theorem dX3_readPaper_9 : decode cX3_readPaper 9 = .ok (.iconst 1, 1) := by decide +kernel
theorem dX3_readPaper_10 : decode cX3_readPaper 10 = .ok (.ireturn, 1) := by decide +kernel
theorem dX3_readPaper_11 : decode cX3_readPaper 11 = .ok (.aload_n 0, 1) := by decide +kernel
theorem dX3_readPaper_12 : decode cX3_readPaper 12 = .ok (.iconst 0, 1) := by decide +kernel
theorem dX3_readPaper_13 : decode cX3_readPaper 13 = .ok (.bipush 99, 2) := by decide +kernel
theorem dX3_readPaper_15 : decode cX3_readPaper 15 = .ok (.invokevirtual 113, 3) := by decide +kernel
theorem dX3_readPaper_18 : decode cX3_readPaper 18 = .ok (.istore_n 1, 1) := by decide +kernel
theorem dX3_readPaper_19 : decode cX3_readPaper 19 = .ok (.iload_n 1, 1) := by decide +kernel
theorem dX3_readPaper_20 : decode cX3_readPaper 20 = .ok (.iconst (-1), 1) := by decide +kernel
theorem dX3_readPaper_21 : decode cX3_readPaper 21 = .ok (.if_icmp .ne 5, 3) := by decide +kernel
theorem dX3_readPaper_24 : decode cX3_readPaper 24 = .ok (.iconst 0, 1) := by decide +kernel
theorem dX3_readPaper_25 : decode cX3_readPaper 25 = .ok (.ireturn, 1) := by decide +kernel
theorem dX3_readPaper_26 : decode cX3_readPaper 26 = .ok (.aload_n 0, 1) := by decide +kernel
theorem dX3_readPaper_27 : decode cX3_readPaper 27 = .ok (.getfield 18, 3) := by decide +kernel
theorem dX3_readPaper_30 : decode cX3_readPaper 30 = .ok (.iload_n 1, 1) := by decide +kernel
theorem dX3_readPaper_31 : decode cX3_readPaper 31 = .ok (.putfield 116, 3) := by decide +kernel
theorem dX3_readPaper_34 : decode cX3_readPaper 34 = .ok (.aload_n 0, 1) := by decide +kernel
theorem dX3_readPaper_35 : decode cX3_readPaper 35 = .ok (.invokevirtual 118, 3) := by decide +kernel
theorem dX3_readPaper_38 : decode cX3_readPaper 38 = .ok (.ireturn, 1) := by decide +kernel
theorem dX3_readGrant_0 : decode cX3_readGrant 0 = .ok (.aload_n 0, 1) := by decide +kernel
theorem dX3_readGrant_1 : decode cX3_readGrant 1 = .ok (.ldc 121, 2) := by decide +kernel
theorem dX3_readGrant_3 : decode cX3_readGrant 3 = .ok (.invokevirtual 110, 3) := by decide +kernel
theorem dX3_readGrant_6 : decode cX3_readGrant 6 = .ok (.ifCond .ne 5, 3) := by decide +kernel
theorem dX3_readGrant_9 : decode cX3_readGrant 9 = .ok (.iconst 1, 1) := by decide +kernel
theorem dX3_readGrant_10 : decode cX3_readGrant 10 = .ok (.ireturn, 1) := by decide +kernel
theorem dX3_readGrant_11 : decode cX3_readGrant 11 = .ok (.aload_n 0, 1) := by decide +kernel
theorem dX3_readGrant_12 : decode cX3_readGrant 12 = .ok (.iconst 0, 1) := by decide +kernel
theorem dX3_readGrant_13 : decode cX3_readGrant 13 = .ok (.bipush 50, 2) := by decide +kernel
theorem dX3_readGrant_15 : decode cX3_readGrant 15 = .ok (.invokevirtual 113, 3) := by decide +kernel
theorem dX3_readGrant_18 : decode cX3_readGrant 18 = .ok (.istore_n 1, 1) := by decide +kernel
theorem dX3_readGrant_19 : decode cX3_readGrant 19 = .ok (.iload_n 1, 1) := by decide +kernel
theorem dX3_readGrant_20 : decode cX3_readGrant 20 = .ok (.iconst (-1), 1) := by decide +kernel
theorem dX3_readGrant_21 : decode cX3_readGrant 21 = .ok (.if_icmp .ne 5, 3) := by decide +kernel
theorem dX3_readGrant_24 : decode cX3_readGrant 24 = .ok (.iconst 0, 1) := by decide +kernel
theorem dX3_readGrant_25 : decode cX3_readGrant 25 = .ok (.ireturn, 1) := by decide +kernel
theorem dX3_readGrant_26 : decode cX3_readGrant 26 = .ok (.aload_n 0, 1) := by decide +kernel
theorem dX3_readGrant_27 : decode cX3_readGrant 27 = .ok (.getfield 18, 3) := by decide +kernel
theorem dX3_readGrant_30 : decode cX3_readGrant 30 = .ok (.iload_n 1, 1) := by decide +kernel
theorem dX3_readGrant_31 : decode cX3_readGrant 31 = .ok (.putfield 123, 3) := by decide +kernel
theorem dX3_readGrant_34 : decode cX3_readGrant 34 = .ok (.aload_n 0, 1) := by decide +kernel
theorem dX3_readGrant_35 : decode cX3_readGrant 35 = .ok (.invokevirtual 118, 3) := by decide +kernel
theorem dX3_readGrant_38 : decode cX3_readGrant 38 = .ok (.ireturn, 1) := by decide +kernel
theorem dX3_readNeeds_0 : decode cX3_readNeeds 0 = .ok (.iconst 0, 1) := by decide +kernel
theorem dX3_readNeeds_1 : decode cX3_readNeeds 1 = .ok (.istore_n 1, 1) := by decide +kernel
theorem dX3_readNeeds_2 : decode cX3_readNeeds 2 = .ok (.iload_n 1, 1) := by decide +kernel
theorem dX3_readNeeds_3 : decode cX3_readNeeds 3 = .ok (.bipush 8, 2) := by decide +kernel
theorem dX3_readNeeds_5 : decode cX3_readNeeds 5 = .ok (.if_icmp .ge 46, 3) := by decide +kernel
theorem dX3_readNeeds_8 : decode cX3_readNeeds 8 = .ok (.aload_n 0, 1) := by decide +kernel
theorem dX3_readNeeds_9 : decode cX3_readNeeds 9 = .ok (.ldc 125, 2) := by decide +kernel
theorem dX3_readNeeds_11 : decode cX3_readNeeds 11 = .ok (.invokevirtual 110, 3) := by decide +kernel
theorem dX3_readNeeds_14 : decode cX3_readNeeds 14 = .ok (.ifCond .ne 22, 3) := by decide +kernel
theorem dX3_readNeeds_17 : decode cX3_readNeeds 17 = .ok (.iload_n 1, 1) := by decide +kernel
theorem dX3_readNeeds_18 : decode cX3_readNeeds 18 = .ok (.ifCond .gt 12, 3) := by decide +kernel
theorem dX3_readNeeds_21 : decode cX3_readNeeds 21 = .ok (.aload_n 0, 1) := by decide +kernel
theorem dX3_readNeeds_22 : decode cX3_readNeeds 22 = .ok (.bipush (-2), 2) := by decide +kernel
theorem dX3_readNeeds_24 : decode cX3_readNeeds 24 = .ok (.invokevirtual 79, 3) := by decide +kernel
theorem dX3_readNeeds_27 : decode cX3_readNeeds 27 = .ok (.ifCond .eq 7, 3) := by decide +kernel
theorem dX3_readNeeds_30 : decode cX3_readNeeds 30 = .ok (.iconst 1, 1) := by decide +kernel
theorem dX3_readNeeds_31 : decode cX3_readNeeds 31 = .ok (.goto 4, 3) := by decide +kernel
theorem dX3_readNeeds_34 : decode cX3_readNeeds 34 = .ok (.iconst 0, 1) := by decide +kernel
theorem dX3_readNeeds_35 : decode cX3_readNeeds 35 = .ok (.ireturn, 1) := by decide +kernel
theorem dX3_readNeeds_36 : decode cX3_readNeeds 36 = .ok (.aload_n 0, 1) := by decide +kernel
theorem dX3_readNeeds_37 : decode cX3_readNeeds 37 = .ok (.invokevirtual 127, 3) := by decide +kernel
theorem dX3_readNeeds_40 : decode cX3_readNeeds 40 = .ok (.ifCond .ne 5, 3) := by decide +kernel
theorem dX3_readNeeds_43 : decode cX3_readNeeds 43 = .ok (.iconst 0, 1) := by decide +kernel
theorem dX3_readNeeds_44 : decode cX3_readNeeds 44 = .ok (.ireturn, 1) := by decide +kernel
theorem dX3_readNeeds_45 : decode cX3_readNeeds 45 = .ok (.iinc 1 1, 3) := by decide +kernel
theorem dX3_readNeeds_48 : decode cX3_readNeeds 48 = .ok (.goto (-46), 3) := by decide +kernel
theorem dX3_readNeeds_51 : decode cX3_readNeeds 51 = .ok (.aload_n 0, 1) := by decide +kernel
theorem dX3_readNeeds_52 : decode cX3_readNeeds 52 = .ok (.ldc 125, 2) := by decide +kernel
theorem dX3_readNeeds_54 : decode cX3_readNeeds 54 = .ok (.invokevirtual 72, 3) := by decide +kernel
theorem dX3_readNeeds_57 : decode cX3_readNeeds 57 = .ok (.ifCond .eq 12, 3) := by decide +kernel
theorem dX3_readNeeds_60 : decode cX3_readNeeds 60 = .ok (.aload_n 0, 1) := by decide +kernel
theorem dX3_readNeeds_61 : decode cX3_readNeeds 61 = .ok (.bipush (-6), 2) := by decide +kernel
theorem dX3_readNeeds_63 : decode cX3_readNeeds 63 = .ok (.invokevirtual 79, 3) := by decide +kernel
theorem dX3_readNeeds_66 : decode cX3_readNeeds 66 = .ok (.ifCond .eq 7, 3) := by decide +kernel
theorem dX3_readNeeds_69 : decode cX3_readNeeds 69 = .ok (.iconst 1, 1) := by decide +kernel
theorem dX3_readNeeds_70 : decode cX3_readNeeds 70 = .ok (.goto 4, 3) := by decide +kernel
theorem dX3_readNeeds_73 : decode cX3_readNeeds 73 = .ok (.iconst 0, 1) := by decide +kernel
theorem dX3_readNeeds_74 : decode cX3_readNeeds 74 = .ok (.ireturn, 1) := by decide +kernel
theorem dX3_readNeed_0 : decode cX3_readNeed 0 = .ok (.aload_n 0, 1) := by decide +kernel
theorem dX3_readNeed_1 : decode cX3_readNeed 1 = .ok (.invokevirtual 94, 3) := by decide +kernel
theorem dX3_readNeed_4 : decode cX3_readNeed 4 = .ok (.istore_n 1, 1) := by decide +kernel
theorem dX3_readNeed_5 : decode cX3_readNeed 5 = .ok (.iload_n 1, 1) := by decide +kernel
theorem dX3_readNeed_6 : decode cX3_readNeed 6 = .ok (.ifCond .ne 5, 3) := by decide +kernel
theorem dX3_readNeed_9 : decode cX3_readNeed 9 = .ok (.iconst 0, 1) := by decide +kernel
theorem dX3_readNeed_10 : decode cX3_readNeed 10 = .ok (.ireturn, 1) := by decide +kernel
theorem dX3_readNeed_11 : decode cX3_readNeed 11 = .ok (.aload_n 0, 1) := by decide +kernel
theorem dX3_readNeed_12 : decode cX3_readNeed 12 = .ok (.getfield 18, 3) := by decide +kernel
theorem dX3_readNeed_15 : decode cX3_readNeed 15 = .ok (.iload_n 1, 1) := by decide +kernel
theorem dX3_readNeed_16 : decode cX3_readNeed 16 = .ok (.invokevirtual 101, 3) := by decide +kernel
theorem dX3_readNeed_19 : decode cX3_readNeed 19 = .ok (.iconst (-1), 1) := by decide +kernel
theorem dX3_readNeed_20 : decode cX3_readNeed 20 = .ok (.if_icmp .eq 10, 3) := by decide +kernel
theorem dX3_readNeed_23 : decode cX3_readNeed 23 = .ok (.aload_n 0, 1) := by decide +kernel
theorem dX3_readNeed_24 : decode cX3_readNeed 24 = .ok (.bipush (-5), 2) := by decide +kernel
theorem dX3_readNeed_26 : decode cX3_readNeed 26 = .ok (.invokevirtual 79, 3) := by decide +kernel
theorem dX3_readNeed_29 : decode cX3_readNeed 29 = .ok (.ireturn, 1) := by decide +kernel
theorem dX3_readNeed_30 : decode cX3_readNeed 30 = .ok (.aload_n 0, 1) := by decide +kernel
theorem dX3_readNeed_31 : decode cX3_readNeed 31 = .ok (.invokevirtual 35, 3) := by decide +kernel
theorem dX3_readNeed_34 : decode cX3_readNeed 34 = .ok (.aload_n 0, 1) := by decide +kernel
theorem dX3_readNeed_35 : decode cX3_readNeed 35 = .ok (.iconst 1, 1) := by decide +kernel
theorem dX3_readNeed_36 : decode cX3_readNeed 36 = .ok (.bipush 20, 2) := by decide +kernel
theorem dX3_readNeed_38 : decode cX3_readNeed 38 = .ok (.invokevirtual 113, 3) := by decide +kernel
theorem dX3_readNeed_41 : decode cX3_readNeed 41 = .ok (.istore_n 2, 1) := by decide +kernel
theorem dX3_readNeed_42 : decode cX3_readNeed 42 = .ok (.iload_n 2, 1) := by decide +kernel
theorem dX3_readNeed_43 : decode cX3_readNeed 43 = .ok (.iconst (-1), 1) := by decide +kernel
theorem dX3_readNeed_44 : decode cX3_readNeed 44 = .ok (.if_icmp .ne 5, 3) := by decide +kernel
theorem dX3_readNeed_47 : decode cX3_readNeed 47 = .ok (.iconst 0, 1) := by decide +kernel
theorem dX3_readNeed_48 : decode cX3_readNeed 48 = .ok (.ireturn, 1) := by decide +kernel
theorem dX3_readNeed_49 : decode cX3_readNeed 49 = .ok (.aload_n 0, 1) := by decide +kernel
theorem dX3_readNeed_50 : decode cX3_readNeed 50 = .ok (.getfield 18, 3) := by decide +kernel
theorem dX3_readNeed_53 : decode cX3_readNeed 53 = .ok (.iload_n 1, 1) := by decide +kernel
theorem dX3_readNeed_54 : decode cX3_readNeed 54 = .ok (.iload_n 2, 1) := by decide +kernel
theorem dX3_readNeed_55 : decode cX3_readNeed 55 = .ok (.invokevirtual 130, 3) := by decide +kernel
theorem dX3_readNeed_58 : decode cX3_readNeed 58 = .ok (.aload_n 0, 1) := by decide +kernel
theorem dX3_readNeed_59 : decode cX3_readNeed 59 = .ok (.invokevirtual 118, 3) := by decide +kernel
theorem dX3_readNeed_62 : decode cX3_readNeed 62 = .ok (.ireturn, 1) := by decide +kernel
theorem dX3_readMonks_0 : decode cX3_readMonks 0 = .ok (.iconst 0, 1) := by decide +kernel
theorem dX3_readMonks_1 : decode cX3_readMonks 1 = .ok (.istore_n 1, 1) := by decide +kernel
theorem dX3_readMonks_2 : decode cX3_readMonks 2 = .ok (.iload_n 1, 1) := by decide +kernel
theorem dX3_readMonks_3 : decode cX3_readMonks 3 = .ok (.bipush 12, 2) := by decide +kernel
theorem dX3_readMonks_5 : decode cX3_readMonks 5 = .ok (.if_icmp .ge 52, 3) := by decide +kernel
theorem dX3_readMonks_8 : decode cX3_readMonks 8 = .ok (.aload_n 0, 1) := by decide +kernel
theorem dX3_readMonks_9 : decode cX3_readMonks 9 = .ok (.invokevirtual 134, 3) := by decide +kernel
theorem dX3_readMonks_12 : decode cX3_readMonks 12 = .ok (.istore_n 2, 1) := by decide +kernel
theorem dX3_readMonks_13 : decode cX3_readMonks 13 = .ok (.iload_n 2, 1) := by decide +kernel
theorem dX3_readMonks_14 : decode cX3_readMonks 14 = .ok (.iconst (-1), 1) := by decide +kernel
theorem dX3_readMonks_15 : decode cX3_readMonks 15 = .ok (.if_icmp .ne 22, 3) := by decide +kernel
theorem dX3_readMonks_18 : decode cX3_readMonks 18 = .ok (.iload_n 1, 1) := by decide +kernel
theorem dX3_readMonks_19 : decode cX3_readMonks 19 = .ok (.ifCond .gt 12, 3) := by decide +kernel
theorem dX3_readMonks_22 : decode cX3_readMonks 22 = .ok (.aload_n 0, 1) := by decide +kernel
theorem dX3_readMonks_23 : decode cX3_readMonks 23 = .ok (.bipush (-2), 2) := by decide +kernel
theorem dX3_readMonks_25 : decode cX3_readMonks 25 = .ok (.invokevirtual 79, 3) := by decide +kernel
theorem dX3_readMonks_28 : decode cX3_readMonks 28 = .ok (.ifCond .eq 7, 3) := by decide +kernel
theorem dX3_readMonks_31 : decode cX3_readMonks 31 = .ok (.iconst 1, 1) := by decide +kernel
theorem dX3_readMonks_32 : decode cX3_readMonks 32 = .ok (.goto 4, 3) := by decide +kernel
theorem dX3_readMonks_35 : decode cX3_readMonks 35 = .ok (.iconst 0, 1) := by decide +kernel
theorem dX3_readMonks_36 : decode cX3_readMonks 36 = .ok (.ireturn, 1) := by decide +kernel
theorem dX3_readMonks_37 : decode cX3_readMonks 37 = .ok (.aload_n 0, 1) := by decide +kernel
theorem dX3_readMonks_38 : decode cX3_readMonks 38 = .ok (.invokevirtual 35, 3) := by decide +kernel
theorem dX3_readMonks_41 : decode cX3_readMonks 41 = .ok (.aload_n 0, 1) := by decide +kernel
theorem dX3_readMonks_42 : decode cX3_readMonks 42 = .ok (.iload_n 2, 1) := by decide +kernel
theorem dX3_readMonks_43 : decode cX3_readMonks 43 = .ok (.invokevirtual 137, 3) := by decide +kernel
theorem dX3_readMonks_46 : decode cX3_readMonks 46 = .ok (.ifCond .ne 5, 3) := by decide +kernel
theorem dX3_readMonks_49 : decode cX3_readMonks 49 = .ok (.iconst 0, 1) := by decide +kernel
theorem dX3_readMonks_50 : decode cX3_readMonks 50 = .ok (.ireturn, 1) := by decide +kernel
theorem dX3_readMonks_51 : decode cX3_readMonks 51 = .ok (.iinc 1 1, 3) := by decide +kernel
theorem dX3_readMonks_54 : decode cX3_readMonks 54 = .ok (.goto (-52), 3) := by decide +kernel
theorem dX3_readMonks_57 : decode cX3_readMonks 57 = .ok (.aload_n 0, 1) := by decide +kernel
theorem dX3_readMonks_58 : decode cX3_readMonks 58 = .ok (.invokevirtual 134, 3) := by decide +kernel
theorem dX3_readMonks_61 : decode cX3_readMonks 61 = .ok (.iconst (-1), 1) := by decide +kernel
theorem dX3_readMonks_62 : decode cX3_readMonks 62 = .ok (.if_icmp .eq 12, 3) := by decide +kernel
theorem dX3_readMonks_65 : decode cX3_readMonks 65 = .ok (.aload_n 0, 1) := by decide +kernel
theorem dX3_readMonks_66 : decode cX3_readMonks 66 = .ok (.bipush (-6), 2) := by decide +kernel
theorem dX3_readMonks_68 : decode cX3_readMonks 68 = .ok (.invokevirtual 79, 3) := by decide +kernel
theorem dX3_readMonks_71 : decode cX3_readMonks 71 = .ok (.ifCond .eq 7, 3) := by decide +kernel
theorem dX3_readMonks_74 : decode cX3_readMonks 74 = .ok (.iconst 1, 1) := by decide +kernel
theorem dX3_readMonks_75 : decode cX3_readMonks 75 = .ok (.goto 4, 3) := by decide +kernel
theorem dX3_readMonks_78 : decode cX3_readMonks 78 = .ok (.iconst 0, 1) := by decide +kernel
theorem dX3_readMonks_79 : decode cX3_readMonks 79 = .ok (.ireturn, 1) := by decide +kernel
theorem dX3_rankHere_0 : decode cX3_rankHere 0 = .ok (.aload_n 0, 1) := by decide +kernel
theorem dX3_rankHere_1 : decode cX3_rankHere 1 = .ok (.ldc 140, 2) := by decide +kernel
theorem dX3_rankHere_3 : decode cX3_rankHere 3 = .ok (.invokevirtual 72, 3) := by decide +kernel
theorem dX3_rankHere_6 : decode cX3_rankHere 6 = .ok (.ifCond .eq 5, 3) := by decide +kernel
theorem dX3_rankHere_9 : decode cX3_rankHere 9 = .ok (.iconst 0, 1) := by decide +kernel
theorem dX3_rankHere_10 : decode cX3_rankHere 10 = .ok (.ireturn, 1) := by decide +kernel
theorem dX3_rankHere_11 : decode cX3_rankHere 11 = .ok (.aload_n 0, 1) := by decide +kernel
theorem dX3_rankHere_12 : decode cX3_rankHere 12 = .ok (.ldc 142, 2) := by decide +kernel
theorem dX3_rankHere_14 : decode cX3_rankHere 14 = .ok (.invokevirtual 72, 3) := by decide +kernel
theorem dX3_rankHere_17 : decode cX3_rankHere 17 = .ok (.ifCond .eq 5, 3) := by decide +kernel
theorem dX3_rankHere_20 : decode cX3_rankHere 20 = .ok (.iconst 1, 1) := by decide +kernel
theorem dX3_rankHere_21 : decode cX3_rankHere 21 = .ok (.ireturn, 1) := by decide +kernel
theorem dX3_rankHere_22 : decode cX3_rankHere 22 = .ok (.aload_n 0, 1) := by decide +kernel
theorem dX3_rankHere_23 : decode cX3_rankHere 23 = .ok (.ldc 144, 2) := by decide +kernel
theorem dX3_rankHere_25 : decode cX3_rankHere 25 = .ok (.invokevirtual 72, 3) := by decide +kernel
theorem dX3_rankHere_28 : decode cX3_rankHere 28 = .ok (.ifCond .eq 7, 3) := by decide +kernel
theorem dX3_rankHere_31 : decode cX3_rankHere 31 = .ok (.iconst 2, 1) := by decide +kernel
theorem dX3_rankHere_32 : decode cX3_rankHere 32 = .ok (.goto 4, 3) := by decide +kernel
theorem dX3_rankHere_35 : decode cX3_rankHere 35 = .ok (.iconst (-1), 1) := by decide +kernel
theorem dX3_rankHere_36 : decode cX3_rankHere 36 = .ok (.ireturn, 1) := by decide +kernel
theorem dX3_readMonk_0 : decode cX3_readMonk 0 = .ok (.aload_n 0, 1) := by decide +kernel
theorem dX3_readMonk_1 : decode cX3_readMonk 1 = .ok (.invokevirtual 94, 3) := by decide +kernel
theorem dX3_readMonk_4 : decode cX3_readMonk 4 = .ok (.istore_n 2, 1) := by decide +kernel
theorem dX3_readMonk_5 : decode cX3_readMonk 5 = .ok (.iload_n 2, 1) := by decide +kernel
theorem dX3_readMonk_6 : decode cX3_readMonk 6 = .ok (.ifCond .ne 5, 3) := by decide +kernel
theorem dX3_readMonk_9 : decode cX3_readMonk 9 = .ok (.iconst 0, 1) := by decide +kernel
theorem dX3_readMonk_10 : decode cX3_readMonk 10 = .ok (.ireturn, 1) := by decide +kernel
theorem dX3_readMonk_11 : decode cX3_readMonk 11 = .ok (.aload_n 0, 1) := by decide +kernel
theorem dX3_readMonk_12 : decode cX3_readMonk 12 = .ok (.getfield 18, 3) := by decide +kernel
theorem dX3_readMonk_15 : decode cX3_readMonk 15 = .ok (.iload_n 2, 1) := by decide +kernel
theorem dX3_readMonk_16 : decode cX3_readMonk 16 = .ok (.invokevirtual 97, 3) := by decide +kernel
theorem dX3_readMonk_19 : decode cX3_readMonk 19 = .ok (.iconst (-1), 1) := by decide +kernel
theorem dX3_readMonk_20 : decode cX3_readMonk 20 = .ok (.if_icmp .eq 10, 3) := by decide +kernel
theorem dX3_readMonk_23 : decode cX3_readMonk 23 = .ok (.aload_n 0, 1) := by decide +kernel
theorem dX3_readMonk_24 : decode cX3_readMonk 24 = .ok (.bipush (-5), 2) := by decide +kernel
theorem dX3_readMonk_26 : decode cX3_readMonk 26 = .ok (.invokevirtual 79, 3) := by decide +kernel
theorem dX3_readMonk_29 : decode cX3_readMonk 29 = .ok (.ireturn, 1) := by decide +kernel
theorem dX3_readMonk_30 : decode cX3_readMonk 30 = .ok (.aload_n 0, 1) := by decide +kernel
theorem dX3_readMonk_31 : decode cX3_readMonk 31 = .ok (.invokevirtual 35, 3) := by decide +kernel
theorem dX3_readMonk_34 : decode cX3_readMonk 34 = .ok (.iconst 0, 1) := by decide +kernel
theorem dX3_readMonk_35 : decode cX3_readMonk 35 = .ok (.istore_n 3, 1) := by decide +kernel
theorem dX3_readMonk_36 : decode cX3_readMonk 36 = .ok (.iconst 0, 1) := by decide +kernel
theorem dX3_readMonk_37 : decode cX3_readMonk 37 = .ok (.istore 4, 2) := by decide +kernel
theorem dX3_readMonk_39 : decode cX3_readMonk 39 = .ok (.iload 4, 2) := by decide +kernel
theorem dX3_readMonk_41 : decode cX3_readMonk 41 = .ok (.bipush 8, 2) := by decide +kernel
theorem dX3_readMonk_43 : decode cX3_readMonk 43 = .ok (.if_icmp .gt 40, 3) := by decide +kernel
theorem dX3_readMonk_46 : decode cX3_readMonk 46 = .ok (.aload_n 0, 1) := by decide +kernel
theorem dX3_readMonk_47 : decode cX3_readMonk 47 = .ok (.invokevirtual 76, 3) := by decide +kernel
theorem dX3_readMonk_50 : decode cX3_readMonk 50 = .ok (.bipush 59, 2) := by decide +kernel
theorem dX3_readMonk_52 : decode cX3_readMonk 52 = .ok (.if_icmp .eq 31, 3) := by decide +kernel
theorem dX3_readMonk_55 : decode cX3_readMonk 55 = .ok (.aload_n 0, 1) := by decide +kernel
theorem dX3_readMonk_56 : decode cX3_readMonk 56 = .ok (.iload_n 3, 1) := by decide +kernel
theorem dX3_readMonk_57 : decode cX3_readMonk 57 = .ok (.invokevirtual 146, 3) := by decide +kernel
theorem dX3_readMonk_60 : decode cX3_readMonk 60 = .ok (.istore 5, 2) := by decide +kernel
theorem dX3_readMonk_62 : decode cX3_readMonk 62 = .ok (.iload 5, 2) := by decide +kernel
theorem dX3_readMonk_64 : decode cX3_readMonk 64 = .ok (.iconst (-1), 1) := by decide +kernel
theorem dX3_readMonk_65 : decode cX3_readMonk 65 = .ok (.if_icmp .ne 5, 3) := by decide +kernel
theorem dX3_readMonk_68 : decode cX3_readMonk 68 = .ok (.iconst 0, 1) := by decide +kernel
theorem dX3_readMonk_69 : decode cX3_readMonk 69 = .ok (.ireturn, 1) := by decide +kernel
theorem dX3_readMonk_70 : decode cX3_readMonk 70 = .ok (.iload_n 3, 1) := by decide +kernel
theorem dX3_readMonk_71 : decode cX3_readMonk 71 = .ok (.iconst 1, 1) := by decide +kernel
theorem dX3_readMonk_72 : decode cX3_readMonk 72 = .ok (.iload 5, 2) := by decide +kernel
theorem dX3_readMonk_74 : decode cX3_readMonk 74 = .ok (.ishl, 1) := by decide +kernel
theorem dX3_readMonk_75 : decode cX3_readMonk 75 = .ok (.ior, 1) := by decide +kernel
theorem dX3_readMonk_76 : decode cX3_readMonk 76 = .ok (.istore_n 3, 1) := by decide +kernel
theorem dX3_readMonk_77 : decode cX3_readMonk 77 = .ok (.iinc 4 1, 3) := by decide +kernel
theorem dX3_readMonk_80 : decode cX3_readMonk 80 = .ok (.goto (-41), 3) := by decide +kernel
theorem dX3_readMonk_83 : decode cX3_readMonk 83 = .ok (.aload_n 0, 1) := by decide +kernel
theorem dX3_readMonk_84 : decode cX3_readMonk 84 = .ok (.getfield 18, 3) := by decide +kernel
theorem dX3_readMonk_87 : decode cX3_readMonk 87 = .ok (.iload_n 2, 1) := by decide +kernel
theorem dX3_readMonk_88 : decode cX3_readMonk 88 = .ok (.iload_n 1, 1) := by decide +kernel
theorem dX3_readMonk_89 : decode cX3_readMonk 89 = .ok (.iload_n 3, 1) := by decide +kernel
theorem dX3_readMonk_90 : decode cX3_readMonk 90 = .ok (.invokevirtual 149, 3) := by decide +kernel
theorem dX3_readMonk_93 : decode cX3_readMonk 93 = .ok (.aload_n 0, 1) := by decide +kernel
theorem dX3_readMonk_94 : decode cX3_readMonk 94 = .ok (.invokevirtual 118, 3) := by decide +kernel
theorem dX3_readMonk_97 : decode cX3_readMonk 97 = .ok (.ireturn, 1) := by decide +kernel
theorem dX3_readBells_0 : decode cX3_readBells 0 = .ok (.iconst 0, 1) := by decide +kernel
theorem dX3_readBells_1 : decode cX3_readBells 1 = .ok (.istore_n 1, 1) := by decide +kernel
theorem dX3_readBells_2 : decode cX3_readBells 2 = .ok (.iload_n 1, 1) := by decide +kernel
theorem dX3_readBells_3 : decode cX3_readBells 3 = .ok (.sipush 800, 3) := by decide +kernel
theorem dX3_readBells_6 : decode cX3_readBells 6 = .ok (.if_icmp .ge 27, 3) := by decide +kernel
theorem dX3_readBells_9 : decode cX3_readBells 9 = .ok (.aload_n 0, 1) := by decide +kernel
theorem dX3_readBells_10 : decode cX3_readBells 10 = .ok (.ldc 153, 2) := by decide +kernel
theorem dX3_readBells_12 : decode cX3_readBells 12 = .ok (.invokevirtual 110, 3) := by decide +kernel
theorem dX3_readBells_15 : decode cX3_readBells 15 = .ok (.ifCond .eq 18, 3) := by decide +kernel
theorem dX3_readBells_18 : decode cX3_readBells 18 = .ok (.aload_n 0, 1) := by decide +kernel
theorem dX3_readBells_19 : decode cX3_readBells 19 = .ok (.invokevirtual 155, 3) := by decide +kernel
theorem dX3_readBells_22 : decode cX3_readBells 22 = .ok (.ifCond .ne 5, 3) := by decide +kernel
theorem dX3_readBells_25 : decode cX3_readBells 25 = .ok (.iconst 0, 1) := by decide +kernel
theorem dX3_readBells_26 : decode cX3_readBells 26 = .ok (.ireturn, 1) := by decide +kernel
theorem dX3_readBells_27 : decode cX3_readBells 27 = .ok (.iinc 1 1, 3) := by decide +kernel
theorem dX3_readBells_30 : decode cX3_readBells 30 = .ok (.goto (-28), 3) := by decide +kernel
theorem dX3_readBells_33 : decode cX3_readBells 33 = .ok (.iconst 1, 1) := by decide +kernel
theorem dX3_readBells_34 : decode cX3_readBells 34 = .ok (.ireturn, 1) := by decide +kernel
theorem dX3_readBell_0 : decode cX3_readBell 0 = .ok (.aload_n 0, 1) := by decide +kernel
theorem dX3_readBell_1 : decode cX3_readBell 1 = .ok (.iconst 0, 1) := by decide +kernel
theorem dX3_readBell_2 : decode cX3_readBell 2 = .ok (.bipush 23, 2) := by decide +kernel
theorem dX3_readBell_4 : decode cX3_readBell 4 = .ok (.invokevirtual 113, 3) := by decide +kernel
theorem dX3_readBell_7 : decode cX3_readBell 7 = .ok (.istore_n 1, 1) := by decide +kernel
theorem dX3_readBell_8 : decode cX3_readBell 8 = .ok (.iload_n 1, 1) := by decide +kernel
theorem dX3_readBell_9 : decode cX3_readBell 9 = .ok (.iconst (-1), 1) := by decide +kernel
theorem dX3_readBell_10 : decode cX3_readBell 10 = .ok (.if_icmp .ne 5, 3) := by decide +kernel
theorem dX3_readBell_13 : decode cX3_readBell 13 = .ok (.iconst 0, 1) := by decide +kernel
theorem dX3_readBell_14 : decode cX3_readBell 14 = .ok (.ireturn, 1) := by decide +kernel
theorem dX3_readBell_15 : decode cX3_readBell 15 = .ok (.aload_n 0, 1) := by decide +kernel
theorem dX3_readBell_16 : decode cX3_readBell 16 = .ok (.ldc 158, 2) := by decide +kernel
theorem dX3_readBell_18 : decode cX3_readBell 18 = .ok (.invokevirtual 110, 3) := by decide +kernel
theorem dX3_readBell_21 : decode cX3_readBell 21 = .ok (.ifCond .eq 16, 3) := by decide +kernel
theorem dX3_readBell_24 : decode cX3_readBell 24 = .ok (.aload_n 0, 1) := by decide +kernel
theorem dX3_readBell_25 : decode cX3_readBell 25 = .ok (.getfield 18, 3) := by decide +kernel
theorem dX3_readBell_28 : decode cX3_readBell 28 = .ok (.getfield 160, 3) := by decide +kernel
theorem dX3_readBell_31 : decode cX3_readBell 31 = .ok (.iload_n 1, 1) := by decide +kernel
theorem dX3_readBell_32 : decode cX3_readBell 32 = .ok (.iconst 2, 1) := by decide +kernel
theorem dX3_readBell_33 : decode cX3_readBell 33 = .ok (.iastore, 1) := by decide +kernel
theorem dX3_readBell_34 : decode cX3_readBell 34 = .ok (.goto 32, 3) := by decide +kernel
theorem dX3_readBell_37 : decode cX3_readBell 37 = .ok (.aload_n 0, 1) := by decide +kernel
theorem dX3_readBell_38 : decode cX3_readBell 38 = .ok (.ldc 163, 2) := by decide +kernel
theorem dX3_readBell_40 : decode cX3_readBell 40 = .ok (.invokevirtual 110, 3) := by decide +kernel
theorem dX3_readBell_43 : decode cX3_readBell 43 = .ok (.ifCond .eq 16, 3) := by decide +kernel
theorem dX3_readBell_46 : decode cX3_readBell 46 = .ok (.aload_n 0, 1) := by decide +kernel
theorem dX3_readBell_47 : decode cX3_readBell 47 = .ok (.getfield 18, 3) := by decide +kernel
theorem dX3_readBell_50 : decode cX3_readBell 50 = .ok (.getfield 160, 3) := by decide +kernel
theorem dX3_readBell_53 : decode cX3_readBell 53 = .ok (.iload_n 1, 1) := by decide +kernel
theorem dX3_readBell_54 : decode cX3_readBell 54 = .ok (.iconst 1, 1) := by decide +kernel
theorem dX3_readBell_55 : decode cX3_readBell 55 = .ok (.iastore, 1) := by decide +kernel
theorem dX3_readBell_56 : decode cX3_readBell 56 = .ok (.goto 10, 3) := by decide +kernel
theorem dX3_readBell_59 : decode cX3_readBell 59 = .ok (.aload_n 0, 1) := by decide +kernel
theorem dX3_readBell_60 : decode cX3_readBell 60 = .ok (.bipush (-2), 2) := by decide +kernel
theorem dX3_readBell_62 : decode cX3_readBell 62 = .ok (.invokevirtual 79, 3) := by decide +kernel
theorem dX3_readBell_65 : decode cX3_readBell 65 = .ok (.ireturn, 1) := by decide +kernel
theorem dX3_readBell_66 : decode cX3_readBell 66 = .ok (.aload_n 0, 1) := by decide +kernel
theorem dX3_readBell_67 : decode cX3_readBell 67 = .ok (.invokevirtual 118, 3) := by decide +kernel
theorem dX3_readBell_70 : decode cX3_readBell 70 = .ok (.ireturn, 1) := by decide +kernel
theorem dX3_readDeed_0 : decode cX3_readDeed 0 = .ok (.aload_n 0, 1) := by decide +kernel
theorem dX3_readDeed_1 : decode cX3_readDeed 1 = .ok (.ldc 165, 2) := by decide +kernel
theorem dX3_readDeed_3 : decode cX3_readDeed 3 = .ok (.invokevirtual 110, 3) := by decide +kernel
theorem dX3_readDeed_6 : decode cX3_readDeed 6 = .ok (.ifCond .eq 8, 3) := by decide +kernel
theorem dX3_readDeed_9 : decode cX3_readDeed 9 = .ok (.aload_n 0, 1) := by decide +kernel
theorem dX3_readDeed_10 : decode cX3_readDeed 10 = .ok (.invokevirtual 167, 3) := by decide +kernel
theorem dX3_readDeed_13 : decode cX3_readDeed 13 = .ok (.ireturn, 1) := by decide +kernel
theorem dX3_readDeed_14 : decode cX3_readDeed 14 = .ok (.aload_n 0, 1) := by decide +kernel
theorem dX3_readDeed_15 : decode cX3_readDeed 15 = .ok (.ldc 170, 2) := by decide +kernel
theorem dX3_readDeed_17 : decode cX3_readDeed 17 = .ok (.invokevirtual 110, 3) := by decide +kernel
theorem dX3_readDeed_20 : decode cX3_readDeed 20 = .ok (.ifCond .eq 8, 3) := by decide +kernel
theorem dX3_readDeed_23 : decode cX3_readDeed 23 = .ok (.aload_n 0, 1) := by decide +kernel
theorem dX3_readDeed_24 : decode cX3_readDeed 24 = .ok (.invokevirtual 172, 3) := by decide +kernel
theorem dX3_readDeed_27 : decode cX3_readDeed 27 = .ok (.ireturn, 1) := by decide +kernel
theorem dX3_readDeed_28 : decode cX3_readDeed 28 = .ok (.aload_n 0, 1) := by decide +kernel
theorem dX3_readDeed_29 : decode cX3_readDeed 29 = .ok (.ldc 175, 2) := by decide +kernel
theorem dX3_readDeed_31 : decode cX3_readDeed 31 = .ok (.invokevirtual 110, 3) := by decide +kernel
theorem dX3_readDeed_34 : decode cX3_readDeed 34 = .ok (.ifCond .eq 8, 3) := by decide +kernel
theorem dX3_readDeed_37 : decode cX3_readDeed 37 = .ok (.aload_n 0, 1) := by decide +kernel
theorem dX3_readDeed_38 : decode cX3_readDeed 38 = .ok (.invokevirtual 177, 3) := by decide +kernel
theorem dX3_readDeed_41 : decode cX3_readDeed 41 = .ok (.ireturn, 1) := by decide +kernel
theorem dX3_readDeed_42 : decode cX3_readDeed 42 = .ok (.aload_n 0, 1) := by decide +kernel
theorem dX3_readDeed_43 : decode cX3_readDeed 43 = .ok (.ldc 180, 2) := by decide +kernel
theorem dX3_readDeed_45 : decode cX3_readDeed 45 = .ok (.invokevirtual 110, 3) := by decide +kernel
theorem dX3_readDeed_48 : decode cX3_readDeed 48 = .ok (.ifCond .eq 10, 3) := by decide +kernel
theorem dX3_readDeed_51 : decode cX3_readDeed 51 = .ok (.aload_n 0, 1) := by decide +kernel
theorem dX3_readDeed_52 : decode cX3_readDeed 52 = .ok (.invokevirtual 182, 3) := by decide +kernel
theorem dX3_readDeed_55 : decode cX3_readDeed 55 = .ok (.goto 9, 3) := by decide +kernel
theorem dX3_readDeed_58 : decode cX3_readDeed 58 = .ok (.aload_n 0, 1) := by decide +kernel
theorem dX3_readDeed_59 : decode cX3_readDeed 59 = .ok (.bipush (-2), 2) := by decide +kernel
theorem dX3_readDeed_61 : decode cX3_readDeed 61 = .ok (.invokevirtual 79, 3) := by decide +kernel
theorem dX3_readDeed_64 : decode cX3_readDeed 64 = .ok (.ireturn, 1) := by decide +kernel
theorem dX3_readWant_0 : decode cX3_readWant 0 = .ok (.aload_n 0, 1) := by decide +kernel
theorem dX3_readWant_1 : decode cX3_readWant 1 = .ok (.iconst (-1), 1) := by decide +kernel
theorem dX3_readWant_2 : decode cX3_readWant 2 = .ok (.invokevirtual 185, 3) := by decide +kernel
theorem dX3_readWant_5 : decode cX3_readWant 5 = .ok (.istore_n 1, 1) := by decide +kernel
theorem dX3_readWant_6 : decode cX3_readWant 6 = .ok (.iload_n 1, 1) := by decide +kernel
theorem dX3_readWant_7 : decode cX3_readWant 7 = .ok (.iconst (-1), 1) := by decide +kernel
theorem dX3_readWant_8 : decode cX3_readWant 8 = .ok (.if_icmp .ne 5, 3) := by decide +kernel
theorem dX3_readWant_11 : decode cX3_readWant 11 = .ok (.iconst 0, 1) := by decide +kernel
theorem dX3_readWant_12 : decode cX3_readWant 12 = .ok (.ireturn, 1) := by decide +kernel
theorem dX3_readWant_13 : decode cX3_readWant 13 = .ok (.aload_n 0, 1) := by decide +kernel
theorem dX3_readWant_14 : decode cX3_readWant 14 = .ok (.iconst 0, 1) := by decide +kernel
theorem dX3_readWant_15 : decode cX3_readWant 15 = .ok (.invokevirtual 146, 3) := by decide +kernel
theorem dX3_readWant_18 : decode cX3_readWant 18 = .ok (.istore_n 2, 1) := by decide +kernel
theorem dX3_readWant_19 : decode cX3_readWant 19 = .ok (.iload_n 2, 1) := by decide +kernel
theorem dX3_readWant_20 : decode cX3_readWant 20 = .ok (.iconst (-1), 1) := by decide +kernel
theorem dX3_readWant_21 : decode cX3_readWant 21 = .ok (.if_icmp .eq 19, 3) := by decide +kernel
theorem dX3_readWant_24 : decode cX3_readWant 24 = .ok (.aload_n 0, 1) := by decide +kernel
theorem dX3_readWant_25 : decode cX3_readWant 25 = .ok (.aload_n 0, 1) := by decide +kernel
theorem dX3_readWant_26 : decode cX3_readWant 26 = .ok (.getfield 18, 3) := by decide +kernel
theorem dX3_readWant_29 : decode cX3_readWant 29 = .ok (.iload_n 1, 1) := by decide +kernel
theorem dX3_readWant_30 : decode cX3_readWant 30 = .ok (.iload_n 2, 1) := by decide +kernel
theorem dX3_readWant_31 : decode cX3_readWant 31 = .ok (.invokevirtual 188, 3) := by decide +kernel
theorem dX3_readWant_34 : decode cX3_readWant 34 = .ok (.invokevirtual 191, 3) := by decide +kernel
theorem dX3_readWant_37 : decode cX3_readWant 37 = .ok (.ifCond .ne 5, 3) := by decide +kernel
theorem dX3_readWant_40 : decode cX3_readWant 40 = .ok (.iconst 0, 1) := by decide +kernel
theorem dX3_readWant_41 : decode cX3_readWant 41 = .ok (.ireturn, 1) := by decide +kernel
theorem dX3_readWant_42 : decode cX3_readWant 42 = .ok (.aload_n 0, 1) := by decide +kernel
theorem dX3_readWant_43 : decode cX3_readWant 43 = .ok (.getfield 18, 3) := by decide +kernel
theorem dX3_readWant_46 : decode cX3_readWant 46 = .ok (.iload_n 1, 1) := by decide +kernel
theorem dX3_readWant_47 : decode cX3_readWant 47 = .ok (.iload_n 2, 1) := by decide +kernel
theorem dX3_readWant_48 : decode cX3_readWant 48 = .ok (.invokevirtual 194, 3) := by decide +kernel
theorem dX3_readWant_51 : decode cX3_readWant 51 = .ok (.pop, 1) := by decide +kernel
theorem dX3_readWant_52 : decode cX3_readWant 52 = .ok (.iconst 1, 1) := by decide +kernel
theorem dX3_readWant_53 : decode cX3_readWant 53 = .ok (.ireturn, 1) := by decide +kernel
theorem dX3_readTell_0 : decode cX3_readTell 0 = .ok (.aload_n 0, 1) := by decide +kernel
theorem dX3_readTell_1 : decode cX3_readTell 1 = .ok (.iconst (-1), 1) := by decide +kernel
theorem dX3_readTell_2 : decode cX3_readTell 2 = .ok (.invokevirtual 185, 3) := by decide +kernel
theorem dX3_readTell_5 : decode cX3_readTell 5 = .ok (.istore_n 1, 1) := by decide +kernel
theorem dX3_readTell_6 : decode cX3_readTell 6 = .ok (.iload_n 1, 1) := by decide +kernel
theorem dX3_readTell_7 : decode cX3_readTell 7 = .ok (.iconst (-1), 1) := by decide +kernel
theorem dX3_readTell_8 : decode cX3_readTell 8 = .ok (.if_icmp .ne 5, 3) := by decide +kernel
theorem dX3_readTell_11 : decode cX3_readTell 11 = .ok (.iconst 0, 1) := by decide +kernel
theorem dX3_readTell_12 : decode cX3_readTell 12 = .ok (.ireturn, 1) := by decide +kernel
theorem dX3_readTell_13 : decode cX3_readTell 13 = .ok (.aload_n 0, 1) := by decide +kernel
theorem dX3_readTell_14 : decode cX3_readTell 14 = .ok (.iload_n 1, 1) := by decide +kernel
theorem dX3_readTell_15 : decode cX3_readTell 15 = .ok (.invokevirtual 185, 3) := by decide +kernel
theorem dX3_readTell_18 : decode cX3_readTell 18 = .ok (.istore_n 2, 1) := by decide +kernel
theorem dX3_readTell_19 : decode cX3_readTell 19 = .ok (.iload_n 2, 1) := by decide +kernel
theorem dX3_readTell_20 : decode cX3_readTell 20 = .ok (.iconst (-1), 1) := by decide +kernel
theorem dX3_readTell_21 : decode cX3_readTell 21 = .ok (.if_icmp .ne 5, 3) := by decide +kernel
theorem dX3_readTell_24 : decode cX3_readTell 24 = .ok (.iconst 0, 1) := by decide +kernel
theorem dX3_readTell_25 : decode cX3_readTell 25 = .ok (.ireturn, 1) := by decide +kernel
theorem dX3_readTell_26 : decode cX3_readTell 26 = .ok (.aload_n 0, 1) := by decide +kernel
theorem dX3_readTell_27 : decode cX3_readTell 27 = .ok (.iconst 0, 1) := by decide +kernel
theorem dX3_readTell_28 : decode cX3_readTell 28 = .ok (.invokevirtual 146, 3) := by decide +kernel
theorem dX3_readTell_31 : decode cX3_readTell 31 = .ok (.istore_n 3, 1) := by decide +kernel
theorem dX3_readTell_32 : decode cX3_readTell 32 = .ok (.iload_n 3, 1) := by decide +kernel
theorem dX3_readTell_33 : decode cX3_readTell 33 = .ok (.iconst (-1), 1) := by decide +kernel
theorem dX3_readTell_34 : decode cX3_readTell 34 = .ok (.if_icmp .ne 5, 3) := by decide +kernel
theorem dX3_readTell_37 : decode cX3_readTell 37 = .ok (.iconst 0, 1) := by decide +kernel
theorem dX3_readTell_38 : decode cX3_readTell 38 = .ok (.ireturn, 1) := by decide +kernel
theorem dX3_readTell_39 : decode cX3_readTell 39 = .ok (.aload_n 0, 1) := by decide +kernel
theorem dX3_readTell_40 : decode cX3_readTell 40 = .ok (.invokevirtual 197, 3) := by decide +kernel
theorem dX3_readTell_43 : decode cX3_readTell 43 = .ok (.istore 4, 2) := by decide +kernel
theorem dX3_readTell_45 : decode cX3_readTell 45 = .ok (.iload 4, 2) := by decide +kernel
theorem dX3_readTell_47 : decode cX3_readTell 47 = .ok (.iconst (-1), 1) := by decide +kernel
theorem dX3_readTell_48 : decode cX3_readTell 48 = .ok (.if_icmp .ne 10, 3) := by decide +kernel
theorem dX3_readTell_51 : decode cX3_readTell 51 = .ok (.aload_n 0, 1) := by decide +kernel
theorem dX3_readTell_52 : decode cX3_readTell 52 = .ok (.bipush (-2), 2) := by decide +kernel
theorem dX3_readTell_54 : decode cX3_readTell 54 = .ok (.invokevirtual 79, 3) := by decide +kernel
theorem dX3_readTell_57 : decode cX3_readTell 57 = .ok (.ireturn, 1) := by decide +kernel
theorem dX3_readTell_58 : decode cX3_readTell 58 = .ok (.aload_n 0, 1) := by decide +kernel
theorem dX3_readTell_59 : decode cX3_readTell 59 = .ok (.invokevirtual 35, 3) := by decide +kernel
theorem dX3_readTell_62 : decode cX3_readTell 62 = .ok (.aload_n 0, 1) := by decide +kernel
theorem dX3_readTell_63 : decode cX3_readTell 63 = .ok (.aload_n 0, 1) := by decide +kernel
theorem dX3_readTell_64 : decode cX3_readTell 64 = .ok (.getfield 18, 3) := by decide +kernel
theorem dX3_readTell_67 : decode cX3_readTell 67 = .ok (.iload_n 1, 1) := by decide +kernel
theorem dX3_readTell_68 : decode cX3_readTell 68 = .ok (.iload_n 2, 1) := by decide +kernel
theorem dX3_readTell_69 : decode cX3_readTell 69 = .ok (.iload_n 3, 1) := by decide +kernel
theorem dX3_readTell_70 : decode cX3_readTell 70 = .ok (.iload 4, 2) := by decide +kernel
theorem dX3_readTell_72 : decode cX3_readTell 72 = .ok (.invokevirtual 200, 3) := by decide +kernel
theorem dX3_readTell_75 : decode cX3_readTell 75 = .ok (.invokevirtual 191, 3) := by decide +kernel
theorem dX3_readTell_78 : decode cX3_readTell 78 = .ok (.ifCond .ne 5, 3) := by decide +kernel
theorem dX3_readTell_81 : decode cX3_readTell 81 = .ok (.iconst 0, 1) := by decide +kernel
theorem dX3_readTell_82 : decode cX3_readTell 82 = .ok (.ireturn, 1) := by decide +kernel
theorem dX3_readTell_83 : decode cX3_readTell 83 = .ok (.aload_n 0, 1) := by decide +kernel
theorem dX3_readTell_84 : decode cX3_readTell 84 = .ok (.getfield 18, 3) := by decide +kernel
theorem dX3_readTell_87 : decode cX3_readTell 87 = .ok (.iload_n 1, 1) := by decide +kernel
theorem dX3_readTell_88 : decode cX3_readTell 88 = .ok (.iload_n 2, 1) := by decide +kernel
theorem dX3_readTell_89 : decode cX3_readTell 89 = .ok (.iload_n 3, 1) := by decide +kernel
theorem dX3_readTell_90 : decode cX3_readTell 90 = .ok (.iload 4, 2) := by decide +kernel
theorem dX3_readTell_92 : decode cX3_readTell 92 = .ok (.invokevirtual 204, 3) := by decide +kernel
theorem dX3_readTell_95 : decode cX3_readTell 95 = .ok (.pop, 1) := by decide +kernel
theorem dX3_readTell_96 : decode cX3_readTell 96 = .ok (.iconst 1, 1) := by decide +kernel
theorem dX3_readTell_97 : decode cX3_readTell 97 = .ok (.ireturn, 1) := by decide +kernel
theorem dX3_wayHere_0 : decode cX3_wayHere 0 = .ok (.aload_n 0, 1) := by decide +kernel
theorem dX3_wayHere_1 : decode cX3_wayHere 1 = .ok (.ldc 207, 2) := by decide +kernel
theorem dX3_wayHere_3 : decode cX3_wayHere 3 = .ok (.invokevirtual 72, 3) := by decide +kernel
theorem dX3_wayHere_6 : decode cX3_wayHere 6 = .ok (.ifCond .eq 5, 3) := by decide +kernel
theorem dX3_wayHere_9 : decode cX3_wayHere 9 = .ok (.iconst 0, 1) := by decide +kernel
theorem dX3_wayHere_10 : decode cX3_wayHere 10 = .ok (.ireturn, 1) := by decide +kernel
theorem dX3_wayHere_11 : decode cX3_wayHere 11 = .ok (.aload_n 0, 1) := by decide +kernel
theorem dX3_wayHere_12 : decode cX3_wayHere 12 = .ok (.ldc 209, 2) := by decide +kernel
theorem dX3_wayHere_14 : decode cX3_wayHere 14 = .ok (.invokevirtual 72, 3) := by decide +kernel
theorem dX3_wayHere_17 : decode cX3_wayHere 17 = .ok (.ifCond .eq 5, 3) := by decide +kernel
theorem dX3_wayHere_20 : decode cX3_wayHere 20 = .ok (.iconst 1, 1) := by decide +kernel
theorem dX3_wayHere_21 : decode cX3_wayHere 21 = .ok (.ireturn, 1) := by decide +kernel
theorem dX3_wayHere_22 : decode cX3_wayHere 22 = .ok (.aload_n 0, 1) := by decide +kernel
theorem dX3_wayHere_23 : decode cX3_wayHere 23 = .ok (.ldc 211, 2) := by decide +kernel
theorem dX3_wayHere_25 : decode cX3_wayHere 25 = .ok (.invokevirtual 72, 3) := by decide +kernel
theorem dX3_wayHere_28 : decode cX3_wayHere 28 = .ok (.ifCond .eq 7, 3) := by decide +kernel
theorem dX3_wayHere_31 : decode cX3_wayHere 31 = .ok (.iconst 2, 1) := by decide +kernel
theorem dX3_wayHere_32 : decode cX3_wayHere 32 = .ok (.goto 4, 3) := by decide +kernel
theorem dX3_wayHere_35 : decode cX3_wayHere 35 = .ok (.iconst (-1), 1) := by decide +kernel
theorem dX3_wayHere_36 : decode cX3_wayHere 36 = .ok (.ireturn, 1) := by decide +kernel
theorem dX3_readGive_0 : decode cX3_readGive 0 = .ok (.aload_n 0, 1) := by decide +kernel
theorem dX3_readGive_1 : decode cX3_readGive 1 = .ok (.iconst (-1), 1) := by decide +kernel
theorem dX3_readGive_2 : decode cX3_readGive 2 = .ok (.invokevirtual 185, 3) := by decide +kernel
theorem dX3_readGive_5 : decode cX3_readGive 5 = .ok (.istore_n 1, 1) := by decide +kernel
theorem dX3_readGive_6 : decode cX3_readGive 6 = .ok (.iload_n 1, 1) := by decide +kernel
theorem dX3_readGive_7 : decode cX3_readGive 7 = .ok (.iconst (-1), 1) := by decide +kernel
theorem dX3_readGive_8 : decode cX3_readGive 8 = .ok (.if_icmp .ne 5, 3) := by decide +kernel
theorem dX3_readGive_11 : decode cX3_readGive 11 = .ok (.iconst 0, 1) := by decide +kernel
theorem dX3_readGive_12 : decode cX3_readGive 12 = .ok (.ireturn, 1) := by decide +kernel
theorem dX3_readGive_13 : decode cX3_readGive 13 = .ok (.aload_n 0, 1) := by decide +kernel
theorem dX3_readGive_14 : decode cX3_readGive 14 = .ok (.iload_n 1, 1) := by decide +kernel
theorem dX3_readGive_15 : decode cX3_readGive 15 = .ok (.invokevirtual 185, 3) := by decide +kernel
theorem dX3_readGive_18 : decode cX3_readGive 18 = .ok (.istore_n 2, 1) := by decide +kernel
theorem dX3_readGive_19 : decode cX3_readGive 19 = .ok (.iload_n 2, 1) := by decide +kernel
theorem dX3_readGive_20 : decode cX3_readGive 20 = .ok (.iconst (-1), 1) := by decide +kernel
theorem dX3_readGive_21 : decode cX3_readGive 21 = .ok (.if_icmp .ne 5, 3) := by decide +kernel
theorem dX3_readGive_24 : decode cX3_readGive 24 = .ok (.iconst 0, 1) := by decide +kernel
theorem dX3_readGive_25 : decode cX3_readGive 25 = .ok (.ireturn, 1) := by decide +kernel
theorem dX3_readGive_26 : decode cX3_readGive 26 = .ok (.aload_n 0, 1) := by decide +kernel
theorem dX3_readGive_27 : decode cX3_readGive 27 = .ok (.iconst 1, 1) := by decide +kernel
theorem dX3_readGive_28 : decode cX3_readGive 28 = .ok (.bipush 50, 2) := by decide +kernel
theorem dX3_readGive_30 : decode cX3_readGive 30 = .ok (.invokevirtual 113, 3) := by decide +kernel
theorem dX3_readGive_33 : decode cX3_readGive 33 = .ok (.istore_n 3, 1) := by decide +kernel
theorem dX3_readGive_34 : decode cX3_readGive 34 = .ok (.iload_n 3, 1) := by decide +kernel
theorem dX3_readGive_35 : decode cX3_readGive 35 = .ok (.iconst (-1), 1) := by decide +kernel
theorem dX3_readGive_36 : decode cX3_readGive 36 = .ok (.if_icmp .eq 20, 3) := by decide +kernel
theorem dX3_readGive_39 : decode cX3_readGive 39 = .ok (.aload_n 0, 1) := by decide +kernel
theorem dX3_readGive_40 : decode cX3_readGive 40 = .ok (.aload_n 0, 1) := by decide +kernel
theorem dX3_readGive_41 : decode cX3_readGive 41 = .ok (.getfield 18, 3) := by decide +kernel
theorem dX3_readGive_44 : decode cX3_readGive 44 = .ok (.iload_n 1, 1) := by decide +kernel
theorem dX3_readGive_45 : decode cX3_readGive 45 = .ok (.iload_n 2, 1) := by decide +kernel
theorem dX3_readGive_46 : decode cX3_readGive 46 = .ok (.iload_n 3, 1) := by decide +kernel
theorem dX3_readGive_47 : decode cX3_readGive 47 = .ok (.invokevirtual 213, 3) := by decide +kernel
theorem dX3_readGive_50 : decode cX3_readGive 50 = .ok (.invokevirtual 191, 3) := by decide +kernel
theorem dX3_readGive_53 : decode cX3_readGive 53 = .ok (.ifCond .ne 5, 3) := by decide +kernel
theorem dX3_readGive_56 : decode cX3_readGive 56 = .ok (.iconst 0, 1) := by decide +kernel
theorem dX3_readGive_57 : decode cX3_readGive 57 = .ok (.ireturn, 1) := by decide +kernel
theorem dX3_readGive_58 : decode cX3_readGive 58 = .ok (.aload_n 0, 1) := by decide +kernel
theorem dX3_readGive_59 : decode cX3_readGive 59 = .ok (.getfield 18, 3) := by decide +kernel
theorem dX3_readGive_62 : decode cX3_readGive 62 = .ok (.iload_n 1, 1) := by decide +kernel
theorem dX3_readGive_63 : decode cX3_readGive 63 = .ok (.iload_n 2, 1) := by decide +kernel
theorem dX3_readGive_64 : decode cX3_readGive 64 = .ok (.iload_n 3, 1) := by decide +kernel
theorem dX3_readGive_65 : decode cX3_readGive 65 = .ok (.invokevirtual 217, 3) := by decide +kernel
theorem dX3_readGive_68 : decode cX3_readGive 68 = .ok (.pop, 1) := by decide +kernel
theorem dX3_readGive_69 : decode cX3_readGive 69 = .ok (.iconst 1, 1) := by decide +kernel
theorem dX3_readGive_70 : decode cX3_readGive 70 = .ok (.ireturn, 1) := by decide +kernel
theorem dX3_readWait_0 : decode cX3_readWait 0 = .ok (.aload_n 0, 1) := by decide +kernel
theorem dX3_readWait_1 : decode cX3_readWait 1 = .ok (.iconst 1, 1) := by decide +kernel
theorem dX3_readWait_2 : decode cX3_readWait 2 = .ok (.bipush 99, 2) := by decide +kernel
theorem dX3_readWait_4 : decode cX3_readWait 4 = .ok (.invokevirtual 113, 3) := by decide +kernel
theorem dX3_readWait_7 : decode cX3_readWait 7 = .ok (.istore_n 1, 1) := by decide +kernel
theorem dX3_readWait_8 : decode cX3_readWait 8 = .ok (.iload_n 1, 1) := by decide +kernel
theorem dX3_readWait_9 : decode cX3_readWait 9 = .ok (.iconst (-1), 1) := by decide +kernel
theorem dX3_readWait_10 : decode cX3_readWait 10 = .ok (.if_icmp .eq 18, 3) := by decide +kernel
theorem dX3_readWait_13 : decode cX3_readWait 13 = .ok (.aload_n 0, 1) := by decide +kernel
theorem dX3_readWait_14 : decode cX3_readWait 14 = .ok (.aload_n 0, 1) := by decide +kernel
theorem dX3_readWait_15 : decode cX3_readWait 15 = .ok (.getfield 18, 3) := by decide +kernel
theorem dX3_readWait_18 : decode cX3_readWait 18 = .ok (.iload_n 1, 1) := by decide +kernel
theorem dX3_readWait_19 : decode cX3_readWait 19 = .ok (.invokevirtual 220, 3) := by decide +kernel
theorem dX3_readWait_22 : decode cX3_readWait 22 = .ok (.invokevirtual 191, 3) := by decide +kernel
theorem dX3_readWait_25 : decode cX3_readWait 25 = .ok (.ifCond .ne 5, 3) := by decide +kernel
theorem dX3_readWait_28 : decode cX3_readWait 28 = .ok (.iconst 0, 1) := by decide +kernel
theorem dX3_readWait_29 : decode cX3_readWait 29 = .ok (.ireturn, 1) := by decide +kernel
theorem dX3_readWait_30 : decode cX3_readWait 30 = .ok (.aload_n 0, 1) := by decide +kernel
theorem dX3_readWait_31 : decode cX3_readWait 31 = .ok (.getfield 18, 3) := by decide +kernel
theorem dX3_readWait_34 : decode cX3_readWait 34 = .ok (.iload_n 1, 1) := by decide +kernel
theorem dX3_readWait_35 : decode cX3_readWait 35 = .ok (.invokevirtual 223, 3) := by decide +kernel
theorem dX3_readWait_38 : decode cX3_readWait 38 = .ok (.pop, 1) := by decide +kernel
theorem dX3_readWait_39 : decode cX3_readWait 39 = .ok (.iconst 1, 1) := by decide +kernel
theorem dX3_readWait_40 : decode cX3_readWait 40 = .ok (.ireturn, 1) := by decide +kernel
theorem dX3_takeEndOfDeed_0 : decode cX3_takeEndOfDeed 0 = .ok (.aload_n 0, 1) := by decide +kernel
theorem dX3_takeEndOfDeed_1 : decode cX3_takeEndOfDeed 1 = .ok (.invokevirtual 76, 3) := by decide +kernel
theorem dX3_takeEndOfDeed_4 : decode cX3_takeEndOfDeed 4 = .ok (.bipush 59, 2) := by decide +kernel
theorem dX3_takeEndOfDeed_6 : decode cX3_takeEndOfDeed 6 = .ok (.if_icmp .ne 14, 3) := by decide +kernel
theorem dX3_takeEndOfDeed_9 : decode cX3_takeEndOfDeed 9 = .ok (.iload_n 1, 1) := by decide +kernel
theorem dX3_takeEndOfDeed_10 : decode cX3_takeEndOfDeed 10 = .ok (.ifCond .eq 10, 3) := by decide +kernel
theorem dX3_takeEndOfDeed_13 : decode cX3_takeEndOfDeed 13 = .ok (.aload_n 0, 1) := by decide +kernel
theorem dX3_takeEndOfDeed_14 : decode cX3_takeEndOfDeed 14 = .ok (.bipush (-7), 2) := by decide +kernel
theorem dX3_takeEndOfDeed_16 : decode cX3_takeEndOfDeed 16 = .ok (.invokevirtual 79, 3) := by decide +kernel
theorem dX3_takeEndOfDeed_19 : decode cX3_takeEndOfDeed 19 = .ok (.ireturn, 1) := by decide +kernel
theorem dX3_takeEndOfDeed_20 : decode cX3_takeEndOfDeed 20 = .ok (.aload_n 0, 1) := by decide +kernel
theorem dX3_takeEndOfDeed_21 : decode cX3_takeEndOfDeed 21 = .ok (.invokevirtual 118, 3) := by decide +kernel
theorem dX3_takeEndOfDeed_24 : decode cX3_takeEndOfDeed 24 = .ok (.ireturn, 1) := by decide +kernel
theorem dX4_init_0 : decode cX4_init 0 = .ok (.aload_n 0, 1) := by decide +kernel
theorem dX4_init_1 : decode cX4_init 1 = .ok (.invokespecial 3, 3) := by decide +kernel
theorem dX4_init_4 : decode cX4_init 4 = .ok (.aload_n 0, 1) := by decide +kernel
theorem dX4_init_5 : decode cX4_init 5 = .ok (.bipush 119, 2) := by decide +kernel
theorem dX4_init_7 : decode cX4_init 7 = .ok (.newarray .int, 2) := by decide +kernel
theorem dX4_init_9 : decode cX4_init 9 = .ok (.putfield 11, 3) := by decide +kernel
theorem dX4_init_12 : decode cX4_init 12 = .ok (.return_, 1) := by decide +kernel
theorem dX4_addByte_0 : decode cX4_addByte 0 = .ok (.aload_n 0, 1) := by decide +kernel
theorem dX4_addByte_1 : decode cX4_addByte 1 = .ok (.getfield 15, 3) := by decide +kernel
theorem dX4_addByte_4 : decode cX4_addByte 4 = .ok (.bipush 119, 2) := by decide +kernel
theorem dX4_addByte_6 : decode cX4_addByte 6 = .ok (.if_icmp .ge 23, 3) := by decide +kernel
theorem dX4_addByte_9 : decode cX4_addByte 9 = .ok (.aload_n 0, 1) := by decide +kernel
theorem dX4_addByte_10 : decode cX4_addByte 10 = .ok (.getfield 11, 3) := by decide +kernel
theorem dX4_addByte_13 : decode cX4_addByte 13 = .ok (.aload_n 0, 1) := by decide +kernel
theorem dX4_addByte_14 : decode cX4_addByte 14 = .ok (.getfield 15, 3) := by decide +kernel
theorem dX4_addByte_17 : decode cX4_addByte 17 = .ok (.iload_n 1, 1) := by decide +kernel
theorem dX4_addByte_18 : decode cX4_addByte 18 = .ok (.iastore, 1) := by decide +kernel
theorem dX4_addByte_19 : decode cX4_addByte 19 = .ok (.aload_n 0, 1) := by decide +kernel
theorem dX4_addByte_20 : decode cX4_addByte 20 = .ok (.dup, 1) := by decide +kernel
theorem dX4_addByte_21 : decode cX4_addByte 21 = .ok (.getfield 15, 3) := by decide +kernel
theorem dX4_addByte_24 : decode cX4_addByte 24 = .ok (.iconst 1, 1) := by decide +kernel
theorem dX4_addByte_25 : decode cX4_addByte 25 = .ok (.iadd, 1) := by decide +kernel
theorem dX4_addByte_26 : decode cX4_addByte 26 = .ok (.putfield 15, 3) := by decide +kernel
theorem dX4_addByte_29 : decode cX4_addByte 29 = .ok (.return_, 1) := by decide +kernel
theorem dX4_addName_0 : decode cX4_addName 0 = .ok (.iconst 0, 1) := by decide +kernel
theorem dX4_addName_1 : decode cX4_addName 1 = .ok (.istore_n 2, 1) := by decide +kernel
theorem dX4_addName_2 : decode cX4_addName 2 = .ok (.iload_n 2, 1) := by decide +kernel
theorem dX4_addName_3 : decode cX4_addName 3 = .ok (.bipush 6, 2) := by decide +kernel
theorem dX4_addName_5 : decode cX4_addName 5 = .ok (.if_icmp .ge 24, 3) := by decide +kernel
theorem dX4_addName_8 : decode cX4_addName 8 = .ok (.iload_n 1, 1) := by decide +kernel
theorem dX4_addName_9 : decode cX4_addName 9 = .ok (.iload_n 2, 1) := by decide +kernel
theorem dX4_addName_10 : decode cX4_addName 10 = .ok (.invokestatic 19, 3) := by decide +kernel
theorem dX4_addName_13 : decode cX4_addName 13 = .ok (.istore_n 3, 1) := by decide +kernel
theorem dX4_addName_14 : decode cX4_addName 14 = .ok (.iload_n 3, 1) := by decide +kernel
theorem dX4_addName_15 : decode cX4_addName 15 = .ok (.ifCond .eq 8, 3) := by decide +kernel
theorem dX4_addName_18 : decode cX4_addName 18 = .ok (.aload_n 0, 1) := by decide +kernel
theorem dX4_addName_19 : decode cX4_addName 19 = .ok (.iload_n 3, 1) := by decide +kernel
theorem dX4_addName_20 : decode cX4_addName 20 = .ok (.invokevirtual 25, 3) := by decide +kernel
theorem dX4_addName_23 : decode cX4_addName 23 = .ok (.iinc 2 1, 3) := by decide +kernel
theorem dX4_addName_26 : decode cX4_addName 26 = .ok (.goto (-24), 3) := by decide +kernel
theorem dX4_addName_29 : decode cX4_addName 29 = .ok (.return_, 1) := by decide +kernel
theorem dX4_addNeeds_0 : decode cX4_addNeeds 0 = .ok (.iconst 1, 1) := by decide +kernel
theorem dX4_addNeeds_1 : decode cX4_addNeeds 1 = .ok (.istore_n 3, 1) := by decide +kernel
theorem dX4_addNeeds_2 : decode cX4_addNeeds 2 = .ok (.iconst 0, 1) := by decide +kernel
theorem dX4_addNeeds_3 : decode cX4_addNeeds 3 = .ok (.istore 4, 2) := by decide +kernel
theorem dX4_addNeeds_5 : decode cX4_addNeeds 5 = .ok (.iload 4, 2) := by decide +kernel
theorem dX4_addNeeds_7 : decode cX4_addNeeds 7 = .ok (.aload_n 1, 1) := by decide +kernel
theorem dX4_addNeeds_8 : decode cX4_addNeeds 8 = .ok (.getfield 29, 3) := by decide +kernel
theorem dX4_addNeeds_11 : decode cX4_addNeeds 11 = .ok (.if_icmp .ge 41, 3) := by decide +kernel
theorem dX4_addNeeds_14 : decode cX4_addNeeds 14 = .ok (.iload 4, 2) := by decide +kernel
theorem dX4_addNeeds_16 : decode cX4_addNeeds 16 = .ok (.iload_n 2, 1) := by decide +kernel
theorem dX4_addNeeds_17 : decode cX4_addNeeds 17 = .ok (.invokestatic 34, 3) := by decide +kernel
theorem dX4_addNeeds_20 : decode cX4_addNeeds 20 = .ok (.ifCond .eq 26, 3) := by decide +kernel
theorem dX4_addNeeds_23 : decode cX4_addNeeds 23 = .ok (.iload_n 3, 1) := by decide +kernel
theorem dX4_addNeeds_24 : decode cX4_addNeeds 24 = .ok (.ifCond .ne 9, 3) := by decide +kernel
theorem dX4_addNeeds_27 : decode cX4_addNeeds 27 = .ok (.aload_n 0, 1) := by decide +kernel
theorem dX4_addNeeds_28 : decode cX4_addNeeds 28 = .ok (.bipush 32, 2) := by decide +kernel
theorem dX4_addNeeds_30 : decode cX4_addNeeds 30 = .ok (.invokevirtual 25, 3) := by decide +kernel
theorem dX4_addNeeds_33 : decode cX4_addNeeds 33 = .ok (.aload_n 0, 1) := by decide +kernel
theorem dX4_addNeeds_34 : decode cX4_addNeeds 34 = .ok (.aload_n 1, 1) := by decide +kernel
theorem dX4_addNeeds_35 : decode cX4_addNeeds 35 = .ok (.getfield 38, 3) := by decide +kernel
theorem dX4_addNeeds_38 : decode cX4_addNeeds 38 = .ok (.iload 4, 2) := by decide +kernel
theorem dX4_addNeeds_40 : decode cX4_addNeeds 40 = .ok (.iaload, 1) := by decide +kernel
theorem dX4_addNeeds_41 : decode cX4_addNeeds 41 = .ok (.invokevirtual 41, 3) := by decide +kernel
theorem dX4_addNeeds_44 : decode cX4_addNeeds 44 = .ok (.iconst 0, 1) := by decide +kernel
theorem dX4_addNeeds_45 : decode cX4_addNeeds 45 = .ok (.istore_n 3, 1) := by decide +kernel
theorem dX4_addNeeds_46 : decode cX4_addNeeds 46 = .ok (.iinc 4 1, 3) := by decide +kernel
theorem dX4_addNeeds_49 : decode cX4_addNeeds 49 = .ok (.goto (-44), 3) := by decide +kernel
theorem dX4_addNeeds_52 : decode cX4_addNeeds 52 = .ok (.return_, 1) := by decide +kernel
theorem dX4_addNumber_0 : decode cX4_addNumber 0 = .ok (.iconst 0, 1) := by decide +kernel
theorem dX4_addNumber_1 : decode cX4_addNumber 1 = .ok (.istore_n 2, 1) := by decide +kernel
theorem dX4_addNumber_2 : decode cX4_addNumber 2 = .ok (.sipush 1000, 3) := by decide +kernel
theorem dX4_addNumber_5 : decode cX4_addNumber 5 = .ok (.istore_n 3, 1) := by decide +kernel
theorem dX4_addNumber_6 : decode cX4_addNumber 6 = .ok (.iload_n 3, 1) := by decide +kernel
theorem dX4_addNumber_7 : decode cX4_addNumber 7 = .ok (.ifCond .le 44, 3) := by decide +kernel
theorem dX4_addNumber_10 : decode cX4_addNumber 10 = .ok (.iload_n 1, 1) := by decide +kernel
theorem dX4_addNumber_11 : decode cX4_addNumber 11 = .ok (.iload_n 3, 1) := by decide +kernel
theorem dX4_addNumber_12 : decode cX4_addNumber 12 = .ok (.idiv, 1) := by decide +kernel
theorem dX4_addNumber_13 : decode cX4_addNumber 13 = .ok (.bipush 10, 2) := by decide +kernel
theorem dX4_addNumber_15 : decode cX4_addNumber 15 = .ok (.irem, 1) := by decide +kernel
theorem dX4_addNumber_16 : decode cX4_addNumber 16 = .ok (.istore 4, 2) := by decide +kernel
theorem dX4_addNumber_18 : decode cX4_addNumber 18 = .ok (.iload 4, 2) := by decide +kernel
theorem dX4_addNumber_20 : decode cX4_addNumber 20 = .ok (.ifCond .ne 12, 3) := by decide +kernel
theorem dX4_addNumber_23 : decode cX4_addNumber 23 = .ok (.iload_n 2, 1) := by decide +kernel
theorem dX4_addNumber_24 : decode cX4_addNumber 24 = .ok (.ifCond .ne 8, 3) := by decide +kernel
theorem dX4_addNumber_27 : decode cX4_addNumber 27 = .ok (.iload_n 3, 1) := by decide +kernel
theorem dX4_addNumber_28 : decode cX4_addNumber 28 = .ok (.iconst 1, 1) := by decide +kernel
theorem dX4_addNumber_29 : decode cX4_addNumber 29 = .ok (.if_icmp .ne 14, 3) := by decide +kernel
theorem dX4_addNumber_32 : decode cX4_addNumber 32 = .ok (.aload_n 0, 1) := by decide +kernel
theorem dX4_addNumber_33 : decode cX4_addNumber 33 = .ok (.bipush 48, 2) := by decide +kernel
theorem dX4_addNumber_35 : decode cX4_addNumber 35 = .ok (.iload 4, 2) := by decide +kernel
theorem dX4_addNumber_37 : decode cX4_addNumber 37 = .ok (.iadd, 1) := by decide +kernel
theorem dX4_addNumber_38 : decode cX4_addNumber 38 = .ok (.invokevirtual 25, 3) := by decide +kernel
theorem dX4_addNumber_41 : decode cX4_addNumber 41 = .ok (.iconst 1, 1) := by decide +kernel
theorem dX4_addNumber_42 : decode cX4_addNumber 42 = .ok (.istore_n 2, 1) := by decide +kernel
theorem dX4_addNumber_43 : decode cX4_addNumber 43 = .ok (.iload_n 3, 1) := by decide +kernel
theorem dX4_addNumber_44 : decode cX4_addNumber 44 = .ok (.bipush 10, 2) := by decide +kernel
theorem dX4_addNumber_46 : decode cX4_addNumber 46 = .ok (.idiv, 1) := by decide +kernel
theorem dX4_addNumber_47 : decode cX4_addNumber 47 = .ok (.istore_n 3, 1) := by decide +kernel
theorem dX4_addNumber_48 : decode cX4_addNumber 48 = .ok (.goto (-42), 3) := by decide +kernel
theorem dX4_addNumber_51 : decode cX4_addNumber 51 = .ok (.return_, 1) := by decide +kernel
theorem dX5_init_0 : decode cX5_init 0 = .ok (.aload_n 0, 1) := by decide +kernel
theorem dX5_init_1 : decode cX5_init 1 = .ok (.invokespecial 1, 3) := by decide +kernel
theorem dX5_init_4 : decode cX5_init 4 = .ok (.aload_n 0, 1) := by decide +kernel
theorem dX5_init_5 : decode cX5_init 5 = .ok (.new 7, 3) := by decide +kernel
theorem dX5_init_8 : decode cX5_init 8 = .ok (.dup, 1) := by decide +kernel
theorem dX5_init_9 : decode cX5_init 9 = .ok (.invokespecial 9, 3) := by decide +kernel
theorem dX5_init_12 : decode cX5_init 12 = .ok (.putfield 10, 3) := by decide +kernel
theorem dX5_init_15 : decode cX5_init 15 = .ok (.aload_n 0, 1) := by decide +kernel
theorem dX5_init_16 : decode cX5_init 16 = .ok (.getfield 10, 3) := by decide +kernel
theorem dX5_init_19 : decode cX5_init 19 = .ok (.invokevirtual 16, 3) := by decide +kernel
theorem dX5_init_22 : decode cX5_init 22 = .ok (.aload_n 0, 1) := by decide +kernel
theorem dX5_init_23 : decode cX5_init 23 = .ok (.new 19, 3) := by decide +kernel
theorem dX5_init_26 : decode cX5_init 26 = .ok (.dup, 1) := by decide +kernel
theorem dX5_init_27 : decode cX5_init 27 = .ok (.invokespecial 21, 3) := by decide +kernel
theorem dX5_init_30 : decode cX5_init 30 = .ok (.putfield 22, 3) := by decide +kernel
theorem dX5_init_33 : decode cX5_init 33 = .ok (.aload_n 0, 1) := by decide +kernel
theorem dX5_init_34 : decode cX5_init 34 = .ok (.new 26, 3) := by decide +kernel
theorem dX5_init_37 : decode cX5_init 37 = .ok (.dup, 1) := by decide +kernel
theorem dX5_init_38 : decode cX5_init 38 = .ok (.invokespecial 28, 3) := by decide +kernel
theorem dX5_init_41 : decode cX5_init 41 = .ok (.putfield 29, 3) := by decide +kernel
theorem dX5_init_44 : decode cX5_init 44 = .ok (.aload_n 0, 1) := by decide +kernel
theorem dX5_init_45 : decode cX5_init 45 = .ok (.new 33, 3) := by decide +kernel
theorem dX5_init_48 : decode cX5_init 48 = .ok (.dup, 1) := by decide +kernel
theorem dX5_init_49 : decode cX5_init 49 = .ok (.invokespecial 35, 3) := by decide +kernel
theorem dX5_init_52 : decode cX5_init 52 = .ok (.putfield 36, 3) := by decide +kernel
theorem dX5_init_55 : decode cX5_init 55 = .ok (.aload_n 0, 1) := by decide +kernel
theorem dX5_init_56 : decode cX5_init 56 = .ok (.iconst 2, 1) := by decide +kernel
theorem dX5_init_57 : decode cX5_init 57 = .ok (.anewarray 7, 3) := by decide +kernel
theorem dX5_init_60 : decode cX5_init 60 = .ok (.putfield 40, 3) := by decide +kernel
theorem dX5_init_63 : decode cX5_init 63 = .ok (.iconst 0, 1) := by decide +kernel
theorem dX5_init_64 : decode cX5_init 64 = .ok (.istore_n 1, 1) := by decide +kernel
theorem dX5_init_65 : decode cX5_init 65 = .ok (.iload_n 1, 1) := by decide +kernel
theorem dX5_init_66 : decode cX5_init 66 = .ok (.iconst 2, 1) := by decide +kernel
theorem dX5_init_67 : decode cX5_init 67 = .ok (.if_icmp .ge 22, 3) := by decide +kernel
theorem dX5_init_70 : decode cX5_init 70 = .ok (.aload_n 0, 1) := by decide +kernel
theorem dX5_init_71 : decode cX5_init 71 = .ok (.getfield 40, 3) := by decide +kernel
theorem dX5_init_74 : decode cX5_init 74 = .ok (.iload_n 1, 1) := by decide +kernel
theorem dX5_init_75 : decode cX5_init 75 = .ok (.new 7, 3) := by decide +kernel
theorem dX5_init_78 : decode cX5_init 78 = .ok (.dup, 1) := by decide +kernel
theorem dX5_init_79 : decode cX5_init 79 = .ok (.invokespecial 9, 3) := by decide +kernel
theorem dX5_init_82 : decode cX5_init 82 = .ok (.aastore, 1) := by decide +kernel
theorem dX5_init_83 : decode cX5_init 83 = .ok (.iinc 1 1, 3) := by decide +kernel
theorem dX5_init_86 : decode cX5_init 86 = .ok (.goto (-21), 3) := by decide +kernel
theorem dX5_init_89 : decode cX5_init 89 = .ok (.aload_n 0, 1) := by decide +kernel
theorem dX5_init_90 : decode cX5_init 90 = .ok (.iconst 2, 1) := by decide +kernel
theorem dX5_init_91 : decode cX5_init 91 = .ok (.newarray .boolean, 2) := by decide +kernel
theorem dX5_init_93 : decode cX5_init 93 = .ok (.putfield 44, 3) := by decide +kernel
theorem dX5_init_96 : decode cX5_init 96 = .ok (.return_, 1) := by decide +kernel
theorem dX5_append_0 : decode cX5_append 0 = .ok (.iload_n 1, 1) := by decide +kernel
theorem dX5_append_1 : decode cX5_append 1 = .ok (.invokestatic 48, 3) := by decide +kernel
theorem dX5_append_4 : decode cX5_append 4 = .ok (.iload_n 2, 1) := by decide +kernel
theorem dX5_append_5 : decode cX5_append 5 = .ok (.invokestatic 48, 3) := by decide +kernel
theorem dX5_append_8 : decode cX5_append 8 = .ok (.iadd, 1) := by decide +kernel
theorem dX5_append_9 : decode cX5_append 9 = .ok (.iload_n 3, 1) := by decide +kernel
theorem dX5_append_10 : decode cX5_append 10 = .ok (.invokestatic 48, 3) := by decide +kernel
theorem dX5_append_13 : decode cX5_append 13 = .ok (.iadd, 1) := by decide +kernel
theorem dX5_append_14 : decode cX5_append 14 = .ok (.iload 4, 2) := by decide +kernel
theorem dX5_append_16 : decode cX5_append 16 = .ok (.invokestatic 48, 3) := by decide +kernel
theorem dX5_append_19 : decode cX5_append 19 = .ok (.iadd, 1) := by decide +kernel
theorem dX5_append_20 : decode cX5_append 20 = .ok (.iload 5, 2) := by decide +kernel
theorem dX5_append_22 : decode cX5_append 22 = .ok (.invokestatic 48, 3) := by decide +kernel
theorem dX5_append_25 : decode cX5_append 25 = .ok (.iadd, 1) := by decide +kernel
theorem dX5_append_26 : decode cX5_append 26 = .ok (.istore 6, 2) := by decide +kernel
theorem dX5_append_28 : decode cX5_append 28 = .ok (.aload_n 0, 1) := by decide +kernel
theorem dX5_append_29 : decode cX5_append 29 = .ok (.getfield 22, 3) := by decide +kernel
theorem dX5_append_32 : decode cX5_append 32 = .ok (.getfield 52, 3) := by decide +kernel
theorem dX5_append_35 : decode cX5_append 35 = .ok (.iload 6, 2) := by decide +kernel
theorem dX5_append_37 : decode cX5_append 37 = .ok (.iadd, 1) := by decide +kernel
theorem dX5_append_38 : decode cX5_append 38 = .ok (.sipush 800, 3) := by decide +kernel
theorem dX5_append_41 : decode cX5_append 41 = .ok (.if_icmp .le 13, 3) := by decide +kernel
theorem dX5_append_44 : decode cX5_append 44 = .ok (.new 56, 3) := by decide +kernel
theorem dX5_append_47 : decode cX5_append 47 = .ok (.dup, 1) := by decide +kernel
theorem dX5_append_48 : decode cX5_append 48 = .ok (.ldc 58, 2) := by decide +kernel
theorem dX5_append_50 : decode cX5_append 50 = .ok (.invokespecial 60, 3) := by decide +kernel
theorem dX5_append_53 : decode cX5_append 53 = .ok (.athrow, 1) := by decide +kernel
theorem dX5_append_54 : decode cX5_append 54 = .ok (.aload_n 0, 1) := by decide +kernel
theorem dX5_append_55 : decode cX5_append 55 = .ok (.getfield 22, 3) := by decide +kernel
theorem dX5_append_58 : decode cX5_append 58 = .ok (.iload_n 1, 1) := by decide +kernel
theorem dX5_append_59 : decode cX5_append 59 = .ok (.invokevirtual 63, 3) := by decide +kernel
theorem dX5_append_62 : decode cX5_append 62 = .ok (.aload_n 0, 1) := by decide +kernel
theorem dX5_append_63 : decode cX5_append 63 = .ok (.getfield 22, 3) := by decide +kernel
theorem dX5_append_66 : decode cX5_append 66 = .ok (.iload_n 2, 1) := by decide +kernel
theorem dX5_append_67 : decode cX5_append 67 = .ok (.invokevirtual 63, 3) := by decide +kernel
theorem dX5_append_70 : decode cX5_append 70 = .ok (.aload_n 0, 1) := by decide +kernel
theorem dX5_append_71 : decode cX5_append 71 = .ok (.getfield 22, 3) := by decide +kernel
theorem dX5_append_74 : decode cX5_append 74 = .ok (.iload_n 3, 1) := by decide +kernel
theorem dX5_append_75 : decode cX5_append 75 = .ok (.invokevirtual 63, 3) := by decide +kernel
theorem dX5_append_78 : decode cX5_append 78 = .ok (.aload_n 0, 1) := by decide +kernel
theorem dX5_append_79 : decode cX5_append 79 = .ok (.getfield 22, 3) := by decide +kernel
theorem dX5_append_82 : decode cX5_append 82 = .ok (.iload 4, 2) := by decide +kernel
theorem dX5_append_84 : decode cX5_append 84 = .ok (.invokevirtual 63, 3) := by decide +kernel
theorem dX5_append_87 : decode cX5_append 87 = .ok (.aload_n 0, 1) := by decide +kernel
theorem dX5_append_88 : decode cX5_append 88 = .ok (.getfield 22, 3) := by decide +kernel
theorem dX5_append_91 : decode cX5_append 91 = .ok (.iload 5, 2) := by decide +kernel
theorem dX5_append_93 : decode cX5_append 93 = .ok (.invokevirtual 63, 3) := by decide +kernel
theorem dX5_append_96 : decode cX5_append 96 = .ok (.aload_n 0, 1) := by decide +kernel
theorem dX5_append_97 : decode cX5_append 97 = .ok (.getfield 22, 3) := by decide +kernel
theorem dX5_append_100 : decode cX5_append 100 = .ok (.getfield 52, 3) := by decide +kernel
theorem dX5_append_103 : decode cX5_append 103 = .ok (.ireturn, 1) := by decide +kernel
theorem dX5_load_0 : decode cX5_load 0 = .ok (.aload_n 0, 1) := by decide +kernel
theorem dX5_load_1 : decode cX5_load 1 = .ok (.getfield 22, 3) := by decide +kernel
theorem dX5_load_4 : decode cX5_load 4 = .ok (.invokevirtual 67, 3) := by decide +kernel
theorem dX5_load_7 : decode cX5_load 7 = .ok (.istore_n 1, 1) := by decide +kernel
theorem dX5_load_8 : decode cX5_load 8 = .ok (.aload_n 0, 1) := by decide +kernel
theorem dX5_load_9 : decode cX5_load 9 = .ok (.getfield 22, 3) := by decide +kernel
theorem dX5_load_12 : decode cX5_load 12 = .ok (.iconst 0, 1) := by decide +kernel
theorem dX5_load_13 : decode cX5_load 13 = .ok (.putfield 52, 3) := by decide +kernel
theorem dX5_load_16 : decode cX5_load 16 = .ok (.iload_n 1, 1) := by decide +kernel
theorem dX5_load_17 : decode cX5_load 17 = .ok (.ifCond .ne 11, 3) := by decide +kernel
theorem dX5_load_20 : decode cX5_load 20 = .ok (.aload_n 0, 1) := by decide +kernel
theorem dX5_load_21 : decode cX5_load 21 = .ok (.getfield 22, 3) := by decide +kernel
theorem dX5_load_24 : decode cX5_load 24 = .ok (.getfield 71, 3) := by decide +kernel
theorem dX5_load_27 : decode cX5_load 27 = .ok (.ireturn, 1) := by decide +kernel
theorem dX5_load_28 : decode cX5_load 28 = .ok (.aload_n 0, 1) := by decide +kernel
theorem dX5_load_29 : decode cX5_load 29 = .ok (.getfield 29, 3) := by decide +kernel
theorem dX5_load_32 : decode cX5_load 32 = .ok (.aload_n 0, 1) := by decide +kernel
theorem dX5_load_33 : decode cX5_load 33 = .ok (.getfield 10, 3) := by decide +kernel
theorem dX5_load_36 : decode cX5_load 36 = .ok (.invokevirtual 74, 3) := by decide +kernel
theorem dX5_load_39 : decode cX5_load 39 = .ok (.aload_n 0, 1) := by decide +kernel
theorem dX5_load_40 : decode cX5_load 40 = .ok (.getfield 10, 3) := by decide +kernel
theorem dX5_load_43 : decode cX5_load 43 = .ok (.aload_n 0, 1) := by decide +kernel
theorem dX5_load_44 : decode cX5_load 44 = .ok (.getfield 22, 3) := by decide +kernel
theorem dX5_load_47 : decode cX5_load 47 = .ok (.getfield 78, 3) := by decide +kernel
theorem dX5_load_50 : decode cX5_load 50 = .ok (.invokevirtual 81, 3) := by decide +kernel
theorem dX5_load_53 : decode cX5_load 53 = .ok (.aload_n 0, 1) := by decide +kernel
theorem dX5_load_54 : decode cX5_load 54 = .ok (.getfield 10, 3) := by decide +kernel
theorem dX5_load_57 : decode cX5_load 57 = .ok (.getfield 84, 3) := by decide +kernel
theorem dX5_load_60 : decode cX5_load 60 = .ok (.ireturn, 1) := by decide +kernel
theorem dX5_errorPosition_0 : decode cX5_errorPosition 0 = .ok (.aload_n 0, 1) := by decide +kernel
theorem dX5_errorPosition_1 : decode cX5_errorPosition 1 = .ok (.getfield 22, 3) := by decide +kernel
theorem dX5_errorPosition_4 : decode cX5_errorPosition 4 = .ok (.getfield 87, 3) := by decide +kernel
theorem dX5_errorPosition_7 : decode cX5_errorPosition 7 = .ok (.ireturn, 1) := by decide +kernel
theorem dX5_count_0 : decode cX5_count 0 = .ok (.iload_n 1, 1) := by decide +kernel
theorem dX5_count_1 : decode cX5_count 1 = .ok (.tableswitch 218 0 12 #[67, 75, 83, 91, 99, 107, 133, 141, 150, 165, 180, 195, 210], 67) := by decide +kernel
theorem dX5_count_68 : decode cX5_count 68 = .ok (.aload_n 0, 1) := by decide +kernel
theorem dX5_count_69 : decode cX5_count 69 = .ok (.getfield 10, 3) := by decide +kernel
theorem dX5_count_72 : decode cX5_count 72 = .ok (.getfield 84, 3) := by decide +kernel
theorem dX5_count_75 : decode cX5_count 75 = .ok (.ireturn, 1) := by decide +kernel
theorem dX5_count_76 : decode cX5_count 76 = .ok (.aload_n 0, 1) := by decide +kernel
theorem dX5_count_77 : decode cX5_count 77 = .ok (.getfield 10, 3) := by decide +kernel
theorem dX5_count_80 : decode cX5_count 80 = .ok (.getfield 90, 3) := by decide +kernel
theorem dX5_count_83 : decode cX5_count 83 = .ok (.ireturn, 1) := by decide +kernel
theorem dX5_count_84 : decode cX5_count 84 = .ok (.aload_n 0, 1) := by decide +kernel
theorem dX5_count_85 : decode cX5_count 85 = .ok (.getfield 10, 3) := by decide +kernel
theorem dX5_count_88 : decode cX5_count 88 = .ok (.getfield 93, 3) := by decide +kernel
theorem dX5_count_91 : decode cX5_count 91 = .ok (.ireturn, 1) := by decide +kernel
theorem dX5_count_92 : decode cX5_count 92 = .ok (.aload_n 0, 1) := by decide +kernel
theorem dX5_count_93 : decode cX5_count 93 = .ok (.getfield 10, 3) := by decide +kernel
theorem dX5_count_96 : decode cX5_count 96 = .ok (.getfield 96, 3) := by decide +kernel
theorem dX5_count_99 : decode cX5_count 99 = .ok (.ireturn, 1) := by decide +kernel
theorem dX5_count_100 : decode cX5_count 100 = .ok (.aload_n 0, 1) := by decide +kernel
theorem dX5_count_101 : decode cX5_count 101 = .ok (.getfield 10, 3) := by decide +kernel
theorem dX5_count_104 : decode cX5_count 104 = .ok (.getfield 99, 3) := by decide +kernel
theorem dX5_count_107 : decode cX5_count 107 = .ok (.ireturn, 1) := by decide +kernel
theorem dX5_count_108 : decode cX5_count 108 = .ok (.aload_n 0, 1) := by decide +kernel
theorem dX5_count_109 : decode cX5_count 109 = .ok (.getfield 10, 3) := by decide +kernel
theorem dX5_count_112 : decode cX5_count 112 = .ok (.aload_n 0, 1) := by decide +kernel
theorem dX5_count_113 : decode cX5_count 113 = .ok (.getfield 10, 3) := by decide +kernel
theorem dX5_count_116 : decode cX5_count 116 = .ok (.getfield 99, 3) := by decide +kernel
theorem dX5_count_119 : decode cX5_count 119 = .ok (.bipush 24, 2) := by decide +kernel
theorem dX5_count_121 : decode cX5_count 121 = .ok (.irem, 1) := by decide +kernel
theorem dX5_count_122 : decode cX5_count 122 = .ok (.invokevirtual 102, 3) := by decide +kernel
theorem dX5_count_125 : decode cX5_count 125 = .ok (.ifCond .eq 7, 3) := by decide +kernel
theorem dX5_count_128 : decode cX5_count 128 = .ok (.iconst 1, 1) := by decide +kernel
theorem dX5_count_129 : decode cX5_count 129 = .ok (.goto 4, 3) := by decide +kernel
theorem dX5_count_132 : decode cX5_count 132 = .ok (.iconst 0, 1) := by decide +kernel
theorem dX5_count_133 : decode cX5_count 133 = .ok (.ireturn, 1) := by decide +kernel
theorem dX5_count_134 : decode cX5_count 134 = .ok (.aload_n 0, 1) := by decide +kernel
theorem dX5_count_135 : decode cX5_count 135 = .ok (.getfield 10, 3) := by decide +kernel
theorem dX5_count_138 : decode cX5_count 138 = .ok (.invokevirtual 106, 3) := by decide +kernel
theorem dX5_count_141 : decode cX5_count 141 = .ok (.ireturn, 1) := by decide +kernel
theorem dX5_count_142 : decode cX5_count 142 = .ok (.aload_n 0, 1) := by decide +kernel
theorem dX5_count_143 : decode cX5_count 143 = .ok (.getfield 10, 3) := by decide +kernel
theorem dX5_count_146 : decode cX5_count 146 = .ok (.iconst (-1), 1) := by decide +kernel
theorem dX5_count_147 : decode cX5_count 147 = .ok (.invokevirtual 110, 3) := by decide +kernel
theorem dX5_count_150 : decode cX5_count 150 = .ok (.ireturn, 1) := by decide +kernel
theorem dX5_count_151 : decode cX5_count 151 = .ok (.aload_n 0, 1) := by decide +kernel
theorem dX5_count_152 : decode cX5_count 152 = .ok (.getfield 10, 3) := by decide +kernel
theorem dX5_count_155 : decode cX5_count 155 = .ok (.aload_n 0, 1) := by decide +kernel
theorem dX5_count_156 : decode cX5_count 156 = .ok (.getfield 10, 3) := by decide +kernel
theorem dX5_count_159 : decode cX5_count 159 = .ok (.getfield 113, 3) := by decide +kernel
theorem dX5_count_162 : decode cX5_count 162 = .ok (.invokevirtual 117, 3) := by decide +kernel
theorem dX5_count_165 : decode cX5_count 165 = .ok (.ireturn, 1) := by decide +kernel
theorem dX5_count_166 : decode cX5_count 166 = .ok (.aload_n 0, 1) := by decide +kernel
theorem dX5_count_167 : decode cX5_count 167 = .ok (.getfield 10, 3) := by decide +kernel
theorem dX5_count_170 : decode cX5_count 170 = .ok (.aload_n 0, 1) := by decide +kernel
theorem dX5_count_171 : decode cX5_count 171 = .ok (.getfield 10, 3) := by decide +kernel
theorem dX5_count_174 : decode cX5_count 174 = .ok (.getfield 121, 3) := by decide +kernel
theorem dX5_count_177 : decode cX5_count 177 = .ok (.invokevirtual 124, 3) := by decide +kernel
theorem dX5_count_180 : decode cX5_count 180 = .ok (.ireturn, 1) := by decide +kernel
theorem dX5_count_181 : decode cX5_count 181 = .ok (.aload_n 0, 1) := by decide +kernel
theorem dX5_count_182 : decode cX5_count 182 = .ok (.getfield 10, 3) := by decide +kernel
theorem dX5_count_185 : decode cX5_count 185 = .ok (.aload_n 0, 1) := by decide +kernel
theorem dX5_count_186 : decode cX5_count 186 = .ok (.getfield 10, 3) := by decide +kernel
theorem dX5_count_189 : decode cX5_count 189 = .ok (.getfield 127, 3) := by decide +kernel
theorem dX5_count_192 : decode cX5_count 192 = .ok (.invokevirtual 124, 3) := by decide +kernel
theorem dX5_count_195 : decode cX5_count 195 = .ok (.ireturn, 1) := by decide +kernel
theorem dX5_count_196 : decode cX5_count 196 = .ok (.aload_n 0, 1) := by decide +kernel
theorem dX5_count_197 : decode cX5_count 197 = .ok (.getfield 10, 3) := by decide +kernel
theorem dX5_count_200 : decode cX5_count 200 = .ok (.aload_n 0, 1) := by decide +kernel
theorem dX5_count_201 : decode cX5_count 201 = .ok (.getfield 10, 3) := by decide +kernel
theorem dX5_count_204 : decode cX5_count 204 = .ok (.getfield 130, 3) := by decide +kernel
theorem dX5_count_207 : decode cX5_count 207 = .ok (.invokevirtual 117, 3) := by decide +kernel
theorem dX5_count_210 : decode cX5_count 210 = .ok (.ireturn, 1) := by decide +kernel
theorem dX5_count_211 : decode cX5_count 211 = .ok (.aload_n 0, 1) := by decide +kernel
theorem dX5_count_212 : decode cX5_count 212 = .ok (.getfield 29, 3) := by decide +kernel
theorem dX5_count_215 : decode cX5_count 215 = .ok (.getfield 133, 3) := by decide +kernel
theorem dX5_count_218 : decode cX5_count 218 = .ok (.ireturn, 1) := by decide +kernel
theorem dX5_count_219 : decode cX5_count 219 = .ok (.new 136, 3) := by decide +kernel
theorem dX5_count_222 : decode cX5_count 222 = .ok (.dup, 1) := by decide +kernel
theorem dX5_count_223 : decode cX5_count 223 = .ok (.ldc 138, 2) := by decide +kernel
theorem dX5_count_225 : decode cX5_count 225 = .ok (.invokespecial 140, 3) := by decide +kernel
theorem dX5_count_228 : decode cX5_count 228 = .ok (.athrow, 1) := by decide +kernel
theorem dX5_account_0 : decode cX5_account 0 = .ok (.iload_n 1, 1) := by decide +kernel
theorem dX5_account_1 : decode cX5_account 1 = .ok (.ifCond .lt 9, 3) := by decide +kernel
theorem dX5_account_4 : decode cX5_account 4 = .ok (.iload_n 1, 1) := by decide +kernel
theorem dX5_account_5 : decode cX5_account 5 = .ok (.bipush 14, 2) := by decide +kernel
theorem dX5_account_7 : decode cX5_account 7 = .ok (.if_icmp .lt 13, 3) := by decide +kernel
theorem dX5_account_10 : decode cX5_account 10 = .ok (.new 136, 3) := by decide +kernel
theorem dX5_account_13 : decode cX5_account 13 = .ok (.dup, 1) := by decide +kernel
theorem dX5_account_14 : decode cX5_account 14 = .ok (.ldc 141, 2) := by decide +kernel
theorem dX5_account_16 : decode cX5_account 16 = .ok (.invokespecial 140, 3) := by decide +kernel
theorem dX5_account_19 : decode cX5_account 19 = .ok (.athrow, 1) := by decide +kernel
theorem dX5_account_20 : decode cX5_account 20 = .ok (.aload_n 0, 1) := by decide +kernel
theorem dX5_account_21 : decode cX5_account 21 = .ok (.getfield 10, 3) := by decide +kernel
theorem dX5_account_24 : decode cX5_account 24 = .ok (.getfield 143, 3) := by decide +kernel
theorem dX5_account_27 : decode cX5_account 27 = .ok (.iload_n 1, 1) := by decide +kernel
theorem dX5_account_28 : decode cX5_account 28 = .ok (.iaload, 1) := by decide +kernel
theorem dX5_account_29 : decode cX5_account 29 = .ok (.ireturn, 1) := by decide +kernel
theorem dX5_monk_0 : decode cX5_monk 0 = .ok (.aload_n 0, 1) := by decide +kernel
theorem dX5_monk_1 : decode cX5_monk 1 = .ok (.iload_n 1, 1) := by decide +kernel
theorem dX5_monk_2 : decode cX5_monk 2 = .ok (.invokevirtual 146, 3) := by decide +kernel
theorem dX5_monk_5 : decode cX5_monk 5 = .ok (.iload_n 2, 1) := by decide +kernel
theorem dX5_monk_6 : decode cX5_monk 6 = .ok (.tableswitch 148 0 8 #[50, 60, 70, 80, 90, 100, 113, 126, 135], 50) := by decide +kernel
theorem dX5_monk_56 : decode cX5_monk 56 = .ok (.aload_n 0, 1) := by decide +kernel
theorem dX5_monk_57 : decode cX5_monk 57 = .ok (.getfield 10, 3) := by decide +kernel
theorem dX5_monk_60 : decode cX5_monk 60 = .ok (.getfield 149, 3) := by decide +kernel
theorem dX5_monk_63 : decode cX5_monk 63 = .ok (.iload_n 1, 1) := by decide +kernel
theorem dX5_monk_64 : decode cX5_monk 64 = .ok (.iaload, 1) := by decide +kernel
theorem dX5_monk_65 : decode cX5_monk 65 = .ok (.ireturn, 1) := by decide +kernel
theorem dX5_monk_66 : decode cX5_monk 66 = .ok (.aload_n 0, 1) := by decide +kernel
theorem dX5_monk_67 : decode cX5_monk 67 = .ok (.getfield 10, 3) := by decide +kernel
theorem dX5_monk_70 : decode cX5_monk 70 = .ok (.getfield 121, 3) := by decide +kernel
theorem dX5_monk_73 : decode cX5_monk 73 = .ok (.iload_n 1, 1) := by decide +kernel
theorem dX5_monk_74 : decode cX5_monk 74 = .ok (.iaload, 1) := by decide +kernel
theorem dX5_monk_75 : decode cX5_monk 75 = .ok (.ireturn, 1) := by decide +kernel
theorem dX5_monk_76 : decode cX5_monk 76 = .ok (.aload_n 0, 1) := by decide +kernel
theorem dX5_monk_77 : decode cX5_monk 77 = .ok (.getfield 10, 3) := by decide +kernel
theorem dX5_monk_80 : decode cX5_monk 80 = .ok (.getfield 127, 3) := by decide +kernel
theorem dX5_monk_83 : decode cX5_monk 83 = .ok (.iload_n 1, 1) := by decide +kernel
theorem dX5_monk_84 : decode cX5_monk 84 = .ok (.iaload, 1) := by decide +kernel
theorem dX5_monk_85 : decode cX5_monk 85 = .ok (.ireturn, 1) := by decide +kernel
theorem dX5_monk_86 : decode cX5_monk 86 = .ok (.aload_n 0, 1) := by decide +kernel
theorem dX5_monk_87 : decode cX5_monk 87 = .ok (.getfield 10, 3) := by decide +kernel
theorem dX5_monk_90 : decode cX5_monk 90 = .ok (.getfield 152, 3) := by decide +kernel
theorem dX5_monk_93 : decode cX5_monk 93 = .ok (.iload_n 1, 1) := by decide +kernel
theorem dX5_monk_94 : decode cX5_monk 94 = .ok (.iaload, 1) := by decide +kernel
theorem dX5_monk_95 : decode cX5_monk 95 = .ok (.ireturn, 1) := by decide +kernel
theorem dX5_monk_96 : decode cX5_monk 96 = .ok (.aload_n 0, 1) := by decide +kernel
theorem dX5_monk_97 : decode cX5_monk 97 = .ok (.getfield 10, 3) := by decide +kernel
theorem dX5_monk_100 : decode cX5_monk 100 = .ok (.getfield 155, 3) := by decide +kernel
theorem dX5_monk_103 : decode cX5_monk 103 = .ok (.iload_n 1, 1) := by decide +kernel
theorem dX5_monk_104 : decode cX5_monk 104 = .ok (.iaload, 1) := by decide +kernel
theorem dX5_monk_105 : decode cX5_monk 105 = .ok (.ireturn, 1) := by decide +kernel
theorem dX5_monk_106 : decode cX5_monk 106 = .ok (.aload_n 0, 1) := by decide +kernel
theorem dX5_monk_107 : decode cX5_monk 107 = .ok (.getfield 10, 3) := by decide +kernel
theorem dX5_monk_110 : decode cX5_monk 110 = .ok (.getfield 130, 3) := by decide +kernel
theorem dX5_monk_113 : decode cX5_monk 113 = .ok (.iload_n 1, 1) := by decide +kernel
theorem dX5_monk_114 : decode cX5_monk 114 = .ok (.iaload, 1) := by decide +kernel
theorem dX5_monk_115 : decode cX5_monk 115 = .ok (.invokestatic 158, 3) := by decide +kernel
theorem dX5_monk_118 : decode cX5_monk 118 = .ok (.ireturn, 1) := by decide +kernel
theorem dX5_monk_119 : decode cX5_monk 119 = .ok (.aload_n 0, 1) := by decide +kernel
theorem dX5_monk_120 : decode cX5_monk 120 = .ok (.getfield 10, 3) := by decide +kernel
theorem dX5_monk_123 : decode cX5_monk 123 = .ok (.getfield 113, 3) := by decide +kernel
theorem dX5_monk_126 : decode cX5_monk 126 = .ok (.iload_n 1, 1) := by decide +kernel
theorem dX5_monk_127 : decode cX5_monk 127 = .ok (.iaload, 1) := by decide +kernel
theorem dX5_monk_128 : decode cX5_monk 128 = .ok (.invokestatic 158, 3) := by decide +kernel
theorem dX5_monk_131 : decode cX5_monk 131 = .ok (.ireturn, 1) := by decide +kernel
theorem dX5_monk_132 : decode cX5_monk 132 = .ok (.aload_n 0, 1) := by decide +kernel
theorem dX5_monk_133 : decode cX5_monk 133 = .ok (.getfield 10, 3) := by decide +kernel
theorem dX5_monk_136 : decode cX5_monk 136 = .ok (.iload_n 1, 1) := by decide +kernel
theorem dX5_monk_137 : decode cX5_monk 137 = .ok (.invokevirtual 163, 3) := by decide +kernel
theorem dX5_monk_140 : decode cX5_monk 140 = .ok (.ireturn, 1) := by decide +kernel
theorem dX5_monk_141 : decode cX5_monk 141 = .ok (.aload_n 0, 1) := by decide +kernel
theorem dX5_monk_142 : decode cX5_monk 142 = .ok (.getfield 10, 3) := by decide +kernel
theorem dX5_monk_145 : decode cX5_monk 145 = .ok (.getfield 166, 3) := by decide +kernel
theorem dX5_monk_148 : decode cX5_monk 148 = .ok (.iload_n 1, 1) := by decide +kernel
theorem dX5_monk_149 : decode cX5_monk 149 = .ok (.iaload, 1) := by decide +kernel
theorem dX5_monk_150 : decode cX5_monk 150 = .ok (.invokestatic 169, 3) := by decide +kernel
theorem dX5_monk_153 : decode cX5_monk 153 = .ok (.ireturn, 1) := by decide +kernel
theorem dX5_monk_154 : decode cX5_monk 154 = .ok (.new 136, 3) := by decide +kernel
theorem dX5_monk_157 : decode cX5_monk 157 = .ok (.dup, 1) := by decide +kernel
theorem dX5_monk_158 : decode cX5_monk 158 = .ok (.ldc 174, 2) := by decide +kernel
theorem dX5_monk_160 : decode cX5_monk 160 = .ok (.invokespecial 140, 3) := by decide +kernel
theorem dX5_monk_163 : decode cX5_monk 163 = .ok (.athrow, 1) := by decide +kernel
theorem dX5_need_0 : decode cX5_need 0 = .ok (.aload_n 0, 1) := by decide +kernel
theorem dX5_need_1 : decode cX5_need 1 = .ok (.iload_n 1, 1) := by decide +kernel
theorem dX5_need_2 : decode cX5_need 2 = .ok (.invokevirtual 176, 3) := by decide +kernel
theorem dX5_need_5 : decode cX5_need 5 = .ok (.iload_n 2, 1) := by decide +kernel
theorem dX5_need_6 : decode cX5_need 6 = .ok (.tableswitch 104 0 4 #[34, 44, 60, 76, 90], 34) := by decide +kernel
theorem dX5_need_40 : decode cX5_need 40 = .ok (.aload_n 0, 1) := by decide +kernel
theorem dX5_need_41 : decode cX5_need 41 = .ok (.getfield 10, 3) := by decide +kernel
theorem dX5_need_44 : decode cX5_need 44 = .ok (.getfield 179, 3) := by decide +kernel
theorem dX5_need_47 : decode cX5_need 47 = .ok (.iload_n 1, 1) := by decide +kernel
theorem dX5_need_48 : decode cX5_need 48 = .ok (.iaload, 1) := by decide +kernel
theorem dX5_need_49 : decode cX5_need 49 = .ok (.ireturn, 1) := by decide +kernel
theorem dX5_need_50 : decode cX5_need 50 = .ok (.aload_n 0, 1) := by decide +kernel
theorem dX5_need_51 : decode cX5_need 51 = .ok (.getfield 10, 3) := by decide +kernel
theorem dX5_need_54 : decode cX5_need 54 = .ok (.iload_n 1, 1) := by decide +kernel
theorem dX5_need_55 : decode cX5_need 55 = .ok (.aload_n 0, 1) := by decide +kernel
theorem dX5_need_56 : decode cX5_need 56 = .ok (.getfield 10, 3) := by decide +kernel
theorem dX5_need_59 : decode cX5_need 59 = .ok (.getfield 130, 3) := by decide +kernel
theorem dX5_need_62 : decode cX5_need 62 = .ok (.invokevirtual 182, 3) := by decide +kernel
theorem dX5_need_65 : decode cX5_need 65 = .ok (.ireturn, 1) := by decide +kernel
theorem dX5_need_66 : decode cX5_need 66 = .ok (.aload_n 0, 1) := by decide +kernel
theorem dX5_need_67 : decode cX5_need 67 = .ok (.getfield 10, 3) := by decide +kernel
theorem dX5_need_70 : decode cX5_need 70 = .ok (.iload_n 1, 1) := by decide +kernel
theorem dX5_need_71 : decode cX5_need 71 = .ok (.aload_n 0, 1) := by decide +kernel
theorem dX5_need_72 : decode cX5_need 72 = .ok (.getfield 10, 3) := by decide +kernel
theorem dX5_need_75 : decode cX5_need 75 = .ok (.getfield 113, 3) := by decide +kernel
theorem dX5_need_78 : decode cX5_need 78 = .ok (.invokevirtual 182, 3) := by decide +kernel
theorem dX5_need_81 : decode cX5_need 81 = .ok (.ireturn, 1) := by decide +kernel
theorem dX5_need_82 : decode cX5_need 82 = .ok (.iconst 1, 1) := by decide +kernel
theorem dX5_need_83 : decode cX5_need 83 = .ok (.aload_n 0, 1) := by decide +kernel
theorem dX5_need_84 : decode cX5_need 84 = .ok (.getfield 10, 3) := by decide +kernel
theorem dX5_need_87 : decode cX5_need 87 = .ok (.getfield 179, 3) := by decide +kernel
theorem dX5_need_90 : decode cX5_need 90 = .ok (.iload_n 1, 1) := by decide +kernel
theorem dX5_need_91 : decode cX5_need 91 = .ok (.iaload, 1) := by decide +kernel
theorem dX5_need_92 : decode cX5_need 92 = .ok (.invokestatic 186, 3) := by decide +kernel
theorem dX5_need_95 : decode cX5_need 95 = .ok (.ireturn, 1) := by decide +kernel
theorem dX5_need_96 : decode cX5_need 96 = .ok (.iconst 1, 1) := by decide +kernel
theorem dX5_need_97 : decode cX5_need 97 = .ok (.aload_n 0, 1) := by decide +kernel
theorem dX5_need_98 : decode cX5_need 98 = .ok (.getfield 10, 3) := by decide +kernel
theorem dX5_need_101 : decode cX5_need 101 = .ok (.getfield 179, 3) := by decide +kernel
theorem dX5_need_104 : decode cX5_need 104 = .ok (.iload_n 1, 1) := by decide +kernel
theorem dX5_need_105 : decode cX5_need 105 = .ok (.iaload, 1) := by decide +kernel
theorem dX5_need_106 : decode cX5_need 106 = .ok (.invokestatic 190, 3) := by decide +kernel
theorem dX5_need_109 : decode cX5_need 109 = .ok (.ireturn, 1) := by decide +kernel
theorem dX5_need_110 : decode cX5_need 110 = .ok (.new 136, 3) := by decide +kernel
theorem dX5_need_113 : decode cX5_need 113 = .ok (.dup, 1) := by decide +kernel
theorem dX5_need_114 : decode cX5_need 114 = .ok (.ldc 193, 2) := by decide +kernel
theorem dX5_need_116 : decode cX5_need 116 = .ok (.invokespecial 140, 3) := by decide +kernel
theorem dX5_need_119 : decode cX5_need 119 = .ok (.athrow, 1) := by decide +kernel
theorem dX5_has_0 : decode cX5_has 0 = .ok (.aload_n 0, 1) := by decide +kernel
theorem dX5_has_1 : decode cX5_has 1 = .ok (.iload_n 1, 1) := by decide +kernel
theorem dX5_has_2 : decode cX5_has 2 = .ok (.invokevirtual 146, 3) := by decide +kernel
theorem dX5_has_5 : decode cX5_has 5 = .ok (.aload_n 0, 1) := by decide +kernel
theorem dX5_has_6 : decode cX5_has 6 = .ok (.iload_n 2, 1) := by decide +kernel
theorem dX5_has_7 : decode cX5_has 7 = .ok (.invokevirtual 176, 3) := by decide +kernel
theorem dX5_has_10 : decode cX5_has 10 = .ok (.iload_n 2, 1) := by decide +kernel
theorem dX5_has_11 : decode cX5_has 11 = .ok (.iload_n 3, 1) := by decide +kernel
theorem dX5_has_12 : decode cX5_has 12 = .ok (.ifCond .eq 15, 3) := by decide +kernel
theorem dX5_has_15 : decode cX5_has 15 = .ok (.aload_n 0, 1) := by decide +kernel
theorem dX5_has_16 : decode cX5_has 16 = .ok (.getfield 10, 3) := by decide +kernel
theorem dX5_has_19 : decode cX5_has 19 = .ok (.getfield 113, 3) := by decide +kernel
theorem dX5_has_22 : decode cX5_has 22 = .ok (.iload_n 1, 1) := by decide +kernel
theorem dX5_has_23 : decode cX5_has 23 = .ok (.iaload, 1) := by decide +kernel
theorem dX5_has_24 : decode cX5_has 24 = .ok (.goto 12, 3) := by decide +kernel
theorem dX5_has_27 : decode cX5_has 27 = .ok (.aload_n 0, 1) := by decide +kernel
theorem dX5_has_28 : decode cX5_has 28 = .ok (.getfield 10, 3) := by decide +kernel
theorem dX5_has_31 : decode cX5_has 31 = .ok (.getfield 130, 3) := by decide +kernel
theorem dX5_has_34 : decode cX5_has 34 = .ok (.iload_n 1, 1) := by decide +kernel
theorem dX5_has_35 : decode cX5_has 35 = .ok (.iaload, 1) := by decide +kernel
theorem dX5_has_36 : decode cX5_has 36 = .ok (.invokestatic 195, 3) := by decide +kernel
theorem dX5_has_39 : decode cX5_has 39 = .ok (.ireturn, 1) := by decide +kernel
theorem dX5_bell_0 : decode cX5_bell 0 = .ok (.iload_n 1, 1) := by decide +kernel
theorem dX5_bell_1 : decode cX5_bell 1 = .ok (.invokestatic 199, 3) := by decide +kernel
theorem dX5_bell_4 : decode cX5_bell 4 = .ok (.aload_n 0, 1) := by decide +kernel
theorem dX5_bell_5 : decode cX5_bell 5 = .ok (.getfield 10, 3) := by decide +kernel
theorem dX5_bell_8 : decode cX5_bell 8 = .ok (.getfield 202, 3) := by decide +kernel
theorem dX5_bell_11 : decode cX5_bell 11 = .ok (.iload_n 1, 1) := by decide +kernel
theorem dX5_bell_12 : decode cX5_bell 12 = .ok (.iaload, 1) := by decide +kernel
theorem dX5_bell_13 : decode cX5_bell 13 = .ok (.ireturn, 1) := by decide +kernel
theorem dX5_why_0 : decode cX5_why 0 = .ok (.aload_n 0, 1) := by decide +kernel
theorem dX5_why_1 : decode cX5_why 1 = .ok (.iload_n 1, 1) := by decide +kernel
theorem dX5_why_2 : decode cX5_why 2 = .ok (.iload_n 2, 1) := by decide +kernel
theorem dX5_why_3 : decode cX5_why 3 = .ok (.iload_n 3, 1) := by decide +kernel
theorem dX5_why_4 : decode cX5_why 4 = .ok (.invokevirtual 205, 3) := by decide +kernel
theorem dX5_why_7 : decode cX5_why 7 = .ok (.iload 4, 2) := by decide +kernel
theorem dX5_why_9 : decode cX5_why 9 = .ok (.iconst 0, 1) := by decide +kernel
theorem dX5_why_10 : decode cX5_why 10 = .ok (.iconst 2, 1) := by decide +kernel
theorem dX5_why_11 : decode cX5_why 11 = .ok (.invokestatic 209, 3) := by decide +kernel
theorem dX5_why_14 : decode cX5_why 14 = .ok (.iload 5, 2) := by decide +kernel
theorem dX5_why_16 : decode cX5_why 16 = .ok (.iconst 0, 1) := by decide +kernel
theorem dX5_why_17 : decode cX5_why 17 = .ok (.iconst 2, 1) := by decide +kernel
theorem dX5_why_18 : decode cX5_why 18 = .ok (.invokestatic 209, 3) := by decide +kernel
theorem dX5_why_21 : decode cX5_why 21 = .ok (.aload_n 0, 1) := by decide +kernel
theorem dX5_why_22 : decode cX5_why 22 = .ok (.getfield 10, 3) := by decide +kernel
theorem dX5_why_25 : decode cX5_why 25 = .ok (.iload_n 1, 1) := by decide +kernel
theorem dX5_why_26 : decode cX5_why 26 = .ok (.iload_n 2, 1) := by decide +kernel
theorem dX5_why_27 : decode cX5_why 27 = .ok (.iload_n 3, 1) := by decide +kernel
theorem dX5_why_28 : decode cX5_why 28 = .ok (.iload 4, 2) := by decide +kernel
theorem dX5_why_30 : decode cX5_why 30 = .ok (.invokevirtual 212, 3) := by decide +kernel
theorem dX5_why_33 : decode cX5_why 33 = .ok (.istore 6, 2) := by decide +kernel
theorem dX5_why_35 : decode cX5_why 35 = .ok (.iload 5, 2) := by decide +kernel
theorem dX5_why_37 : decode cX5_why 37 = .ok (.ifCond .ne 6, 3) := by decide +kernel
theorem dX5_why_40 : decode cX5_why 40 = .ok (.iload 6, 2) := by decide +kernel
theorem dX5_why_42 : decode cX5_why 42 = .ok (.ireturn, 1) := by decide +kernel
theorem dX5_why_43 : decode cX5_why 43 = .ok (.iload 5, 2) := by decide +kernel
theorem dX5_why_45 : decode cX5_why 45 = .ok (.iconst 1, 1) := by decide +kernel
theorem dX5_why_46 : decode cX5_why 46 = .ok (.if_icmp .ne 20, 3) := by decide +kernel
theorem dX5_why_49 : decode cX5_why 49 = .ok (.aload_n 0, 1) := by decide +kernel
theorem dX5_why_50 : decode cX5_why 50 = .ok (.getfield 10, 3) := by decide +kernel
theorem dX5_why_53 : decode cX5_why 53 = .ok (.iload 6, 2) := by decide +kernel
theorem dX5_why_55 : decode cX5_why 55 = .ok (.iload_n 1, 1) := by decide +kernel
theorem dX5_why_56 : decode cX5_why 56 = .ok (.iload_n 2, 1) := by decide +kernel
theorem dX5_why_57 : decode cX5_why 57 = .ok (.iload_n 3, 1) := by decide +kernel
theorem dX5_why_58 : decode cX5_why 58 = .ok (.iload 4, 2) := by decide +kernel
theorem dX5_why_60 : decode cX5_why 60 = .ok (.invokevirtual 216, 3) := by decide +kernel
theorem dX5_why_63 : decode cX5_why 63 = .ok (.goto 14, 3) := by decide +kernel
theorem dX5_why_66 : decode cX5_why 66 = .ok (.aload_n 0, 1) := by decide +kernel
theorem dX5_why_67 : decode cX5_why 67 = .ok (.getfield 10, 3) := by decide +kernel
theorem dX5_why_70 : decode cX5_why 70 = .ok (.iload 6, 2) := by decide +kernel
theorem dX5_why_72 : decode cX5_why 72 = .ok (.iload_n 1, 1) := by decide +kernel
theorem dX5_why_73 : decode cX5_why 73 = .ok (.iload_n 3, 1) := by decide +kernel
theorem dX5_why_74 : decode cX5_why 74 = .ok (.invokevirtual 220, 3) := by decide +kernel
theorem dX5_why_77 : decode cX5_why 77 = .ok (.ireturn, 1) := by decide +kernel
theorem dX5_gap_0 : decode cX5_gap 0 = .ok (.aload_n 0, 1) := by decide +kernel
theorem dX5_gap_1 : decode cX5_gap 1 = .ok (.getfield 10, 3) := by decide +kernel
theorem dX5_gap_4 : decode cX5_gap 4 = .ok (.getfield 143, 3) := by decide +kernel
theorem dX5_gap_7 : decode cX5_gap 7 = .ok (.astore_n 1, 1) := by decide +kernel
theorem dX5_gap_8 : decode cX5_gap 8 = .ok (.aload_n 1, 1) := by decide +kernel
theorem dX5_gap_9 : decode cX5_gap 9 = .ok (.iconst 4, 1) := by decide +kernel
theorem dX5_gap_10 : decode cX5_gap 10 = .ok (.iaload, 1) := by decide +kernel
theorem dX5_gap_11 : decode cX5_gap 11 = .ok (.aload_n 1, 1) := by decide +kernel
theorem dX5_gap_12 : decode cX5_gap 12 = .ok (.iconst 5, 1) := by decide +kernel
theorem dX5_gap_13 : decode cX5_gap 13 = .ok (.iaload, 1) := by decide +kernel
theorem dX5_gap_14 : decode cX5_gap 14 = .ok (.iadd, 1) := by decide +kernel
theorem dX5_gap_15 : decode cX5_gap 15 = .ok (.aload_n 1, 1) := by decide +kernel
theorem dX5_gap_16 : decode cX5_gap 16 = .ok (.bipush 6, 2) := by decide +kernel
theorem dX5_gap_18 : decode cX5_gap 18 = .ok (.iaload, 1) := by decide +kernel
theorem dX5_gap_19 : decode cX5_gap 19 = .ok (.iadd, 1) := by decide +kernel
theorem dX5_gap_20 : decode cX5_gap 20 = .ok (.aload_n 0, 1) := by decide +kernel
theorem dX5_gap_21 : decode cX5_gap 21 = .ok (.getfield 10, 3) := by decide +kernel
theorem dX5_gap_24 : decode cX5_gap 24 = .ok (.getfield 224, 3) := by decide +kernel
theorem dX5_gap_27 : decode cX5_gap 27 = .ok (.isub, 1) := by decide +kernel
theorem dX5_gap_28 : decode cX5_gap 28 = .ok (.istore_n 2, 1) := by decide +kernel
theorem dX5_gap_29 : decode cX5_gap 29 = .ok (.aload_n 1, 1) := by decide +kernel
theorem dX5_gap_30 : decode cX5_gap 30 = .ok (.bipush 8, 2) := by decide +kernel
theorem dX5_gap_32 : decode cX5_gap 32 = .ok (.iaload, 1) := by decide +kernel
theorem dX5_gap_33 : decode cX5_gap 33 = .ok (.aload_n 1, 1) := by decide +kernel
theorem dX5_gap_34 : decode cX5_gap 34 = .ok (.bipush 9, 2) := by decide +kernel
theorem dX5_gap_36 : decode cX5_gap 36 = .ok (.iaload, 1) := by decide +kernel
theorem dX5_gap_37 : decode cX5_gap 37 = .ok (.isub, 1) := by decide +kernel
theorem dX5_gap_38 : decode cX5_gap 38 = .ok (.aload_n 0, 1) := by decide +kernel
theorem dX5_gap_39 : decode cX5_gap 39 = .ok (.getfield 10, 3) := by decide +kernel
theorem dX5_gap_42 : decode cX5_gap 42 = .ok (.aload_n 0, 1) := by decide +kernel
theorem dX5_gap_43 : decode cX5_gap 43 = .ok (.getfield 10, 3) := by decide +kernel
theorem dX5_gap_46 : decode cX5_gap 46 = .ok (.getfield 127, 3) := by decide +kernel
theorem dX5_gap_49 : decode cX5_gap 49 = .ok (.invokevirtual 124, 3) := by decide +kernel
theorem dX5_gap_52 : decode cX5_gap 52 = .ok (.isub, 1) := by decide +kernel
theorem dX5_gap_53 : decode cX5_gap 53 = .ok (.istore_n 3, 1) := by decide +kernel
theorem dX5_gap_54 : decode cX5_gap 54 = .ok (.aload_n 1, 1) := by decide +kernel
theorem dX5_gap_55 : decode cX5_gap 55 = .ok (.bipush 10, 2) := by decide +kernel
theorem dX5_gap_57 : decode cX5_gap 57 = .ok (.iaload, 1) := by decide +kernel
theorem dX5_gap_58 : decode cX5_gap 58 = .ok (.aload_n 1, 1) := by decide +kernel
theorem dX5_gap_59 : decode cX5_gap 59 = .ok (.iconst 5, 1) := by decide +kernel
theorem dX5_gap_60 : decode cX5_gap 60 = .ok (.iaload, 1) := by decide +kernel
theorem dX5_gap_61 : decode cX5_gap 61 = .ok (.isub, 1) := by decide +kernel
theorem dX5_gap_62 : decode cX5_gap 62 = .ok (.aload_n 1, 1) := by decide +kernel
theorem dX5_gap_63 : decode cX5_gap 63 = .ok (.bipush 11, 2) := by decide +kernel
theorem dX5_gap_65 : decode cX5_gap 65 = .ok (.iaload, 1) := by decide +kernel
theorem dX5_gap_66 : decode cX5_gap 66 = .ok (.isub, 1) := by decide +kernel
theorem dX5_gap_67 : decode cX5_gap 67 = .ok (.aload_n 0, 1) := by decide +kernel
theorem dX5_gap_68 : decode cX5_gap 68 = .ok (.getfield 10, 3) := by decide +kernel
theorem dX5_gap_71 : decode cX5_gap 71 = .ok (.aload_n 0, 1) := by decide +kernel
theorem dX5_gap_72 : decode cX5_gap 72 = .ok (.getfield 10, 3) := by decide +kernel
theorem dX5_gap_75 : decode cX5_gap 75 = .ok (.getfield 121, 3) := by decide +kernel
theorem dX5_gap_78 : decode cX5_gap 78 = .ok (.invokevirtual 124, 3) := by decide +kernel
theorem dX5_gap_81 : decode cX5_gap 81 = .ok (.isub, 1) := by decide +kernel
theorem dX5_gap_82 : decode cX5_gap 82 = .ok (.istore 4, 2) := by decide +kernel
theorem dX5_gap_84 : decode cX5_gap 84 = .ok (.iload_n 2, 1) := by decide +kernel
theorem dX5_gap_85 : decode cX5_gap 85 = .ok (.iload_n 3, 1) := by decide +kernel
theorem dX5_gap_86 : decode cX5_gap 86 = .ok (.iadd, 1) := by decide +kernel
theorem dX5_gap_87 : decode cX5_gap 87 = .ok (.iload 4, 2) := by decide +kernel
theorem dX5_gap_89 : decode cX5_gap 89 = .ok (.iadd, 1) := by decide +kernel
theorem dX5_gap_90 : decode cX5_gap 90 = .ok (.ireturn, 1) := by decide +kernel
theorem dX5_meanFast_0 : decode cX5_meanFast 0 = .ok (.aload_n 0, 1) := by decide +kernel
theorem dX5_meanFast_1 : decode cX5_meanFast 1 = .ok (.getfield 10, 3) := by decide +kernel
theorem dX5_meanFast_4 : decode cX5_meanFast 4 = .ok (.getfield 84, 3) := by decide +kernel
theorem dX5_meanFast_7 : decode cX5_meanFast 7 = .ok (.ifCond .ne 5, 3) := by decide +kernel
theorem dX5_meanFast_10 : decode cX5_meanFast 10 = .ok (.dconst 0, 1) := by decide +kernel
theorem dX5_meanFast_11 : decode cX5_meanFast 11 = .ok (.dreturn, 1) := by decide +kernel
theorem dX5_meanFast_12 : decode cX5_meanFast 12 = .ok (.aload_n 0, 1) := by decide +kernel
theorem dX5_meanFast_13 : decode cX5_meanFast 13 = .ok (.getfield 10, 3) := by decide +kernel
theorem dX5_meanFast_16 : decode cX5_meanFast 16 = .ok (.aload_n 0, 1) := by decide +kernel
theorem dX5_meanFast_17 : decode cX5_meanFast 17 = .ok (.getfield 10, 3) := by decide +kernel
theorem dX5_meanFast_20 : decode cX5_meanFast 20 = .ok (.getfield 127, 3) := by decide +kernel
theorem dX5_meanFast_23 : decode cX5_meanFast 23 = .ok (.invokevirtual 124, 3) := by decide +kernel
theorem dX5_meanFast_26 : decode cX5_meanFast 26 = .ok (.i2d, 1) := by decide +kernel
theorem dX5_meanFast_27 : decode cX5_meanFast 27 = .ok (.aload_n 0, 1) := by decide +kernel
theorem dX5_meanFast_28 : decode cX5_meanFast 28 = .ok (.getfield 10, 3) := by decide +kernel
theorem dX5_meanFast_31 : decode cX5_meanFast 31 = .ok (.getfield 84, 3) := by decide +kernel
theorem dX5_meanFast_34 : decode cX5_meanFast 34 = .ok (.i2d, 1) := by decide +kernel
theorem dX5_meanFast_35 : decode cX5_meanFast 35 = .ok (.ddiv, 1) := by decide +kernel
theorem dX5_meanFast_36 : decode cX5_meanFast 36 = .ok (.dreturn, 1) := by decide +kernel
theorem dX5_breachShare_0 : decode cX5_breachShare 0 = .ok (.aload_n 0, 1) := by decide +kernel
theorem dX5_breachShare_1 : decode cX5_breachShare 1 = .ok (.getfield 10, 3) := by decide +kernel
theorem dX5_breachShare_4 : decode cX5_breachShare 4 = .ok (.getfield 143, 3) := by decide +kernel
theorem dX5_breachShare_7 : decode cX5_breachShare 7 = .ok (.astore_n 1, 1) := by decide +kernel
theorem dX5_breachShare_8 : decode cX5_breachShare 8 = .ok (.aload_n 1, 1) := by decide +kernel
theorem dX5_breachShare_9 : decode cX5_breachShare 9 = .ok (.iconst 4, 1) := by decide +kernel
theorem dX5_breachShare_10 : decode cX5_breachShare 10 = .ok (.iaload, 1) := by decide +kernel
theorem dX5_breachShare_11 : decode cX5_breachShare 11 = .ok (.aload_n 1, 1) := by decide +kernel
theorem dX5_breachShare_12 : decode cX5_breachShare 12 = .ok (.iconst 5, 1) := by decide +kernel
theorem dX5_breachShare_13 : decode cX5_breachShare 13 = .ok (.iaload, 1) := by decide +kernel
theorem dX5_breachShare_14 : decode cX5_breachShare 14 = .ok (.iadd, 1) := by decide +kernel
theorem dX5_breachShare_15 : decode cX5_breachShare 15 = .ok (.aload_n 1, 1) := by decide +kernel
theorem dX5_breachShare_16 : decode cX5_breachShare 16 = .ok (.bipush 6, 2) := by decide +kernel
theorem dX5_breachShare_18 : decode cX5_breachShare 18 = .ok (.iaload, 1) := by decide +kernel
theorem dX5_breachShare_19 : decode cX5_breachShare 19 = .ok (.iadd, 1) := by decide +kernel
theorem dX5_breachShare_20 : decode cX5_breachShare 20 = .ok (.istore_n 2, 1) := by decide +kernel
theorem dX5_breachShare_21 : decode cX5_breachShare 21 = .ok (.iload_n 2, 1) := by decide +kernel
theorem dX5_breachShare_22 : decode cX5_breachShare 22 = .ok (.ifCond .ne 5, 3) := by decide +kernel
theorem dX5_breachShare_25 : decode cX5_breachShare 25 = .ok (.fconst 0, 1) := by decide +kernel
theorem dX5_breachShare_26 : decode cX5_breachShare 26 = .ok (.freturn, 1) := by decide +kernel
theorem dX5_breachShare_27 : decode cX5_breachShare 27 = .ok (.aload_n 1, 1) := by decide +kernel
theorem dX5_breachShare_28 : decode cX5_breachShare 28 = .ok (.bipush 6, 2) := by decide +kernel
theorem dX5_breachShare_30 : decode cX5_breachShare 30 = .ok (.iaload, 1) := by decide +kernel
theorem dX5_breachShare_31 : decode cX5_breachShare 31 = .ok (.i2f, 1) := by decide +kernel
theorem dX5_breachShare_32 : decode cX5_breachShare 32 = .ok (.iload_n 2, 1) := by decide +kernel
theorem dX5_breachShare_33 : decode cX5_breachShare 33 = .ok (.i2f, 1) := by decide +kernel
theorem dX5_breachShare_34 : decode cX5_breachShare 34 = .ok (.fdiv, 1) := by decide +kernel
theorem dX5_breachShare_35 : decode cX5_breachShare 35 = .ok (.freturn, 1) := by decide +kernel
theorem dX5_ranked_0 : decode cX5_ranked 0 = .ok (.iconst 0, 1) := by decide +kernel
theorem dX5_ranked_1 : decode cX5_ranked 1 = .ok (.istore_n 2, 1) := by decide +kernel
theorem dX5_ranked_2 : decode cX5_ranked 2 = .ok (.iload_n 2, 1) := by decide +kernel
theorem dX5_ranked_3 : decode cX5_ranked 3 = .ok (.aload_n 0, 1) := by decide +kernel
theorem dX5_ranked_4 : decode cX5_ranked 4 = .ok (.getfield 10, 3) := by decide +kernel
theorem dX5_ranked_7 : decode cX5_ranked 7 = .ok (.getfield 84, 3) := by decide +kernel
theorem dX5_ranked_10 : decode cX5_ranked 10 = .ok (.if_icmp .ge 23, 3) := by decide +kernel
theorem dX5_ranked_13 : decode cX5_ranked 13 = .ok (.aload_n 0, 1) := by decide +kernel
theorem dX5_ranked_14 : decode cX5_ranked 14 = .ok (.getfield 10, 3) := by decide +kernel
theorem dX5_ranked_17 : decode cX5_ranked 17 = .ok (.iload_n 2, 1) := by decide +kernel
theorem dX5_ranked_18 : decode cX5_ranked 18 = .ok (.invokevirtual 227, 3) := by decide +kernel
theorem dX5_ranked_21 : decode cX5_ranked 21 = .ok (.iload_n 1, 1) := by decide +kernel
theorem dX5_ranked_22 : decode cX5_ranked 22 = .ok (.if_icmp .ne 5, 3) := by decide +kernel
theorem dX5_ranked_25 : decode cX5_ranked 25 = .ok (.iload_n 2, 1) := by decide +kernel
theorem dX5_ranked_26 : decode cX5_ranked 26 = .ok (.ireturn, 1) := by decide +kernel
theorem dX5_ranked_27 : decode cX5_ranked 27 = .ok (.iinc 2 1, 3) := by decide +kernel
theorem dX5_ranked_30 : decode cX5_ranked 30 = .ok (.goto (-28), 3) := by decide +kernel
theorem dX5_ranked_33 : decode cX5_ranked 33 = .ok (.iconst (-1), 1) := by decide +kernel
theorem dX5_ranked_34 : decode cX5_ranked 34 = .ok (.ireturn, 1) := by decide +kernel
theorem dX5_bestWay_0 : decode cX5_bestWay 0 = .ok (.aload_n 0, 1) := by decide +kernel
theorem dX5_bestWay_1 : decode cX5_bestWay 1 = .ok (.iload_n 1, 1) := by decide +kernel
theorem dX5_bestWay_2 : decode cX5_bestWay 2 = .ok (.iload_n 2, 1) := by decide +kernel
theorem dX5_bestWay_3 : decode cX5_bestWay 3 = .ok (.iload_n 3, 1) := by decide +kernel
theorem dX5_bestWay_4 : decode cX5_bestWay 4 = .ok (.invokevirtual 205, 3) := by decide +kernel
theorem dX5_bestWay_7 : decode cX5_bestWay 7 = .ok (.iconst (-1), 1) := by decide +kernel
theorem dX5_bestWay_8 : decode cX5_bestWay 8 = .ok (.istore 4, 2) := by decide +kernel
theorem dX5_bestWay_10 : decode cX5_bestWay 10 = .ok (.iconst 0, 1) := by decide +kernel
theorem dX5_bestWay_11 : decode cX5_bestWay 11 = .ok (.istore 5, 2) := by decide +kernel
theorem dX5_bestWay_13 : decode cX5_bestWay 13 = .ok (.iconst 0, 1) := by decide +kernel
theorem dX5_bestWay_14 : decode cX5_bestWay 14 = .ok (.istore 6, 2) := by decide +kernel
theorem dX5_bestWay_16 : decode cX5_bestWay 16 = .ok (.iload 6, 2) := by decide +kernel
theorem dX5_bestWay_18 : decode cX5_bestWay 18 = .ok (.iconst 2, 1) := by decide +kernel
theorem dX5_bestWay_19 : decode cX5_bestWay 19 = .ok (.if_icmp .gt 58, 3) := by decide +kernel
theorem dX5_bestWay_22 : decode cX5_bestWay 22 = .ok (.aload_n 0, 1) := by decide +kernel
theorem dX5_bestWay_23 : decode cX5_bestWay 23 = .ok (.getfield 10, 3) := by decide +kernel
theorem dX5_bestWay_26 : decode cX5_bestWay 26 = .ok (.iload_n 1, 1) := by decide +kernel
theorem dX5_bestWay_27 : decode cX5_bestWay 27 = .ok (.iload_n 2, 1) := by decide +kernel
theorem dX5_bestWay_28 : decode cX5_bestWay 28 = .ok (.iload_n 3, 1) := by decide +kernel
theorem dX5_bestWay_29 : decode cX5_bestWay 29 = .ok (.iload 6, 2) := by decide +kernel
theorem dX5_bestWay_31 : decode cX5_bestWay 31 = .ok (.invokevirtual 230, 3) := by decide +kernel
theorem dX5_bestWay_34 : decode cX5_bestWay 34 = .ok (.ifCond .ne 37, 3) := by decide +kernel
theorem dX5_bestWay_37 : decode cX5_bestWay 37 = .ok (.aload_n 0, 1) := by decide +kernel
theorem dX5_bestWay_38 : decode cX5_bestWay 38 = .ok (.getfield 10, 3) := by decide +kernel
theorem dX5_bestWay_41 : decode cX5_bestWay 41 = .ok (.iload_n 1, 1) := by decide +kernel
theorem dX5_bestWay_42 : decode cX5_bestWay 42 = .ok (.iload_n 3, 1) := by decide +kernel
theorem dX5_bestWay_43 : decode cX5_bestWay 43 = .ok (.iload 6, 2) := by decide +kernel
theorem dX5_bestWay_45 : decode cX5_bestWay 45 = .ok (.invokevirtual 233, 3) := by decide +kernel
theorem dX5_bestWay_48 : decode cX5_bestWay 48 = .ok (.istore 7, 2) := by decide +kernel
theorem dX5_bestWay_50 : decode cX5_bestWay 50 = .ok (.iload 4, 2) := by decide +kernel
theorem dX5_bestWay_52 : decode cX5_bestWay 52 = .ok (.iconst (-1), 1) := by decide +kernel
theorem dX5_bestWay_53 : decode cX5_bestWay 53 = .ok (.if_icmp .eq 10, 3) := by decide +kernel
theorem dX5_bestWay_56 : decode cX5_bestWay 56 = .ok (.iload 7, 2) := by decide +kernel
theorem dX5_bestWay_58 : decode cX5_bestWay 58 = .ok (.iload 5, 2) := by decide +kernel
theorem dX5_bestWay_60 : decode cX5_bestWay 60 = .ok (.if_icmp .ge 11, 3) := by decide +kernel
theorem dX5_bestWay_63 : decode cX5_bestWay 63 = .ok (.iload 6, 2) := by decide +kernel
theorem dX5_bestWay_65 : decode cX5_bestWay 65 = .ok (.istore 4, 2) := by decide +kernel
theorem dX5_bestWay_67 : decode cX5_bestWay 67 = .ok (.iload 7, 2) := by decide +kernel
theorem dX5_bestWay_69 : decode cX5_bestWay 69 = .ok (.istore 5, 2) := by decide +kernel
theorem dX5_bestWay_71 : decode cX5_bestWay 71 = .ok (.iinc 6 1, 3) := by decide +kernel
theorem dX5_bestWay_74 : decode cX5_bestWay 74 = .ok (.goto (-58), 3) := by decide +kernel
theorem dX5_bestWay_77 : decode cX5_bestWay 77 = .ok (.iload 4, 2) := by decide +kernel
theorem dX5_bestWay_79 : decode cX5_bestWay 79 = .ok (.ireturn, 1) := by decide +kernel
theorem dX5_speechIn_0 : decode cX5_speechIn 0 = .ok (.iconst 0, 1) := by decide +kernel
theorem dX5_speechIn_1 : decode cX5_speechIn 1 = .ok (.istore_n 1, 1) := by decide +kernel
theorem dX5_speechIn_2 : decode cX5_speechIn 2 = .ok (.iload_n 1, 1) := by decide +kernel
theorem dX5_speechIn_3 : decode cX5_speechIn 3 = .ok (.bipush 24, 2) := by decide +kernel
theorem dX5_speechIn_5 : decode cX5_speechIn 5 = .ok (.if_icmp .ge 33, 3) := by decide +kernel
theorem dX5_speechIn_8 : decode cX5_speechIn 8 = .ok (.aload_n 0, 1) := by decide +kernel
theorem dX5_speechIn_9 : decode cX5_speechIn 9 = .ok (.getfield 10, 3) := by decide +kernel
theorem dX5_speechIn_12 : decode cX5_speechIn 12 = .ok (.aload_n 0, 1) := by decide +kernel
theorem dX5_speechIn_13 : decode cX5_speechIn 13 = .ok (.getfield 10, 3) := by decide +kernel
theorem dX5_speechIn_16 : decode cX5_speechIn 16 = .ok (.getfield 99, 3) := by decide +kernel
theorem dX5_speechIn_19 : decode cX5_speechIn 19 = .ok (.iload_n 1, 1) := by decide +kernel
theorem dX5_speechIn_20 : decode cX5_speechIn 20 = .ok (.iadd, 1) := by decide +kernel
theorem dX5_speechIn_21 : decode cX5_speechIn 21 = .ok (.bipush 24, 2) := by decide +kernel
theorem dX5_speechIn_23 : decode cX5_speechIn 23 = .ok (.irem, 1) := by decide +kernel
theorem dX5_speechIn_24 : decode cX5_speechIn 24 = .ok (.invokevirtual 102, 3) := by decide +kernel
theorem dX5_speechIn_27 : decode cX5_speechIn 27 = .ok (.ifCond .eq 5, 3) := by decide +kernel
theorem dX5_speechIn_30 : decode cX5_speechIn 30 = .ok (.iload_n 1, 1) := by decide +kernel
theorem dX5_speechIn_31 : decode cX5_speechIn 31 = .ok (.ireturn, 1) := by decide +kernel
theorem dX5_speechIn_32 : decode cX5_speechIn 32 = .ok (.iinc 1 1, 3) := by decide +kernel
theorem dX5_speechIn_35 : decode cX5_speechIn 35 = .ok (.goto (-33), 3) := by decide +kernel
theorem dX5_speechIn_38 : decode cX5_speechIn 38 = .ok (.iconst (-1), 1) := by decide +kernel
theorem dX5_speechIn_39 : decode cX5_speechIn 39 = .ok (.ireturn, 1) := by decide +kernel
theorem dX5_fastIn_0 : decode cX5_fastIn 0 = .ok (.iload_n 1, 1) := by decide +kernel
theorem dX5_fastIn_1 : decode cX5_fastIn 1 = .ok (.iconst 0, 1) := by decide +kernel
theorem dX5_fastIn_2 : decode cX5_fastIn 2 = .ok (.sipush 999, 3) := by decide +kernel
theorem dX5_fastIn_5 : decode cX5_fastIn 5 = .ok (.invokestatic 209, 3) := by decide +kernel
theorem dX5_fastIn_8 : decode cX5_fastIn 8 = .ok (.aload_n 0, 1) := by decide +kernel
theorem dX5_fastIn_9 : decode cX5_fastIn 9 = .ok (.getfield 10, 3) := by decide +kernel
theorem dX5_fastIn_12 : decode cX5_fastIn 12 = .ok (.iload_n 1, 1) := by decide +kernel
theorem dX5_fastIn_13 : decode cX5_fastIn 13 = .ok (.invokevirtual 236, 3) := by decide +kernel
theorem dX5_fastIn_16 : decode cX5_fastIn 16 = .ok (.ireturn, 1) := by decide +kernel
theorem dX5_freeIn_0 : decode cX5_freeIn 0 = .ok (.aload_n 0, 1) := by decide +kernel
theorem dX5_freeIn_1 : decode cX5_freeIn 1 = .ok (.iload_n 1, 1) := by decide +kernel
theorem dX5_freeIn_2 : decode cX5_freeIn 2 = .ok (.invokevirtual 146, 3) := by decide +kernel
theorem dX5_freeIn_5 : decode cX5_freeIn 5 = .ok (.aload_n 0, 1) := by decide +kernel
theorem dX5_freeIn_6 : decode cX5_freeIn 6 = .ok (.getfield 10, 3) := by decide +kernel
theorem dX5_freeIn_9 : decode cX5_freeIn 9 = .ok (.getfield 127, 3) := by decide +kernel
theorem dX5_freeIn_12 : decode cX5_freeIn 12 = .ok (.iload_n 1, 1) := by decide +kernel
theorem dX5_freeIn_13 : decode cX5_freeIn 13 = .ok (.iaload, 1) := by decide +kernel
theorem dX5_freeIn_14 : decode cX5_freeIn 14 = .ok (.ifCond .ne 5, 3) := by decide +kernel
theorem dX5_freeIn_17 : decode cX5_freeIn 17 = .ok (.iconst 0, 1) := by decide +kernel
theorem dX5_freeIn_18 : decode cX5_freeIn 18 = .ok (.ireturn, 1) := by decide +kernel
theorem dX5_freeIn_19 : decode cX5_freeIn 19 = .ok (.aload_n 0, 1) := by decide +kernel
theorem dX5_freeIn_20 : decode cX5_freeIn 20 = .ok (.getfield 10, 3) := by decide +kernel
theorem dX5_freeIn_23 : decode cX5_freeIn 23 = .ok (.getfield 127, 3) := by decide +kernel
theorem dX5_freeIn_26 : decode cX5_freeIn 26 = .ok (.iload_n 1, 1) := by decide +kernel
theorem dX5_freeIn_27 : decode cX5_freeIn 27 = .ok (.iaload, 1) := by decide +kernel
theorem dX5_freeIn_28 : decode cX5_freeIn 28 = .ok (.aload_n 0, 1) := by decide +kernel
theorem dX5_freeIn_29 : decode cX5_freeIn 29 = .ok (.getfield 10, 3) := by decide +kernel
theorem dX5_freeIn_32 : decode cX5_freeIn 32 = .ok (.getfield 155, 3) := by decide +kernel
theorem dX5_freeIn_35 : decode cX5_freeIn 35 = .ok (.iload_n 1, 1) := by decide +kernel
theorem dX5_freeIn_36 : decode cX5_freeIn 36 = .ok (.iaload, 1) := by decide +kernel
theorem dX5_freeIn_37 : decode cX5_freeIn 37 = .ok (.iadd, 1) := by decide +kernel
theorem dX5_freeIn_38 : decode cX5_freeIn 38 = .ok (.istore_n 2, 1) := by decide +kernel
theorem dX5_freeIn_39 : decode cX5_freeIn 39 = .ok (.iload_n 2, 1) := by decide +kernel
theorem dX5_freeIn_40 : decode cX5_freeIn 40 = .ok (.bipush 24, 2) := by decide +kernel
theorem dX5_freeIn_42 : decode cX5_freeIn 42 = .ok (.imul, 1) := by decide +kernel
theorem dX5_freeIn_43 : decode cX5_freeIn 43 = .ok (.aload_n 0, 1) := by decide +kernel
theorem dX5_freeIn_44 : decode cX5_freeIn 44 = .ok (.getfield 10, 3) := by decide +kernel
theorem dX5_freeIn_47 : decode cX5_freeIn 47 = .ok (.getfield 99, 3) := by decide +kernel
theorem dX5_freeIn_50 : decode cX5_freeIn 50 = .ok (.bipush 24, 2) := by decide +kernel
theorem dX5_freeIn_52 : decode cX5_freeIn 52 = .ok (.irem, 1) := by decide +kernel
theorem dX5_freeIn_53 : decode cX5_freeIn 53 = .ok (.isub, 1) := by decide +kernel
theorem dX5_freeIn_54 : decode cX5_freeIn 54 = .ok (.ireturn, 1) := by decide +kernel
theorem dX5_bestBell_0 : decode cX5_bestBell 0 = .ok (.iconst 0, 1) := by decide +kernel
theorem dX5_bestBell_1 : decode cX5_bestBell 1 = .ok (.istore_n 1, 1) := by decide +kernel
theorem dX5_bestBell_2 : decode cX5_bestBell 2 = .ok (.iconst 1, 1) := by decide +kernel
theorem dX5_bestBell_3 : decode cX5_bestBell 3 = .ok (.istore_n 2, 1) := by decide +kernel
theorem dX5_bestBell_4 : decode cX5_bestBell 4 = .ok (.iload_n 2, 1) := by decide +kernel
theorem dX5_bestBell_5 : decode cX5_bestBell 5 = .ok (.bipush 24, 2) := by decide +kernel
theorem dX5_bestBell_7 : decode cX5_bestBell 7 = .ok (.if_icmp .ge 30, 3) := by decide +kernel
theorem dX5_bestBell_10 : decode cX5_bestBell 10 = .ok (.aload_n 0, 1) := by decide +kernel
theorem dX5_bestBell_11 : decode cX5_bestBell 11 = .ok (.getfield 10, 3) := by decide +kernel
theorem dX5_bestBell_14 : decode cX5_bestBell 14 = .ok (.iload_n 2, 1) := by decide +kernel
theorem dX5_bestBell_15 : decode cX5_bestBell 15 = .ok (.invokevirtual 110, 3) := by decide +kernel
theorem dX5_bestBell_18 : decode cX5_bestBell 18 = .ok (.aload_n 0, 1) := by decide +kernel
theorem dX5_bestBell_19 : decode cX5_bestBell 19 = .ok (.getfield 10, 3) := by decide +kernel
theorem dX5_bestBell_22 : decode cX5_bestBell 22 = .ok (.iload_n 1, 1) := by decide +kernel
theorem dX5_bestBell_23 : decode cX5_bestBell 23 = .ok (.invokevirtual 110, 3) := by decide +kernel
theorem dX5_bestBell_26 : decode cX5_bestBell 26 = .ok (.if_icmp .le 5, 3) := by decide +kernel
theorem dX5_bestBell_29 : decode cX5_bestBell 29 = .ok (.iload_n 2, 1) := by decide +kernel
theorem dX5_bestBell_30 : decode cX5_bestBell 30 = .ok (.istore_n 1, 1) := by decide +kernel
theorem dX5_bestBell_31 : decode cX5_bestBell 31 = .ok (.iinc 2 1, 3) := by decide +kernel
theorem dX5_bestBell_34 : decode cX5_bestBell 34 = .ok (.goto (-30), 3) := by decide +kernel
theorem dX5_bestBell_37 : decode cX5_bestBell 37 = .ok (.iload_n 1, 1) := by decide +kernel
theorem dX5_bestBell_38 : decode cX5_bestBell 38 = .ok (.ireturn, 1) := by decide +kernel
theorem dX5_bestHearer_0 : decode cX5_bestHearer 0 = .ok (.iconst 0, 1) := by decide +kernel
theorem dX5_bestHearer_1 : decode cX5_bestHearer 1 = .ok (.istore_n 1, 1) := by decide +kernel
theorem dX5_bestHearer_2 : decode cX5_bestHearer 2 = .ok (.iconst 1, 1) := by decide +kernel
theorem dX5_bestHearer_3 : decode cX5_bestHearer 3 = .ok (.istore_n 2, 1) := by decide +kernel
theorem dX5_bestHearer_4 : decode cX5_bestHearer 4 = .ok (.iload_n 2, 1) := by decide +kernel
theorem dX5_bestHearer_5 : decode cX5_bestHearer 5 = .ok (.aload_n 0, 1) := by decide +kernel
theorem dX5_bestHearer_6 : decode cX5_bestHearer 6 = .ok (.getfield 10, 3) := by decide +kernel
theorem dX5_bestHearer_9 : decode cX5_bestHearer 9 = .ok (.getfield 84, 3) := by decide +kernel
theorem dX5_bestHearer_12 : decode cX5_bestHearer 12 = .ok (.if_icmp .ge 30, 3) := by decide +kernel
theorem dX5_bestHearer_15 : decode cX5_bestHearer 15 = .ok (.aload_n 0, 1) := by decide +kernel
theorem dX5_bestHearer_16 : decode cX5_bestHearer 16 = .ok (.getfield 10, 3) := by decide +kernel
theorem dX5_bestHearer_19 : decode cX5_bestHearer 19 = .ok (.iload_n 2, 1) := by decide +kernel
theorem dX5_bestHearer_20 : decode cX5_bestHearer 20 = .ok (.invokevirtual 239, 3) := by decide +kernel
theorem dX5_bestHearer_23 : decode cX5_bestHearer 23 = .ok (.aload_n 0, 1) := by decide +kernel
theorem dX5_bestHearer_24 : decode cX5_bestHearer 24 = .ok (.getfield 10, 3) := by decide +kernel
theorem dX5_bestHearer_27 : decode cX5_bestHearer 27 = .ok (.iload_n 1, 1) := by decide +kernel
theorem dX5_bestHearer_28 : decode cX5_bestHearer 28 = .ok (.invokevirtual 239, 3) := by decide +kernel
theorem dX5_bestHearer_31 : decode cX5_bestHearer 31 = .ok (.if_icmp .le 5, 3) := by decide +kernel
theorem dX5_bestHearer_34 : decode cX5_bestHearer 34 = .ok (.iload_n 2, 1) := by decide +kernel
theorem dX5_bestHearer_35 : decode cX5_bestHearer 35 = .ok (.istore_n 1, 1) := by decide +kernel
theorem dX5_bestHearer_36 : decode cX5_bestHearer 36 = .ok (.iinc 2 1, 3) := by decide +kernel
theorem dX5_bestHearer_39 : decode cX5_bestHearer 39 = .ok (.goto (-35), 3) := by decide +kernel
theorem dX5_bestHearer_42 : decode cX5_bestHearer 42 = .ok (.iload_n 1, 1) := by decide +kernel
theorem dX5_bestHearer_43 : decode cX5_bestHearer 43 = .ok (.ireturn, 1) := by decide +kernel
theorem dX5_want_0 : decode cX5_want 0 = .ok (.aload_n 0, 1) := by decide +kernel
theorem dX5_want_1 : decode cX5_want 1 = .ok (.iload_n 1, 1) := by decide +kernel
theorem dX5_want_2 : decode cX5_want 2 = .ok (.invokevirtual 146, 3) := by decide +kernel
theorem dX5_want_5 : decode cX5_want 5 = .ok (.aload_n 0, 1) := by decide +kernel
theorem dX5_want_6 : decode cX5_want 6 = .ok (.iload_n 2, 1) := by decide +kernel
theorem dX5_want_7 : decode cX5_want 7 = .ok (.invokevirtual 176, 3) := by decide +kernel
theorem dX5_want_10 : decode cX5_want 10 = .ok (.aload_n 0, 1) := by decide +kernel
theorem dX5_want_11 : decode cX5_want 11 = .ok (.getfield 10, 3) := by decide +kernel
theorem dX5_want_14 : decode cX5_want 14 = .ok (.iload_n 1, 1) := by decide +kernel
theorem dX5_want_15 : decode cX5_want 15 = .ok (.iload_n 2, 1) := by decide +kernel
theorem dX5_want_16 : decode cX5_want 16 = .ok (.invokevirtual 242, 3) := by decide +kernel
theorem dX5_want_19 : decode cX5_want 19 = .ok (.istore_n 3, 1) := by decide +kernel
theorem dX5_want_20 : decode cX5_want 20 = .ok (.iload_n 3, 1) := by decide +kernel
theorem dX5_want_21 : decode cX5_want 21 = .ok (.ifCond .eq 8, 3) := by decide +kernel
theorem dX5_want_24 : decode cX5_want 24 = .ok (.iload_n 3, 1) := by decide +kernel
theorem dX5_want_25 : decode cX5_want 25 = .ok (.invokestatic 245, 3) := by decide +kernel
theorem dX5_want_28 : decode cX5_want 28 = .ok (.ireturn, 1) := by decide +kernel
theorem dX5_want_29 : decode cX5_want 29 = .ok (.aload_n 0, 1) := by decide +kernel
theorem dX5_want_30 : decode cX5_want 30 = .ok (.getfield 29, 3) := by decide +kernel
theorem dX5_want_33 : decode cX5_want 33 = .ok (.aload_n 0, 1) := by decide +kernel
theorem dX5_want_34 : decode cX5_want 34 = .ok (.getfield 10, 3) := by decide +kernel
theorem dX5_want_37 : decode cX5_want 37 = .ok (.invokevirtual 74, 3) := by decide +kernel
theorem dX5_want_40 : decode cX5_want 40 = .ok (.aload_n 0, 1) := by decide +kernel
theorem dX5_want_41 : decode cX5_want 41 = .ok (.getfield 10, 3) := by decide +kernel
theorem dX5_want_44 : decode cX5_want 44 = .ok (.iload_n 1, 1) := by decide +kernel
theorem dX5_want_45 : decode cX5_want 45 = .ok (.iload_n 2, 1) := by decide +kernel
theorem dX5_want_46 : decode cX5_want 46 = .ok (.invokevirtual 248, 3) := by decide +kernel
theorem dX5_want_49 : decode cX5_want 49 = .ok (.ireturn, 1) := by decide +kernel
theorem dX5_tell_0 : decode cX5_tell 0 = .ok (.aload_n 0, 1) := by decide +kernel
theorem dX5_tell_1 : decode cX5_tell 1 = .ok (.iload_n 1, 1) := by decide +kernel
theorem dX5_tell_2 : decode cX5_tell 2 = .ok (.iload_n 2, 1) := by decide +kernel
theorem dX5_tell_3 : decode cX5_tell 3 = .ok (.iload_n 3, 1) := by decide +kernel
theorem dX5_tell_4 : decode cX5_tell 4 = .ok (.invokevirtual 205, 3) := by decide +kernel
theorem dX5_tell_7 : decode cX5_tell 7 = .ok (.iload 4, 2) := by decide +kernel
theorem dX5_tell_9 : decode cX5_tell 9 = .ok (.iconst 0, 1) := by decide +kernel
theorem dX5_tell_10 : decode cX5_tell 10 = .ok (.iconst 2, 1) := by decide +kernel
theorem dX5_tell_11 : decode cX5_tell 11 = .ok (.invokestatic 209, 3) := by decide +kernel
theorem dX5_tell_14 : decode cX5_tell 14 = .ok (.aload_n 0, 1) := by decide +kernel
theorem dX5_tell_15 : decode cX5_tell 15 = .ok (.getfield 10, 3) := by decide +kernel
theorem dX5_tell_18 : decode cX5_tell 18 = .ok (.iload_n 1, 1) := by decide +kernel
theorem dX5_tell_19 : decode cX5_tell 19 = .ok (.iload_n 2, 1) := by decide +kernel
theorem dX5_tell_20 : decode cX5_tell 20 = .ok (.iload_n 3, 1) := by decide +kernel
theorem dX5_tell_21 : decode cX5_tell 21 = .ok (.iload 4, 2) := by decide +kernel
theorem dX5_tell_23 : decode cX5_tell 23 = .ok (.invokevirtual 230, 3) := by decide +kernel
theorem dX5_tell_26 : decode cX5_tell 26 = .ok (.istore 5, 2) := by decide +kernel
theorem dX5_tell_28 : decode cX5_tell 28 = .ok (.iload 5, 2) := by decide +kernel
theorem dX5_tell_30 : decode cX5_tell 30 = .ok (.ifCond .eq 9, 3) := by decide +kernel
theorem dX5_tell_33 : decode cX5_tell 33 = .ok (.iload 5, 2) := by decide +kernel
theorem dX5_tell_35 : decode cX5_tell 35 = .ok (.invokestatic 245, 3) := by decide +kernel
theorem dX5_tell_38 : decode cX5_tell 38 = .ok (.ireturn, 1) := by decide +kernel
theorem dX5_tell_39 : decode cX5_tell 39 = .ok (.aload_n 0, 1) := by decide +kernel
theorem dX5_tell_40 : decode cX5_tell 40 = .ok (.getfield 29, 3) := by decide +kernel
theorem dX5_tell_43 : decode cX5_tell 43 = .ok (.aload_n 0, 1) := by decide +kernel
theorem dX5_tell_44 : decode cX5_tell 44 = .ok (.getfield 10, 3) := by decide +kernel
theorem dX5_tell_47 : decode cX5_tell 47 = .ok (.invokevirtual 74, 3) := by decide +kernel
theorem dX5_tell_50 : decode cX5_tell 50 = .ok (.aload_n 0, 1) := by decide +kernel
theorem dX5_tell_51 : decode cX5_tell 51 = .ok (.getfield 10, 3) := by decide +kernel
theorem dX5_tell_54 : decode cX5_tell 54 = .ok (.iload_n 1, 1) := by decide +kernel
theorem dX5_tell_55 : decode cX5_tell 55 = .ok (.iload_n 2, 1) := by decide +kernel
theorem dX5_tell_56 : decode cX5_tell 56 = .ok (.iload_n 3, 1) := by decide +kernel
theorem dX5_tell_57 : decode cX5_tell 57 = .ok (.iload 4, 2) := by decide +kernel
theorem dX5_tell_59 : decode cX5_tell 59 = .ok (.invokevirtual 251, 3) := by decide +kernel
theorem dX5_tell_62 : decode cX5_tell 62 = .ok (.ireturn, 1) := by decide +kernel
theorem dX5_give_0 : decode cX5_give 0 = .ok (.aload_n 0, 1) := by decide +kernel
theorem dX5_give_1 : decode cX5_give 1 = .ok (.iload_n 1, 1) := by decide +kernel
theorem dX5_give_2 : decode cX5_give 2 = .ok (.invokevirtual 146, 3) := by decide +kernel
theorem dX5_give_5 : decode cX5_give 5 = .ok (.aload_n 0, 1) := by decide +kernel
theorem dX5_give_6 : decode cX5_give 6 = .ok (.iload_n 2, 1) := by decide +kernel
theorem dX5_give_7 : decode cX5_give 7 = .ok (.invokevirtual 146, 3) := by decide +kernel
theorem dX5_give_10 : decode cX5_give 10 = .ok (.iload_n 1, 1) := by decide +kernel
theorem dX5_give_11 : decode cX5_give 11 = .ok (.iload_n 2, 1) := by decide +kernel
theorem dX5_give_12 : decode cX5_give 12 = .ok (.invokestatic 254, 3) := by decide +kernel
theorem dX5_give_15 : decode cX5_give 15 = .ok (.iload_n 3, 1) := by decide +kernel
theorem dX5_give_16 : decode cX5_give 16 = .ok (.iconst 1, 1) := by decide +kernel
theorem dX5_give_17 : decode cX5_give 17 = .ok (.bipush 50, 2) := by decide +kernel
theorem dX5_give_19 : decode cX5_give 19 = .ok (.invokestatic 209, 3) := by decide +kernel
theorem dX5_give_22 : decode cX5_give 22 = .ok (.aload_n 0, 1) := by decide +kernel
theorem dX5_give_23 : decode cX5_give 23 = .ok (.getfield 10, 3) := by decide +kernel
theorem dX5_give_26 : decode cX5_give 26 = .ok (.iload_n 1, 1) := by decide +kernel
theorem dX5_give_27 : decode cX5_give 27 = .ok (.iload_n 2, 1) := by decide +kernel
theorem dX5_give_28 : decode cX5_give 28 = .ok (.iload_n 3, 1) := by decide +kernel
theorem dX5_give_29 : decode cX5_give 29 = .ok (.invokevirtual 258, 3) := by decide +kernel
theorem dX5_give_32 : decode cX5_give 32 = .ok (.istore 4, 2) := by decide +kernel
theorem dX5_give_34 : decode cX5_give 34 = .ok (.iload 4, 2) := by decide +kernel
theorem dX5_give_36 : decode cX5_give 36 = .ok (.ifCond .eq 9, 3) := by decide +kernel
theorem dX5_give_39 : decode cX5_give 39 = .ok (.iload 4, 2) := by decide +kernel
theorem dX5_give_41 : decode cX5_give 41 = .ok (.invokestatic 245, 3) := by decide +kernel
theorem dX5_give_44 : decode cX5_give 44 = .ok (.ireturn, 1) := by decide +kernel
theorem dX5_give_45 : decode cX5_give 45 = .ok (.aload_n 0, 1) := by decide +kernel
theorem dX5_give_46 : decode cX5_give 46 = .ok (.getfield 29, 3) := by decide +kernel
theorem dX5_give_49 : decode cX5_give 49 = .ok (.aload_n 0, 1) := by decide +kernel
theorem dX5_give_50 : decode cX5_give 50 = .ok (.getfield 10, 3) := by decide +kernel
theorem dX5_give_53 : decode cX5_give 53 = .ok (.invokevirtual 74, 3) := by decide +kernel
theorem dX5_give_56 : decode cX5_give 56 = .ok (.aload_n 0, 1) := by decide +kernel
theorem dX5_give_57 : decode cX5_give 57 = .ok (.getfield 10, 3) := by decide +kernel
theorem dX5_give_60 : decode cX5_give 60 = .ok (.iload_n 1, 1) := by decide +kernel
theorem dX5_give_61 : decode cX5_give 61 = .ok (.iload_n 2, 1) := by decide +kernel
theorem dX5_give_62 : decode cX5_give 62 = .ok (.iload_n 3, 1) := by decide +kernel
theorem dX5_give_63 : decode cX5_give 63 = .ok (.invokevirtual 261, 3) := by decide +kernel
theorem dX5_give_66 : decode cX5_give 66 = .ok (.ireturn, 1) := by decide +kernel
theorem dX5_pass_0 : decode cX5_pass 0 = .ok (.iload_n 1, 1) := by decide +kernel
theorem dX5_pass_1 : decode cX5_pass 1 = .ok (.iconst 1, 1) := by decide +kernel
theorem dX5_pass_2 : decode cX5_pass 2 = .ok (.bipush 99, 2) := by decide +kernel
theorem dX5_pass_4 : decode cX5_pass 4 = .ok (.invokestatic 209, 3) := by decide +kernel
theorem dX5_pass_7 : decode cX5_pass 7 = .ok (.aload_n 0, 1) := by decide +kernel
theorem dX5_pass_8 : decode cX5_pass 8 = .ok (.getfield 10, 3) := by decide +kernel
theorem dX5_pass_11 : decode cX5_pass 11 = .ok (.iload_n 1, 1) := by decide +kernel
theorem dX5_pass_12 : decode cX5_pass 12 = .ok (.invokevirtual 264, 3) := by decide +kernel
theorem dX5_pass_15 : decode cX5_pass 15 = .ok (.istore_n 2, 1) := by decide +kernel
theorem dX5_pass_16 : decode cX5_pass 16 = .ok (.iload_n 2, 1) := by decide +kernel
theorem dX5_pass_17 : decode cX5_pass 17 = .ok (.ifCond .eq 8, 3) := by decide +kernel
theorem dX5_pass_20 : decode cX5_pass 20 = .ok (.iload_n 2, 1) := by decide +kernel
theorem dX5_pass_21 : decode cX5_pass 21 = .ok (.invokestatic 245, 3) := by decide +kernel
theorem dX5_pass_24 : decode cX5_pass 24 = .ok (.ireturn, 1) := by decide +kernel
theorem dX5_pass_25 : decode cX5_pass 25 = .ok (.aload_n 0, 1) := by decide +kernel
theorem dX5_pass_26 : decode cX5_pass 26 = .ok (.getfield 29, 3) := by decide +kernel
theorem dX5_pass_29 : decode cX5_pass 29 = .ok (.aload_n 0, 1) := by decide +kernel
theorem dX5_pass_30 : decode cX5_pass 30 = .ok (.getfield 10, 3) := by decide +kernel
theorem dX5_pass_33 : decode cX5_pass 33 = .ok (.invokevirtual 74, 3) := by decide +kernel
theorem dX5_pass_36 : decode cX5_pass 36 = .ok (.aload_n 0, 1) := by decide +kernel
theorem dX5_pass_37 : decode cX5_pass 37 = .ok (.getfield 10, 3) := by decide +kernel
theorem dX5_pass_40 : decode cX5_pass 40 = .ok (.iload_n 1, 1) := by decide +kernel
theorem dX5_pass_41 : decode cX5_pass 41 = .ok (.invokevirtual 267, 3) := by decide +kernel
theorem dX5_pass_44 : decode cX5_pass 44 = .ok (.ireturn, 1) := by decide +kernel
theorem dX5_setBell_0 : decode cX5_setBell 0 = .ok (.iload_n 1, 1) := by decide +kernel
theorem dX5_setBell_1 : decode cX5_setBell 1 = .ok (.invokestatic 199, 3) := by decide +kernel
theorem dX5_setBell_4 : decode cX5_setBell 4 = .ok (.iload_n 2, 1) := by decide +kernel
theorem dX5_setBell_5 : decode cX5_setBell 5 = .ok (.iconst 0, 1) := by decide +kernel
theorem dX5_setBell_6 : decode cX5_setBell 6 = .ok (.iconst 2, 1) := by decide +kernel
theorem dX5_setBell_7 : decode cX5_setBell 7 = .ok (.invokestatic 209, 3) := by decide +kernel
theorem dX5_setBell_10 : decode cX5_setBell 10 = .ok (.aload_n 0, 1) := by decide +kernel
theorem dX5_setBell_11 : decode cX5_setBell 11 = .ok (.getfield 29, 3) := by decide +kernel
theorem dX5_setBell_14 : decode cX5_setBell 14 = .ok (.aload_n 0, 1) := by decide +kernel
theorem dX5_setBell_15 : decode cX5_setBell 15 = .ok (.getfield 10, 3) := by decide +kernel
theorem dX5_setBell_18 : decode cX5_setBell 18 = .ok (.invokevirtual 74, 3) := by decide +kernel
theorem dX5_setBell_21 : decode cX5_setBell 21 = .ok (.aload_n 0, 1) := by decide +kernel
theorem dX5_setBell_22 : decode cX5_setBell 22 = .ok (.getfield 10, 3) := by decide +kernel
theorem dX5_setBell_25 : decode cX5_setBell 25 = .ok (.getfield 202, 3) := by decide +kernel
theorem dX5_setBell_28 : decode cX5_setBell 28 = .ok (.iload_n 1, 1) := by decide +kernel
theorem dX5_setBell_29 : decode cX5_setBell 29 = .ok (.iaload, 1) := by decide +kernel
theorem dX5_setBell_30 : decode cX5_setBell 30 = .ok (.istore_n 3, 1) := by decide +kernel
theorem dX5_setBell_31 : decode cX5_setBell 31 = .ok (.aload_n 0, 1) := by decide +kernel
theorem dX5_setBell_32 : decode cX5_setBell 32 = .ok (.getfield 10, 3) := by decide +kernel
theorem dX5_setBell_35 : decode cX5_setBell 35 = .ok (.getfield 202, 3) := by decide +kernel
theorem dX5_setBell_38 : decode cX5_setBell 38 = .ok (.iload_n 1, 1) := by decide +kernel
theorem dX5_setBell_39 : decode cX5_setBell 39 = .ok (.iload_n 2, 1) := by decide +kernel
theorem dX5_setBell_40 : decode cX5_setBell 40 = .ok (.iastore, 1) := by decide +kernel
theorem dX5_setBell_41 : decode cX5_setBell 41 = .ok (.iload_n 3, 1) := by decide +kernel
theorem dX5_setBell_42 : decode cX5_setBell 42 = .ok (.ireturn, 1) := by decide +kernel
theorem dX5_set_0 : decode cX5_set 0 = .ok (.iload_n 1, 1) := by decide +kernel
theorem dX5_set_1 : decode cX5_set 1 = .ok (.iconst 2, 1) := by decide +kernel
theorem dX5_set_2 : decode cX5_set 2 = .ok (.iconst 3, 1) := by decide +kernel
theorem dX5_set_3 : decode cX5_set 3 = .ok (.invokestatic 209, 3) := by decide +kernel
theorem dX5_set_6 : decode cX5_set 6 = .ok (.iload_n 1, 1) := by decide +kernel
theorem dX5_set_7 : decode cX5_set 7 = .ok (.iconst 2, 1) := by decide +kernel
theorem dX5_set_8 : decode cX5_set 8 = .ok (.if_icmp .ne 7, 3) := by decide +kernel
theorem dX5_set_11 : decode cX5_set 11 = .ok (.iconst 1, 1) := by decide +kernel
theorem dX5_set_12 : decode cX5_set 12 = .ok (.goto 4, 3) := by decide +kernel
theorem dX5_set_15 : decode cX5_set 15 = .ok (.iconst 0, 1) := by decide +kernel
theorem dX5_set_16 : decode cX5_set 16 = .ok (.istore_n 3, 1) := by decide +kernel
theorem dX5_set_17 : decode cX5_set 17 = .ok (.iload_n 2, 1) := by decide +kernel
theorem dX5_set_18 : decode cX5_set 18 = .ok (.iconst 0, 1) := by decide +kernel
theorem dX5_set_19 : decode cX5_set 19 = .ok (.iload_n 3, 1) := by decide +kernel
theorem dX5_set_20 : decode cX5_set 20 = .ok (.ifCond .eq 8, 3) := by decide +kernel
theorem dX5_set_23 : decode cX5_set 23 = .ok (.bipush 99, 2) := by decide +kernel
theorem dX5_set_25 : decode cX5_set 25 = .ok (.goto 5, 3) := by decide +kernel
theorem dX5_set_28 : decode cX5_set 28 = .ok (.bipush 50, 2) := by decide +kernel
theorem dX5_set_30 : decode cX5_set 30 = .ok (.invokestatic 209, 3) := by decide +kernel
theorem dX5_set_33 : decode cX5_set 33 = .ok (.aload_n 0, 1) := by decide +kernel
theorem dX5_set_34 : decode cX5_set 34 = .ok (.getfield 29, 3) := by decide +kernel
theorem dX5_set_37 : decode cX5_set 37 = .ok (.aload_n 0, 1) := by decide +kernel
theorem dX5_set_38 : decode cX5_set 38 = .ok (.getfield 10, 3) := by decide +kernel
theorem dX5_set_41 : decode cX5_set 41 = .ok (.invokevirtual 74, 3) := by decide +kernel
theorem dX5_set_44 : decode cX5_set 44 = .ok (.iload_n 3, 1) := by decide +kernel
theorem dX5_set_45 : decode cX5_set 45 = .ok (.ifCond .eq 13, 3) := by decide +kernel
theorem dX5_set_48 : decode cX5_set 48 = .ok (.aload_n 0, 1) := by decide +kernel
theorem dX5_set_49 : decode cX5_set 49 = .ok (.getfield 10, 3) := by decide +kernel
theorem dX5_set_52 : decode cX5_set 52 = .ok (.getfield 93, 3) := by decide +kernel
theorem dX5_set_55 : decode cX5_set 55 = .ok (.goto 10, 3) := by decide +kernel
theorem dX5_set_58 : decode cX5_set 58 = .ok (.aload_n 0, 1) := by decide +kernel
theorem dX5_set_59 : decode cX5_set 59 = .ok (.getfield 10, 3) := by decide +kernel
theorem dX5_set_62 : decode cX5_set 62 = .ok (.getfield 96, 3) := by decide +kernel
theorem dX5_set_65 : decode cX5_set 65 = .ok (.istore 4, 2) := by decide +kernel
theorem dX5_set_67 : decode cX5_set 67 = .ok (.iload_n 3, 1) := by decide +kernel
theorem dX5_set_68 : decode cX5_set 68 = .ok (.ifCond .eq 14, 3) := by decide +kernel
theorem dX5_set_71 : decode cX5_set 71 = .ok (.aload_n 0, 1) := by decide +kernel
theorem dX5_set_72 : decode cX5_set 72 = .ok (.getfield 10, 3) := by decide +kernel
theorem dX5_set_75 : decode cX5_set 75 = .ok (.iload_n 2, 1) := by decide +kernel
theorem dX5_set_76 : decode cX5_set 76 = .ok (.putfield 93, 3) := by decide +kernel
theorem dX5_set_79 : decode cX5_set 79 = .ok (.goto 11, 3) := by decide +kernel
theorem dX5_set_82 : decode cX5_set 82 = .ok (.aload_n 0, 1) := by decide +kernel
theorem dX5_set_83 : decode cX5_set 83 = .ok (.getfield 10, 3) := by decide +kernel
theorem dX5_set_86 : decode cX5_set 86 = .ok (.iload_n 2, 1) := by decide +kernel
theorem dX5_set_87 : decode cX5_set 87 = .ok (.putfield 96, 3) := by decide +kernel
theorem dX5_set_90 : decode cX5_set 90 = .ok (.iload 4, 2) := by decide +kernel
theorem dX5_set_92 : decode cX5_set 92 = .ok (.ireturn, 1) := by decide +kernel
theorem dX5_undo_0 : decode cX5_undo 0 = .ok (.aload_n 0, 1) := by decide +kernel
theorem dX5_undo_1 : decode cX5_undo 1 = .ok (.getfield 29, 3) := by decide +kernel
theorem dX5_undo_4 : decode cX5_undo 4 = .ok (.getfield 133, 3) := by decide +kernel
theorem dX5_undo_7 : decode cX5_undo 7 = .ok (.ifCond .ne 14, 3) := by decide +kernel
theorem dX5_undo_10 : decode cX5_undo 10 = .ok (.new 56, 3) := by decide +kernel
theorem dX5_undo_13 : decode cX5_undo 13 = .ok (.dup, 1) := by decide +kernel
theorem dX5_undo_14 : decode cX5_undo 14 = .ok (.ldc_w 270, 3) := by decide +kernel
theorem dX5_undo_17 : decode cX5_undo 17 = .ok (.invokespecial 60, 3) := by decide +kernel
theorem dX5_undo_20 : decode cX5_undo 20 = .ok (.athrow, 1) := by decide +kernel
theorem dX5_undo_21 : decode cX5_undo 21 = .ok (.aload_n 0, 1) := by decide +kernel
theorem dX5_undo_22 : decode cX5_undo 22 = .ok (.getfield 29, 3) := by decide +kernel
theorem dX5_undo_25 : decode cX5_undo 25 = .ok (.aload_n 0, 1) := by decide +kernel
theorem dX5_undo_26 : decode cX5_undo 26 = .ok (.getfield 10, 3) := by decide +kernel
theorem dX5_undo_29 : decode cX5_undo 29 = .ok (.invokevirtual 272, 3) := by decide +kernel
theorem dX5_undo_32 : decode cX5_undo 32 = .ok (.aload_n 0, 1) := by decide +kernel
theorem dX5_undo_33 : decode cX5_undo 33 = .ok (.getfield 29, 3) := by decide +kernel
theorem dX5_undo_36 : decode cX5_undo 36 = .ok (.getfield 133, 3) := by decide +kernel
theorem dX5_undo_39 : decode cX5_undo 39 = .ok (.ireturn, 1) := by decide +kernel
theorem dX5_save_0 : decode cX5_save 0 = .ok (.iload_n 1, 1) := by decide +kernel
theorem dX5_save_1 : decode cX5_save 1 = .ok (.invokestatic 275, 3) := by decide +kernel
theorem dX5_save_4 : decode cX5_save 4 = .ok (.aload_n 0, 1) := by decide +kernel
theorem dX5_save_5 : decode cX5_save 5 = .ok (.getfield 40, 3) := by decide +kernel
theorem dX5_save_8 : decode cX5_save 8 = .ok (.iload_n 1, 1) := by decide +kernel
theorem dX5_save_9 : decode cX5_save 9 = .ok (.aaload, 1) := by decide +kernel
theorem dX5_save_10 : decode cX5_save 10 = .ok (.aload_n 0, 1) := by decide +kernel
theorem dX5_save_11 : decode cX5_save 11 = .ok (.getfield 10, 3) := by decide +kernel
theorem dX5_save_14 : decode cX5_save 14 = .ok (.invokevirtual 81, 3) := by decide +kernel
theorem dX5_save_17 : decode cX5_save 17 = .ok (.aload_n 0, 1) := by decide +kernel
theorem dX5_save_18 : decode cX5_save 18 = .ok (.getfield 44, 3) := by decide +kernel
theorem dX5_save_21 : decode cX5_save 21 = .ok (.iload_n 1, 1) := by decide +kernel
theorem dX5_save_22 : decode cX5_save 22 = .ok (.iconst 1, 1) := by decide +kernel
theorem dX5_save_23 : decode cX5_save 23 = .ok (.bastore, 1) := by decide +kernel
theorem dX5_save_24 : decode cX5_save 24 = .ok (.return_, 1) := by decide +kernel
theorem dX5_restore_0 : decode cX5_restore 0 = .ok (.iload_n 1, 1) := by decide +kernel
theorem dX5_restore_1 : decode cX5_restore 1 = .ok (.invokestatic 275, 3) := by decide +kernel
theorem dX5_restore_4 : decode cX5_restore 4 = .ok (.aload_n 0, 1) := by decide +kernel
theorem dX5_restore_5 : decode cX5_restore 5 = .ok (.getfield 44, 3) := by decide +kernel
theorem dX5_restore_8 : decode cX5_restore 8 = .ok (.iload_n 1, 1) := by decide +kernel
theorem dX5_restore_9 : decode cX5_restore 9 = .ok (.baload, 1) := by decide +kernel
theorem dX5_restore_10 : decode cX5_restore 10 = .ok (.ifCond .ne 14, 3) := by decide +kernel
theorem dX5_restore_13 : decode cX5_restore 13 = .ok (.new 56, 3) := by decide +kernel
theorem dX5_restore_16 : decode cX5_restore 16 = .ok (.dup, 1) := by decide +kernel
theorem dX5_restore_17 : decode cX5_restore 17 = .ok (.ldc_w 278, 3) := by decide +kernel
theorem dX5_restore_20 : decode cX5_restore 20 = .ok (.invokespecial 60, 3) := by decide +kernel
theorem dX5_restore_23 : decode cX5_restore 23 = .ok (.athrow, 1) := by decide +kernel
theorem dX5_restore_24 : decode cX5_restore 24 = .ok (.aload_n 0, 1) := by decide +kernel
theorem dX5_restore_25 : decode cX5_restore 25 = .ok (.getfield 29, 3) := by decide +kernel
theorem dX5_restore_28 : decode cX5_restore 28 = .ok (.aload_n 0, 1) := by decide +kernel
theorem dX5_restore_29 : decode cX5_restore 29 = .ok (.getfield 10, 3) := by decide +kernel
theorem dX5_restore_32 : decode cX5_restore 32 = .ok (.invokevirtual 74, 3) := by decide +kernel
theorem dX5_restore_35 : decode cX5_restore 35 = .ok (.aload_n 0, 1) := by decide +kernel
theorem dX5_restore_36 : decode cX5_restore 36 = .ok (.getfield 10, 3) := by decide +kernel
theorem dX5_restore_39 : decode cX5_restore 39 = .ok (.aload_n 0, 1) := by decide +kernel
theorem dX5_restore_40 : decode cX5_restore 40 = .ok (.getfield 40, 3) := by decide +kernel
theorem dX5_restore_43 : decode cX5_restore 43 = .ok (.iload_n 1, 1) := by decide +kernel
theorem dX5_restore_44 : decode cX5_restore 44 = .ok (.aaload, 1) := by decide +kernel
theorem dX5_restore_45 : decode cX5_restore 45 = .ok (.invokevirtual 81, 3) := by decide +kernel
theorem dX5_restore_48 : decode cX5_restore 48 = .ok (.aload_n 0, 1) := by decide +kernel
theorem dX5_restore_49 : decode cX5_restore 49 = .ok (.getfield 10, 3) := by decide +kernel
theorem dX5_restore_52 : decode cX5_restore 52 = .ok (.getfield 99, 3) := by decide +kernel
theorem dX5_restore_55 : decode cX5_restore 55 = .ok (.ireturn, 1) := by decide +kernel
theorem dX5_writeMonk_0 : decode cX5_writeMonk 0 = .ok (.aload_n 0, 1) := by decide +kernel
theorem dX5_writeMonk_1 : decode cX5_writeMonk 1 = .ok (.iload_n 1, 1) := by decide +kernel
theorem dX5_writeMonk_2 : decode cX5_writeMonk 2 = .ok (.invokevirtual 146, 3) := by decide +kernel
theorem dX5_writeMonk_5 : decode cX5_writeMonk 5 = .ok (.aload_n 0, 1) := by decide +kernel
theorem dX5_writeMonk_6 : decode cX5_writeMonk 6 = .ok (.getfield 36, 3) := by decide +kernel
theorem dX5_writeMonk_9 : decode cX5_writeMonk 9 = .ok (.iconst 0, 1) := by decide +kernel
theorem dX5_writeMonk_10 : decode cX5_writeMonk 10 = .ok (.putfield 280, 3) := by decide +kernel
theorem dX5_writeMonk_13 : decode cX5_writeMonk 13 = .ok (.aload_n 0, 1) := by decide +kernel
theorem dX5_writeMonk_14 : decode cX5_writeMonk 14 = .ok (.getfield 36, 3) := by decide +kernel
theorem dX5_writeMonk_17 : decode cX5_writeMonk 17 = .ok (.aload_n 0, 1) := by decide +kernel
theorem dX5_writeMonk_18 : decode cX5_writeMonk 18 = .ok (.getfield 10, 3) := by decide +kernel
theorem dX5_writeMonk_21 : decode cX5_writeMonk 21 = .ok (.getfield 166, 3) := by decide +kernel
theorem dX5_writeMonk_24 : decode cX5_writeMonk 24 = .ok (.iload_n 1, 1) := by decide +kernel
theorem dX5_writeMonk_25 : decode cX5_writeMonk 25 = .ok (.iaload, 1) := by decide +kernel
theorem dX5_writeMonk_26 : decode cX5_writeMonk 26 = .ok (.invokevirtual 281, 3) := by decide +kernel
theorem dX5_writeMonk_29 : decode cX5_writeMonk 29 = .ok (.aload_n 0, 1) := by decide +kernel
theorem dX5_writeMonk_30 : decode cX5_writeMonk 30 = .ok (.getfield 36, 3) := by decide +kernel
theorem dX5_writeMonk_33 : decode cX5_writeMonk 33 = .ok (.bipush 58, 2) := by decide +kernel
theorem dX5_writeMonk_35 : decode cX5_writeMonk 35 = .ok (.invokevirtual 284, 3) := by decide +kernel
theorem dX5_writeMonk_38 : decode cX5_writeMonk 38 = .ok (.aload_n 0, 1) := by decide +kernel
theorem dX5_writeMonk_39 : decode cX5_writeMonk 39 = .ok (.getfield 36, 3) := by decide +kernel
theorem dX5_writeMonk_42 : decode cX5_writeMonk 42 = .ok (.aload_n 0, 1) := by decide +kernel
theorem dX5_writeMonk_43 : decode cX5_writeMonk 43 = .ok (.getfield 10, 3) := by decide +kernel
theorem dX5_writeMonk_46 : decode cX5_writeMonk 46 = .ok (.aload_n 0, 1) := by decide +kernel
theorem dX5_writeMonk_47 : decode cX5_writeMonk 47 = .ok (.getfield 10, 3) := by decide +kernel
theorem dX5_writeMonk_50 : decode cX5_writeMonk 50 = .ok (.getfield 130, 3) := by decide +kernel
theorem dX5_writeMonk_53 : decode cX5_writeMonk 53 = .ok (.iload_n 1, 1) := by decide +kernel
theorem dX5_writeMonk_54 : decode cX5_writeMonk 54 = .ok (.iaload, 1) := by decide +kernel
theorem dX5_writeMonk_55 : decode cX5_writeMonk 55 = .ok (.invokevirtual 287, 3) := by decide +kernel
theorem dX5_writeMonk_58 : decode cX5_writeMonk 58 = .ok (.aload_n 0, 1) := by decide +kernel
theorem dX5_writeMonk_59 : decode cX5_writeMonk 59 = .ok (.getfield 36, 3) := by decide +kernel
theorem dX5_writeMonk_62 : decode cX5_writeMonk 62 = .ok (.bipush 47, 2) := by decide +kernel
theorem dX5_writeMonk_64 : decode cX5_writeMonk 64 = .ok (.invokevirtual 284, 3) := by decide +kernel
theorem dX5_writeMonk_67 : decode cX5_writeMonk 67 = .ok (.aload_n 0, 1) := by decide +kernel
theorem dX5_writeMonk_68 : decode cX5_writeMonk 68 = .ok (.getfield 36, 3) := by decide +kernel
theorem dX5_writeMonk_71 : decode cX5_writeMonk 71 = .ok (.aload_n 0, 1) := by decide +kernel
theorem dX5_writeMonk_72 : decode cX5_writeMonk 72 = .ok (.getfield 10, 3) := by decide +kernel
theorem dX5_writeMonk_75 : decode cX5_writeMonk 75 = .ok (.aload_n 0, 1) := by decide +kernel
theorem dX5_writeMonk_76 : decode cX5_writeMonk 76 = .ok (.getfield 10, 3) := by decide +kernel
theorem dX5_writeMonk_79 : decode cX5_writeMonk 79 = .ok (.getfield 113, 3) := by decide +kernel
theorem dX5_writeMonk_82 : decode cX5_writeMonk 82 = .ok (.iload_n 1, 1) := by decide +kernel
theorem dX5_writeMonk_83 : decode cX5_writeMonk 83 = .ok (.iaload, 1) := by decide +kernel
theorem dX5_writeMonk_84 : decode cX5_writeMonk 84 = .ok (.invokevirtual 287, 3) := by decide +kernel
theorem dX5_writeMonk_87 : decode cX5_writeMonk 87 = .ok (.aload_n 0, 1) := by decide +kernel
theorem dX5_writeMonk_88 : decode cX5_writeMonk 88 = .ok (.getfield 36, 3) := by decide +kernel
theorem dX5_writeMonk_91 : decode cX5_writeMonk 91 = .ok (.getfield 280, 3) := by decide +kernel
theorem dX5_writeMonk_94 : decode cX5_writeMonk 94 = .ok (.ireturn, 1) := by decide +kernel
theorem dX5_writeDay_0 : decode cX5_writeDay 0 = .ok (.aload_n 0, 1) := by decide +kernel
theorem dX5_writeDay_1 : decode cX5_writeDay 1 = .ok (.getfield 36, 3) := by decide +kernel
theorem dX5_writeDay_4 : decode cX5_writeDay 4 = .ok (.iconst 0, 1) := by decide +kernel
theorem dX5_writeDay_5 : decode cX5_writeDay 5 = .ok (.putfield 280, 3) := by decide +kernel
theorem dX5_writeDay_8 : decode cX5_writeDay 8 = .ok (.iconst 0, 1) := by decide +kernel
theorem dX5_writeDay_9 : decode cX5_writeDay 9 = .ok (.istore_n 1, 1) := by decide +kernel
theorem dX5_writeDay_10 : decode cX5_writeDay 10 = .ok (.iload_n 1, 1) := by decide +kernel
theorem dX5_writeDay_11 : decode cX5_writeDay 11 = .ok (.bipush 24, 2) := by decide +kernel
theorem dX5_writeDay_13 : decode cX5_writeDay 13 = .ok (.if_icmp .ge 34, 3) := by decide +kernel
theorem dX5_writeDay_16 : decode cX5_writeDay 16 = .ok (.aload_n 0, 1) := by decide +kernel
theorem dX5_writeDay_17 : decode cX5_writeDay 17 = .ok (.getfield 36, 3) := by decide +kernel
theorem dX5_writeDay_20 : decode cX5_writeDay 20 = .ok (.aload_n 0, 1) := by decide +kernel
theorem dX5_writeDay_21 : decode cX5_writeDay 21 = .ok (.getfield 10, 3) := by decide +kernel
theorem dX5_writeDay_24 : decode cX5_writeDay 24 = .ok (.iload_n 1, 1) := by decide +kernel
theorem dX5_writeDay_25 : decode cX5_writeDay 25 = .ok (.invokevirtual 102, 3) := by decide +kernel
theorem dX5_writeDay_28 : decode cX5_writeDay 28 = .ok (.ifCond .eq 8, 3) := by decide +kernel
theorem dX5_writeDay_31 : decode cX5_writeDay 31 = .ok (.bipush 115, 2) := by decide +kernel
theorem dX5_writeDay_33 : decode cX5_writeDay 33 = .ok (.goto 5, 3) := by decide +kernel
theorem dX5_writeDay_36 : decode cX5_writeDay 36 = .ok (.bipush 46, 2) := by decide +kernel
theorem dX5_writeDay_38 : decode cX5_writeDay 38 = .ok (.invokevirtual 284, 3) := by decide +kernel
theorem dX5_writeDay_41 : decode cX5_writeDay 41 = .ok (.iinc 1 1, 3) := by decide +kernel
theorem dX5_writeDay_44 : decode cX5_writeDay 44 = .ok (.goto (-34), 3) := by decide +kernel
theorem dX5_writeDay_47 : decode cX5_writeDay 47 = .ok (.aload_n 0, 1) := by decide +kernel
theorem dX5_writeDay_48 : decode cX5_writeDay 48 = .ok (.getfield 36, 3) := by decide +kernel
theorem dX5_writeDay_51 : decode cX5_writeDay 51 = .ok (.bipush 47, 2) := by decide +kernel
theorem dX5_writeDay_53 : decode cX5_writeDay 53 = .ok (.invokevirtual 284, 3) := by decide +kernel
theorem dX5_writeDay_56 : decode cX5_writeDay 56 = .ok (.aload_n 0, 1) := by decide +kernel
theorem dX5_writeDay_57 : decode cX5_writeDay 57 = .ok (.getfield 36, 3) := by decide +kernel
theorem dX5_writeDay_60 : decode cX5_writeDay 60 = .ok (.aload_n 0, 1) := by decide +kernel
theorem dX5_writeDay_61 : decode cX5_writeDay 61 = .ok (.getfield 10, 3) := by decide +kernel
theorem dX5_writeDay_64 : decode cX5_writeDay 64 = .ok (.getfield 99, 3) := by decide +kernel
theorem dX5_writeDay_67 : decode cX5_writeDay 67 = .ok (.invokevirtual 291, 3) := by decide +kernel
theorem dX5_writeDay_70 : decode cX5_writeDay 70 = .ok (.aload_n 0, 1) := by decide +kernel
theorem dX5_writeDay_71 : decode cX5_writeDay 71 = .ok (.getfield 36, 3) := by decide +kernel
theorem dX5_writeDay_74 : decode cX5_writeDay 74 = .ok (.getfield 280, 3) := by decide +kernel
theorem dX5_writeDay_77 : decode cX5_writeDay 77 = .ok (.ireturn, 1) := by decide +kernel
theorem dX5_writtenByte_0 : decode cX5_writtenByte 0 = .ok (.iload_n 1, 1) := by decide +kernel
theorem dX5_writtenByte_1 : decode cX5_writtenByte 1 = .ok (.ifCond .lt 14, 3) := by decide +kernel
theorem dX5_writtenByte_4 : decode cX5_writtenByte 4 = .ok (.iload_n 1, 1) := by decide +kernel
theorem dX5_writtenByte_5 : decode cX5_writtenByte 5 = .ok (.aload_n 0, 1) := by decide +kernel
theorem dX5_writtenByte_6 : decode cX5_writtenByte 6 = .ok (.getfield 36, 3) := by decide +kernel
theorem dX5_writtenByte_9 : decode cX5_writtenByte 9 = .ok (.getfield 280, 3) := by decide +kernel
theorem dX5_writtenByte_12 : decode cX5_writtenByte 12 = .ok (.if_icmp .lt 14, 3) := by decide +kernel
theorem dX5_writtenByte_15 : decode cX5_writtenByte 15 = .ok (.new 294, 3) := by decide +kernel
theorem dX5_writtenByte_18 : decode cX5_writtenByte 18 = .ok (.dup, 1) := by decide +kernel
theorem dX5_writtenByte_19 : decode cX5_writtenByte 19 = .ok (.ldc_w 296, 3) := by decide +kernel
theorem dX5_writtenByte_22 : decode cX5_writtenByte 22 = .ok (.invokespecial 298, 3) := by decide +kernel
theorem dX5_writtenByte_25 : decode cX5_writtenByte 25 = .ok (.athrow, 1) := by decide +kernel
theorem dX5_writtenByte_26 : decode cX5_writtenByte 26 = .ok (.aload_n 0, 1) := by decide +kernel
theorem dX5_writtenByte_27 : decode cX5_writtenByte 27 = .ok (.getfield 36, 3) := by decide +kernel
theorem dX5_writtenByte_30 : decode cX5_writtenByte 30 = .ok (.getfield 299, 3) := by decide +kernel
theorem dX5_writtenByte_33 : decode cX5_writtenByte 33 = .ok (.iload_n 1, 1) := by decide +kernel
theorem dX5_writtenByte_34 : decode cX5_writtenByte 34 = .ok (.iaload, 1) := by decide +kernel
theorem dX5_writtenByte_35 : decode cX5_writtenByte 35 = .ok (.ireturn, 1) := by decide +kernel
theorem dX5_requireMonk_0 : decode cX5_requireMonk 0 = .ok (.iload_n 1, 1) := by decide +kernel
theorem dX5_requireMonk_1 : decode cX5_requireMonk 1 = .ok (.ifCond .lt 14, 3) := by decide +kernel
theorem dX5_requireMonk_4 : decode cX5_requireMonk 4 = .ok (.iload_n 1, 1) := by decide +kernel
theorem dX5_requireMonk_5 : decode cX5_requireMonk 5 = .ok (.aload_n 0, 1) := by decide +kernel
theorem dX5_requireMonk_6 : decode cX5_requireMonk 6 = .ok (.getfield 10, 3) := by decide +kernel
theorem dX5_requireMonk_9 : decode cX5_requireMonk 9 = .ok (.getfield 84, 3) := by decide +kernel
theorem dX5_requireMonk_12 : decode cX5_requireMonk 12 = .ok (.if_icmp .lt 14, 3) := by decide +kernel
theorem dX5_requireMonk_15 : decode cX5_requireMonk 15 = .ok (.new 294, 3) := by decide +kernel
theorem dX5_requireMonk_18 : decode cX5_requireMonk 18 = .ok (.dup, 1) := by decide +kernel
theorem dX5_requireMonk_19 : decode cX5_requireMonk 19 = .ok (.ldc_w 302, 3) := by decide +kernel
theorem dX5_requireMonk_22 : decode cX5_requireMonk 22 = .ok (.invokespecial 298, 3) := by decide +kernel
theorem dX5_requireMonk_25 : decode cX5_requireMonk 25 = .ok (.athrow, 1) := by decide +kernel
theorem dX5_requireMonk_26 : decode cX5_requireMonk 26 = .ok (.return_, 1) := by decide +kernel
theorem dX5_requireNeed_0 : decode cX5_requireNeed 0 = .ok (.iload_n 1, 1) := by decide +kernel
theorem dX5_requireNeed_1 : decode cX5_requireNeed 1 = .ok (.ifCond .lt 14, 3) := by decide +kernel
theorem dX5_requireNeed_4 : decode cX5_requireNeed 4 = .ok (.iload_n 1, 1) := by decide +kernel
theorem dX5_requireNeed_5 : decode cX5_requireNeed 5 = .ok (.aload_n 0, 1) := by decide +kernel
theorem dX5_requireNeed_6 : decode cX5_requireNeed 6 = .ok (.getfield 10, 3) := by decide +kernel
theorem dX5_requireNeed_9 : decode cX5_requireNeed 9 = .ok (.getfield 90, 3) := by decide +kernel
theorem dX5_requireNeed_12 : decode cX5_requireNeed 12 = .ok (.if_icmp .lt 14, 3) := by decide +kernel
theorem dX5_requireNeed_15 : decode cX5_requireNeed 15 = .ok (.new 294, 3) := by decide +kernel
theorem dX5_requireNeed_18 : decode cX5_requireNeed 18 = .ok (.dup, 1) := by decide +kernel
theorem dX5_requireNeed_19 : decode cX5_requireNeed 19 = .ok (.ldc_w 304, 3) := by decide +kernel
theorem dX5_requireNeed_22 : decode cX5_requireNeed 22 = .ok (.invokespecial 298, 3) := by decide +kernel
theorem dX5_requireNeed_25 : decode cX5_requireNeed 25 = .ok (.athrow, 1) := by decide +kernel
theorem dX5_requireNeed_26 : decode cX5_requireNeed 26 = .ok (.return_, 1) := by decide +kernel
theorem dX5_requireTelling_0 : decode cX5_requireTelling 0 = .ok (.aload_n 0, 1) := by decide +kernel
theorem dX5_requireTelling_1 : decode cX5_requireTelling 1 = .ok (.iload_n 1, 1) := by decide +kernel
theorem dX5_requireTelling_2 : decode cX5_requireTelling 2 = .ok (.invokevirtual 146, 3) := by decide +kernel
theorem dX5_requireTelling_5 : decode cX5_requireTelling 5 = .ok (.aload_n 0, 1) := by decide +kernel
theorem dX5_requireTelling_6 : decode cX5_requireTelling 6 = .ok (.iload_n 2, 1) := by decide +kernel
theorem dX5_requireTelling_7 : decode cX5_requireTelling 7 = .ok (.invokevirtual 146, 3) := by decide +kernel
theorem dX5_requireTelling_10 : decode cX5_requireTelling 10 = .ok (.aload_n 0, 1) := by decide +kernel
theorem dX5_requireTelling_11 : decode cX5_requireTelling 11 = .ok (.iload_n 3, 1) := by decide +kernel
theorem dX5_requireTelling_12 : decode cX5_requireTelling 12 = .ok (.invokevirtual 176, 3) := by decide +kernel
theorem dX5_requireTelling_15 : decode cX5_requireTelling 15 = .ok (.iload_n 1, 1) := by decide +kernel
theorem dX5_requireTelling_16 : decode cX5_requireTelling 16 = .ok (.iload_n 2, 1) := by decide +kernel
theorem dX5_requireTelling_17 : decode cX5_requireTelling 17 = .ok (.invokestatic 254, 3) := by decide +kernel
theorem dX5_requireTelling_20 : decode cX5_requireTelling 20 = .ok (.return_, 1) := by decide +kernel
theorem dX5_requireHour_0 : decode cX5_requireHour 0 = .ok (.iload_n 0, 1) := by decide +kernel
theorem dX5_requireHour_1 : decode cX5_requireHour 1 = .ok (.ifCond .lt 9, 3) := by decide +kernel
theorem dX5_requireHour_4 : decode cX5_requireHour 4 = .ok (.iload_n 0, 1) := by decide +kernel
theorem dX5_requireHour_5 : decode cX5_requireHour 5 = .ok (.bipush 24, 2) := by decide +kernel
theorem dX5_requireHour_7 : decode cX5_requireHour 7 = .ok (.if_icmp .lt 14, 3) := by decide +kernel
theorem dX5_requireHour_10 : decode cX5_requireHour 10 = .ok (.new 294, 3) := by decide +kernel
theorem dX5_requireHour_13 : decode cX5_requireHour 13 = .ok (.dup, 1) := by decide +kernel
theorem dX5_requireHour_14 : decode cX5_requireHour 14 = .ok (.ldc_w 306, 3) := by decide +kernel
theorem dX5_requireHour_17 : decode cX5_requireHour 17 = .ok (.invokespecial 298, 3) := by decide +kernel
theorem dX5_requireHour_20 : decode cX5_requireHour 20 = .ok (.athrow, 1) := by decide +kernel
theorem dX5_requireHour_21 : decode cX5_requireHour 21 = .ok (.return_, 1) := by decide +kernel
theorem dX5_requireSlot_0 : decode cX5_requireSlot 0 = .ok (.iload_n 0, 1) := by decide +kernel
theorem dX5_requireSlot_1 : decode cX5_requireSlot 1 = .ok (.ifCond .lt 8, 3) := by decide +kernel
theorem dX5_requireSlot_4 : decode cX5_requireSlot 4 = .ok (.iload_n 0, 1) := by decide +kernel
theorem dX5_requireSlot_5 : decode cX5_requireSlot 5 = .ok (.iconst 2, 1) := by decide +kernel
theorem dX5_requireSlot_6 : decode cX5_requireSlot 6 = .ok (.if_icmp .lt 14, 3) := by decide +kernel
theorem dX5_requireSlot_9 : decode cX5_requireSlot 9 = .ok (.new 294, 3) := by decide +kernel
theorem dX5_requireSlot_12 : decode cX5_requireSlot 12 = .ok (.dup, 1) := by decide +kernel
theorem dX5_requireSlot_13 : decode cX5_requireSlot 13 = .ok (.ldc_w 308, 3) := by decide +kernel
theorem dX5_requireSlot_16 : decode cX5_requireSlot 16 = .ok (.invokespecial 298, 3) := by decide +kernel
theorem dX5_requireSlot_19 : decode cX5_requireSlot 19 = .ok (.athrow, 1) := by decide +kernel
theorem dX5_requireSlot_20 : decode cX5_requireSlot 20 = .ok (.return_, 1) := by decide +kernel
theorem dX5_requireTwo_0 : decode cX5_requireTwo 0 = .ok (.iload_n 0, 1) := by decide +kernel
theorem dX5_requireTwo_1 : decode cX5_requireTwo 1 = .ok (.iload_n 1, 1) := by decide +kernel
theorem dX5_requireTwo_2 : decode cX5_requireTwo 2 = .ok (.if_icmp .ne 14, 3) := by decide +kernel
theorem dX5_requireTwo_5 : decode cX5_requireTwo 5 = .ok (.new 136, 3) := by decide +kernel
theorem dX5_requireTwo_8 : decode cX5_requireTwo 8 = .ok (.dup, 1) := by decide +kernel
theorem dX5_requireTwo_9 : decode cX5_requireTwo 9 = .ok (.ldc_w 310, 3) := by decide +kernel
theorem dX5_requireTwo_12 : decode cX5_requireTwo 12 = .ok (.invokespecial 140, 3) := by decide +kernel
theorem dX5_requireTwo_15 : decode cX5_requireTwo 15 = .ok (.athrow, 1) := by decide +kernel
theorem dX5_requireTwo_16 : decode cX5_requireTwo 16 = .ok (.return_, 1) := by decide +kernel
theorem dX5_requireWithin_0 : decode cX5_requireWithin 0 = .ok (.iload_n 0, 1) := by decide +kernel
theorem dX5_requireWithin_1 : decode cX5_requireWithin 1 = .ok (.iload_n 1, 1) := by decide +kernel
theorem dX5_requireWithin_2 : decode cX5_requireWithin 2 = .ok (.if_icmp .lt 8, 3) := by decide +kernel
theorem dX5_requireWithin_5 : decode cX5_requireWithin 5 = .ok (.iload_n 0, 1) := by decide +kernel
theorem dX5_requireWithin_6 : decode cX5_requireWithin 6 = .ok (.iload_n 2, 1) := by decide +kernel
theorem dX5_requireWithin_7 : decode cX5_requireWithin 7 = .ok (.if_icmp .le 14, 3) := by decide +kernel
theorem dX5_requireWithin_10 : decode cX5_requireWithin 10 = .ok (.new 136, 3) := by decide +kernel
theorem dX5_requireWithin_13 : decode cX5_requireWithin 13 = .ok (.dup, 1) := by decide +kernel
theorem dX5_requireWithin_14 : decode cX5_requireWithin 14 = .ok (.ldc_w 312, 3) := by decide +kernel
theorem dX5_requireWithin_17 : decode cX5_requireWithin 17 = .ok (.invokespecial 140, 3) := by decide +kernel
theorem dX5_requireWithin_20 : decode cX5_requireWithin 20 = .ok (.athrow, 1) := by decide +kernel
theorem dX5_requireWithin_21 : decode cX5_requireWithin 21 = .ok (.return_, 1) := by decide +kernel
theorem dX5_refusal_0 : decode cX5_refusal 0 = .ok (.bipush (-10), 2) := by decide +kernel
theorem dX5_refusal_2 : decode cX5_refusal 2 = .ok (.iload_n 0, 1) := by decide +kernel
theorem dX5_refusal_3 : decode cX5_refusal 3 = .ok (.isub, 1) := by decide +kernel
theorem dX5_refusal_4 : decode cX5_refusal 4 = .ok (.ireturn, 1) := by decide +kernel
