theorem dX6_init_0 : decode cX6_init 0 = .ok (.aload_n 0, 1) := by decide +kernel
theorem dX6_init_1 : decode cX6_init 1 = .ok (.invokespecial 1, 3) := by decide +kernel
theorem dX6_init_4 : decode cX6_init 4 = .ok (.aload_n 0, 1) := by decide +kernel
theorem dX6_init_5 : decode cX6_init 5 = .ok (.sipush 156, 3) := by decide +kernel
theorem dX6_init_8 : decode cX6_init 8 = .ok (.newarray .int, 2) := by decide +kernel
theorem dX6_init_10 : decode cX6_init 10 = .ok (.putfield 7, 3) := by decide +kernel
theorem dX6_init_13 : decode cX6_init 13 = .ok (.aload_n 0, 1) := by decide +kernel
theorem dX6_init_14 : decode cX6_init 14 = .ok (.sipush 156, 3) := by decide +kernel
theorem dX6_init_17 : decode cX6_init 17 = .ok (.newarray .int, 2) := by decide +kernel
theorem dX6_init_19 : decode cX6_init 19 = .ok (.putfield 13, 3) := by decide +kernel
theorem dX6_init_22 : decode cX6_init 22 = .ok (.aload_n 0, 1) := by decide +kernel
theorem dX6_init_23 : decode cX6_init 23 = .ok (.sipush 1248, 3) := by decide +kernel
theorem dX6_init_26 : decode cX6_init 26 = .ok (.newarray .int, 2) := by decide +kernel
theorem dX6_init_28 : decode cX6_init 28 = .ok (.putfield 16, 3) := by decide +kernel
theorem dX6_init_31 : decode cX6_init 31 = .ok (.aload_n 0, 1) := by decide +kernel
theorem dX6_init_32 : decode cX6_init 32 = .ok (.sipush 312, 3) := by decide +kernel
theorem dX6_init_35 : decode cX6_init 35 = .ok (.newarray .int, 2) := by decide +kernel
theorem dX6_init_37 : decode cX6_init 37 = .ok (.putfield 19, 3) := by decide +kernel
theorem dX6_init_40 : decode cX6_init 40 = .ok (.aload_n 0, 1) := by decide +kernel
theorem dX6_init_41 : decode cX6_init 41 = .ok (.iconst 2, 1) := by decide +kernel
theorem dX6_init_42 : decode cX6_init 42 = .ok (.newarray .boolean, 2) := by decide +kernel
theorem dX6_init_44 : decode cX6_init 44 = .ok (.putfield 22, 3) := by decide +kernel
theorem dX6_init_47 : decode cX6_init 47 = .ok (.aload_n 0, 1) := by decide +kernel
theorem dX6_init_48 : decode cX6_init 48 = .ok (.sipush 200, 3) := by decide +kernel
theorem dX6_init_51 : decode cX6_init 51 = .ok (.newarray .int, 2) := by decide +kernel
theorem dX6_init_53 : decode cX6_init 53 = .ok (.putfield 26, 3) := by decide +kernel
theorem dX6_init_56 : decode cX6_init 56 = .ok (.aload_n 0, 1) := by decide +kernel
theorem dX6_init_57 : decode cX6_init 57 = .ok (.sipush 800, 3) := by decide +kernel
theorem dX6_init_60 : decode cX6_init 60 = .ok (.newarray .int, 2) := by decide +kernel
theorem dX6_init_62 : decode cX6_init 62 = .ok (.putfield 29, 3) := by decide +kernel
theorem dX6_init_65 : decode cX6_init 65 = .ok (.aload_n 0, 1) := by decide +kernel
theorem dX6_init_66 : decode cX6_init 66 = .ok (.iconst (-1), 1) := by decide +kernel
theorem dX6_init_67 : decode cX6_init 67 = .ok (.putfield 32, 3) := by decide +kernel
theorem dX6_init_70 : decode cX6_init 70 = .ok (.aload_n 0, 1) := by decide +kernel
theorem dX6_init_71 : decode cX6_init 71 = .ok (.invokevirtual 36, 3) := by decide +kernel
theorem dX6_init_74 : decode cX6_init 74 = .ok (.aload_n 0, 1) := by decide +kernel
theorem dX6_init_75 : decode cX6_init 75 = .ok (.getfield 7, 3) := by decide +kernel
theorem dX6_init_78 : decode cX6_init 78 = .ok (.iconst 1, 1) := by decide +kernel
theorem dX6_init_79 : decode cX6_init 79 = .ok (.iconst 1, 1) := by decide +kernel
theorem dX6_init_80 : decode cX6_init 80 = .ok (.iastore, 1) := by decide +kernel
theorem dX6_init_81 : decode cX6_init 81 = .ok (.aload_n 0, 1) := by decide +kernel
theorem dX6_init_82 : decode cX6_init 82 = .ok (.getfield 7, 3) := by decide +kernel
theorem dX6_init_85 : decode cX6_init 85 = .ok (.bipush 44, 2) := by decide +kernel
theorem dX6_init_87 : decode cX6_init 87 = .ok (.iconst 1, 1) := by decide +kernel
theorem dX6_init_88 : decode cX6_init 88 = .ok (.iastore, 1) := by decide +kernel
theorem dX6_init_89 : decode cX6_init 89 = .ok (.aload_n 0, 1) := by decide +kernel
theorem dX6_init_90 : decode cX6_init 90 = .ok (.getfield 7, 3) := by decide +kernel
theorem dX6_init_93 : decode cX6_init 93 = .ok (.bipush 45, 2) := by decide +kernel
theorem dX6_init_95 : decode cX6_init 95 = .ok (.iconst 1, 1) := by decide +kernel
theorem dX6_init_96 : decode cX6_init 96 = .ok (.iastore, 1) := by decide +kernel
theorem dX6_init_97 : decode cX6_init 97 = .ok (.aload_n 0, 1) := by decide +kernel
theorem dX6_init_98 : decode cX6_init 98 = .ok (.iconst 2, 1) := by decide +kernel
theorem dX6_init_99 : decode cX6_init 99 = .ok (.iconst 2, 1) := by decide +kernel
theorem dX6_init_100 : decode cX6_init 100 = .ok (.invokevirtual 39, 3) := by decide +kernel
theorem dX6_init_103 : decode cX6_init 103 = .ok (.istore_n 1, 1) := by decide +kernel
theorem dX6_init_104 : decode cX6_init 104 = .ok (.return_, 1) := by decide +kernel
theorem dX6_thrown_0 : decode cX6_thrown 0 = .ok (.aload_n 0, 1) := by decide +kernel
theorem dX6_thrown_1 : decode cX6_thrown 1 = .ok (.getfield 43, 3) := by decide +kernel
theorem dX6_thrown_4 : decode cX6_thrown 4 = .ok (.ireturn, 1) := by decide +kernel
theorem dX6_isIn_0 : decode cX6_isIn 0 = .ok (.iload_n 0, 1) := by decide +kernel
theorem dX6_isIn_1 : decode cX6_isIn 1 = .ok (.iload_n 1, 1) := by decide +kernel
theorem dX6_isIn_2 : decode cX6_isIn 2 = .ok (.if_icmp .lt 12, 3) := by decide +kernel
theorem dX6_isIn_5 : decode cX6_isIn 5 = .ok (.iload_n 0, 1) := by decide +kernel
theorem dX6_isIn_6 : decode cX6_isIn 6 = .ok (.iload_n 2, 1) := by decide +kernel
theorem dX6_isIn_7 : decode cX6_isIn 7 = .ok (.if_icmp .gt 7, 3) := by decide +kernel
theorem dX6_isIn_10 : decode cX6_isIn 10 = .ok (.iconst 1, 1) := by decide +kernel
theorem dX6_isIn_11 : decode cX6_isIn 11 = .ok (.goto 4, 3) := by decide +kernel
theorem dX6_isIn_14 : decode cX6_isIn 14 = .ok (.iconst 0, 1) := by decide +kernel
theorem dX6_isIn_15 : decode cX6_isIn 15 = .ok (.ireturn, 1) := by decide +kernel
theorem dX6_copies_0 : decode cX6_copies 0 = .ok (.iconst 0, 1) := by decide +kernel
theorem dX6_copies_1 : decode cX6_copies 1 = .ok (.istore 4, 2) := by decide +kernel
theorem dX6_copies_3 : decode cX6_copies 3 = .ok (.iload 4, 2) := by decide +kernel
theorem dX6_copies_5 : decode cX6_copies 5 = .ok (.sipush 156, 3) := by decide +kernel
theorem dX6_copies_8 : decode cX6_copies 8 = .ok (.if_icmp .ge 21, 3) := by decide +kernel
theorem dX6_copies_11 : decode cX6_copies 11 = .ok (.aload_n 0, 1) := by decide +kernel
theorem dX6_copies_12 : decode cX6_copies 12 = .ok (.iload_n 1, 1) := by decide +kernel
theorem dX6_copies_13 : decode cX6_copies 13 = .ok (.iload 4, 2) := by decide +kernel
theorem dX6_copies_15 : decode cX6_copies 15 = .ok (.iadd, 1) := by decide +kernel
theorem dX6_copies_16 : decode cX6_copies 16 = .ok (.aload_n 2, 1) := by decide +kernel
theorem dX6_copies_17 : decode cX6_copies 17 = .ok (.iload_n 3, 1) := by decide +kernel
theorem dX6_copies_18 : decode cX6_copies 18 = .ok (.iload 4, 2) := by decide +kernel
theorem dX6_copies_20 : decode cX6_copies 20 = .ok (.iadd, 1) := by decide +kernel
theorem dX6_copies_21 : decode cX6_copies 21 = .ok (.iaload, 1) := by decide +kernel
theorem dX6_copies_22 : decode cX6_copies 22 = .ok (.iastore, 1) := by decide +kernel
theorem dX6_copies_23 : decode cX6_copies 23 = .ok (.iinc 4 1, 3) := by decide +kernel
theorem dX6_copies_26 : decode cX6_copies 26 = .ok (.goto (-23), 3) := by decide +kernel
theorem dX6_copies_29 : decode cX6_copies 29 = .ok (.return_, 1) := by decide +kernel
theorem dX6_begins_0 : decode cX6_begins 0 = .ok (.iconst 0, 1) := by decide +kernel
theorem dX6_begins_1 : decode cX6_begins 1 = .ok (.istore_n 1, 1) := by decide +kernel
theorem dX6_begins_2 : decode cX6_begins 2 = .ok (.iload_n 1, 1) := by decide +kernel
theorem dX6_begins_3 : decode cX6_begins 3 = .ok (.sipush 156, 3) := by decide +kernel
theorem dX6_begins_6 : decode cX6_begins 6 = .ok (.if_icmp .ge 16, 3) := by decide +kernel
theorem dX6_begins_9 : decode cX6_begins 9 = .ok (.aload_n 0, 1) := by decide +kernel
theorem dX6_begins_10 : decode cX6_begins 10 = .ok (.getfield 7, 3) := by decide +kernel
theorem dX6_begins_13 : decode cX6_begins 13 = .ok (.iload_n 1, 1) := by decide +kernel
theorem dX6_begins_14 : decode cX6_begins 14 = .ok (.iconst 0, 1) := by decide +kernel
theorem dX6_begins_15 : decode cX6_begins 15 = .ok (.iastore, 1) := by decide +kernel
theorem dX6_begins_16 : decode cX6_begins 16 = .ok (.iinc 1 1, 3) := by decide +kernel
theorem dX6_begins_19 : decode cX6_begins 19 = .ok (.goto (-17), 3) := by decide +kernel
theorem dX6_begins_22 : decode cX6_begins 22 = .ok (.aload_n 0, 1) := by decide +kernel
theorem dX6_begins_23 : decode cX6_begins 23 = .ok (.getfield 7, 3) := by decide +kernel
theorem dX6_begins_26 : decode cX6_begins 26 = .ok (.iconst 2, 1) := by decide +kernel
theorem dX6_begins_27 : decode cX6_begins 27 = .ok (.bipush 20, 2) := by decide +kernel
theorem dX6_begins_29 : decode cX6_begins 29 = .ok (.iastore, 1) := by decide +kernel
theorem dX6_begins_30 : decode cX6_begins 30 = .ok (.aload_n 0, 1) := by decide +kernel
theorem dX6_begins_31 : decode cX6_begins 31 = .ok (.getfield 7, 3) := by decide +kernel
theorem dX6_begins_34 : decode cX6_begins 34 = .ok (.iconst 3, 1) := by decide +kernel
theorem dX6_begins_35 : decode cX6_begins 35 = .ok (.bipush 10, 2) := by decide +kernel
theorem dX6_begins_37 : decode cX6_begins 37 = .ok (.iastore, 1) := by decide +kernel
theorem dX6_begins_38 : decode cX6_begins 38 = .ok (.return_, 1) := by decide +kernel
theorem dX6_keeps_0 : decode cX6_keeps 0 = .ok (.aload_n 0, 1) := by decide +kernel
theorem dX6_keeps_1 : decode cX6_keeps 1 = .ok (.getfield 46, 3) := by decide +kernel
theorem dX6_keeps_4 : decode cX6_keeps 4 = .ok (.bipush 8, 2) := by decide +kernel
theorem dX6_keeps_6 : decode cX6_keeps 6 = .ok (.if_icmp .ne 44, 3) := by decide +kernel
theorem dX6_keeps_9 : decode cX6_keeps 9 = .ok (.iconst 0, 1) := by decide +kernel
theorem dX6_keeps_10 : decode cX6_keeps 10 = .ok (.istore_n 2, 1) := by decide +kernel
theorem dX6_keeps_11 : decode cX6_keeps 11 = .ok (.iload_n 2, 1) := by decide +kernel
theorem dX6_keeps_12 : decode cX6_keeps 12 = .ok (.sipush 1092, 3) := by decide +kernel
theorem dX6_keeps_15 : decode cX6_keeps 15 = .ok (.if_icmp .ge 25, 3) := by decide +kernel
theorem dX6_keeps_18 : decode cX6_keeps 18 = .ok (.aload_n 0, 1) := by decide +kernel
theorem dX6_keeps_19 : decode cX6_keeps 19 = .ok (.getfield 16, 3) := by decide +kernel
theorem dX6_keeps_22 : decode cX6_keeps 22 = .ok (.iload_n 2, 1) := by decide +kernel
theorem dX6_keeps_23 : decode cX6_keeps 23 = .ok (.aload_n 0, 1) := by decide +kernel
theorem dX6_keeps_24 : decode cX6_keeps 24 = .ok (.getfield 16, 3) := by decide +kernel
theorem dX6_keeps_27 : decode cX6_keeps 27 = .ok (.iload_n 2, 1) := by decide +kernel
theorem dX6_keeps_28 : decode cX6_keeps 28 = .ok (.sipush 156, 3) := by decide +kernel
theorem dX6_keeps_31 : decode cX6_keeps 31 = .ok (.iadd, 1) := by decide +kernel
theorem dX6_keeps_32 : decode cX6_keeps 32 = .ok (.iaload, 1) := by decide +kernel
theorem dX6_keeps_33 : decode cX6_keeps 33 = .ok (.iastore, 1) := by decide +kernel
theorem dX6_keeps_34 : decode cX6_keeps 34 = .ok (.iinc 2 1, 3) := by decide +kernel
theorem dX6_keeps_37 : decode cX6_keeps 37 = .ok (.goto (-26), 3) := by decide +kernel
theorem dX6_keeps_40 : decode cX6_keeps 40 = .ok (.aload_n 0, 1) := by decide +kernel
theorem dX6_keeps_41 : decode cX6_keeps 41 = .ok (.dup, 1) := by decide +kernel
theorem dX6_keeps_42 : decode cX6_keeps 42 = .ok (.getfield 46, 3) := by decide +kernel
theorem dX6_keeps_45 : decode cX6_keeps 45 = .ok (.iconst 1, 1) := by decide +kernel
theorem dX6_keeps_46 : decode cX6_keeps 46 = .ok (.isub, 1) := by decide +kernel
theorem dX6_keeps_47 : decode cX6_keeps 47 = .ok (.putfield 46, 3) := by decide +kernel
theorem dX6_keeps_50 : decode cX6_keeps 50 = .ok (.aload_n 0, 1) := by decide +kernel
theorem dX6_keeps_51 : decode cX6_keeps 51 = .ok (.getfield 16, 3) := by decide +kernel
theorem dX6_keeps_54 : decode cX6_keeps 54 = .ok (.sipush 156, 3) := by decide +kernel
theorem dX6_keeps_57 : decode cX6_keeps 57 = .ok (.aload_n 0, 1) := by decide +kernel
theorem dX6_keeps_58 : decode cX6_keeps 58 = .ok (.getfield 46, 3) := by decide +kernel
theorem dX6_keeps_61 : decode cX6_keeps 61 = .ok (.imul, 1) := by decide +kernel
theorem dX6_keeps_62 : decode cX6_keeps 62 = .ok (.aload_n 1, 1) := by decide +kernel
theorem dX6_keeps_63 : decode cX6_keeps 63 = .ok (.iconst 0, 1) := by decide +kernel
theorem dX6_keeps_64 : decode cX6_keeps 64 = .ok (.invokestatic 49, 3) := by decide +kernel
theorem dX6_keeps_67 : decode cX6_keeps 67 = .ok (.aload_n 0, 1) := by decide +kernel
theorem dX6_keeps_68 : decode cX6_keeps 68 = .ok (.dup, 1) := by decide +kernel
theorem dX6_keeps_69 : decode cX6_keeps 69 = .ok (.getfield 46, 3) := by decide +kernel
theorem dX6_keeps_72 : decode cX6_keeps 72 = .ok (.iconst 1, 1) := by decide +kernel
theorem dX6_keeps_73 : decode cX6_keeps 73 = .ok (.iadd, 1) := by decide +kernel
theorem dX6_keeps_74 : decode cX6_keeps 74 = .ok (.putfield 46, 3) := by decide +kernel
theorem dX6_keeps_77 : decode cX6_keeps 77 = .ok (.return_, 1) := by decide +kernel
theorem dX6_undo_0 : decode cX6_undo 0 = .ok (.aload_n 0, 1) := by decide +kernel
theorem dX6_undo_1 : decode cX6_undo 1 = .ok (.aload_n 0, 1) := by decide +kernel
theorem dX6_undo_2 : decode cX6_undo 2 = .ok (.getfield 46, 3) := by decide +kernel
theorem dX6_undo_5 : decode cX6_undo 5 = .ok (.ifCond .ne 7, 3) := by decide +kernel
theorem dX6_undo_8 : decode cX6_undo 8 = .ok (.iconst 1, 1) := by decide +kernel
theorem dX6_undo_9 : decode cX6_undo 9 = .ok (.goto 4, 3) := by decide +kernel
theorem dX6_undo_12 : decode cX6_undo 12 = .ok (.iconst 0, 1) := by decide +kernel
theorem dX6_undo_13 : decode cX6_undo 13 = .ok (.putfield 43, 3) := by decide +kernel
theorem dX6_undo_16 : decode cX6_undo 16 = .ok (.aload_n 0, 1) := by decide +kernel
theorem dX6_undo_17 : decode cX6_undo 17 = .ok (.getfield 43, 3) := by decide +kernel
theorem dX6_undo_20 : decode cX6_undo 20 = .ok (.ifCond .le 5, 3) := by decide +kernel
theorem dX6_undo_23 : decode cX6_undo 23 = .ok (.iconst 0, 1) := by decide +kernel
theorem dX6_undo_24 : decode cX6_undo 24 = .ok (.ireturn, 1) := by decide +kernel
theorem dX6_undo_25 : decode cX6_undo 25 = .ok (.aload_n 0, 1) := by decide +kernel
theorem dX6_undo_26 : decode cX6_undo 26 = .ok (.dup, 1) := by decide +kernel
theorem dX6_undo_27 : decode cX6_undo 27 = .ok (.getfield 46, 3) := by decide +kernel
theorem dX6_undo_30 : decode cX6_undo 30 = .ok (.iconst 1, 1) := by decide +kernel
theorem dX6_undo_31 : decode cX6_undo 31 = .ok (.isub, 1) := by decide +kernel
theorem dX6_undo_32 : decode cX6_undo 32 = .ok (.putfield 46, 3) := by decide +kernel
theorem dX6_undo_35 : decode cX6_undo 35 = .ok (.aload_n 0, 1) := by decide +kernel
theorem dX6_undo_36 : decode cX6_undo 36 = .ok (.getfield 7, 3) := by decide +kernel
theorem dX6_undo_39 : decode cX6_undo 39 = .ok (.iconst 0, 1) := by decide +kernel
theorem dX6_undo_40 : decode cX6_undo 40 = .ok (.aload_n 0, 1) := by decide +kernel
theorem dX6_undo_41 : decode cX6_undo 41 = .ok (.getfield 16, 3) := by decide +kernel
theorem dX6_undo_44 : decode cX6_undo 44 = .ok (.sipush 156, 3) := by decide +kernel
theorem dX6_undo_47 : decode cX6_undo 47 = .ok (.aload_n 0, 1) := by decide +kernel
theorem dX6_undo_48 : decode cX6_undo 48 = .ok (.getfield 46, 3) := by decide +kernel
theorem dX6_undo_51 : decode cX6_undo 51 = .ok (.imul, 1) := by decide +kernel
theorem dX6_undo_52 : decode cX6_undo 52 = .ok (.invokestatic 49, 3) := by decide +kernel
theorem dX6_undo_55 : decode cX6_undo 55 = .ok (.aload_n 0, 1) := by decide +kernel
theorem dX6_undo_56 : decode cX6_undo 56 = .ok (.getfield 46, 3) := by decide +kernel
theorem dX6_undo_59 : decode cX6_undo 59 = .ok (.ireturn, 1) := by decide +kernel
theorem dX6_save_0 : decode cX6_save 0 = .ok (.aload_n 0, 1) := by decide +kernel
theorem dX6_save_1 : decode cX6_save 1 = .ok (.iload_n 1, 1) := by decide +kernel
theorem dX6_save_2 : decode cX6_save 2 = .ok (.iconst 0, 1) := by decide +kernel
theorem dX6_save_3 : decode cX6_save 3 = .ok (.iconst 1, 1) := by decide +kernel
theorem dX6_save_4 : decode cX6_save 4 = .ok (.invokestatic 53, 3) := by decide +kernel
theorem dX6_save_7 : decode cX6_save 7 = .ok (.ifCond .eq 7, 3) := by decide +kernel
theorem dX6_save_10 : decode cX6_save 10 = .ok (.iconst 0, 1) := by decide +kernel
theorem dX6_save_11 : decode cX6_save 11 = .ok (.goto 4, 3) := by decide +kernel
theorem dX6_save_14 : decode cX6_save 14 = .ok (.iconst 1, 1) := by decide +kernel
theorem dX6_save_15 : decode cX6_save 15 = .ok (.putfield 43, 3) := by decide +kernel
theorem dX6_save_18 : decode cX6_save 18 = .ok (.aload_n 0, 1) := by decide +kernel
theorem dX6_save_19 : decode cX6_save 19 = .ok (.getfield 43, 3) := by decide +kernel
theorem dX6_save_22 : decode cX6_save 22 = .ok (.ifCond .le 4, 3) := by decide +kernel
theorem dX6_save_25 : decode cX6_save 25 = .ok (.return_, 1) := by decide +kernel
theorem dX6_save_26 : decode cX6_save 26 = .ok (.aload_n 0, 1) := by decide +kernel
theorem dX6_save_27 : decode cX6_save 27 = .ok (.getfield 19, 3) := by decide +kernel
theorem dX6_save_30 : decode cX6_save 30 = .ok (.sipush 156, 3) := by decide +kernel
theorem dX6_save_33 : decode cX6_save 33 = .ok (.iload_n 1, 1) := by decide +kernel
theorem dX6_save_34 : decode cX6_save 34 = .ok (.imul, 1) := by decide +kernel
theorem dX6_save_35 : decode cX6_save 35 = .ok (.aload_n 0, 1) := by decide +kernel
theorem dX6_save_36 : decode cX6_save 36 = .ok (.getfield 7, 3) := by decide +kernel
theorem dX6_save_39 : decode cX6_save 39 = .ok (.iconst 0, 1) := by decide +kernel
theorem dX6_save_40 : decode cX6_save 40 = .ok (.invokestatic 49, 3) := by decide +kernel
theorem dX6_save_43 : decode cX6_save 43 = .ok (.aload_n 0, 1) := by decide +kernel
theorem dX6_save_44 : decode cX6_save 44 = .ok (.getfield 22, 3) := by decide +kernel
theorem dX6_save_47 : decode cX6_save 47 = .ok (.iload_n 1, 1) := by decide +kernel
theorem dX6_save_48 : decode cX6_save 48 = .ok (.iconst 1, 1) := by decide +kernel
theorem dX6_save_49 : decode cX6_save 49 = .ok (.bastore, 1) := by decide +kernel
theorem dX6_save_50 : decode cX6_save 50 = .ok (.return_, 1) := by decide +kernel
theorem dX6_restore_0 : decode cX6_restore 0 = .ok (.aload_n 0, 1) := by decide +kernel
theorem dX6_restore_1 : decode cX6_restore 1 = .ok (.iload_n 1, 1) := by decide +kernel
theorem dX6_restore_2 : decode cX6_restore 2 = .ok (.iconst 0, 1) := by decide +kernel
theorem dX6_restore_3 : decode cX6_restore 3 = .ok (.iconst 1, 1) := by decide +kernel
theorem dX6_restore_4 : decode cX6_restore 4 = .ok (.invokestatic 53, 3) := by decide +kernel
theorem dX6_restore_7 : decode cX6_restore 7 = .ok (.ifCond .ne 7, 3) := by decide +kernel
theorem dX6_restore_10 : decode cX6_restore 10 = .ok (.iconst 1, 1) := by decide +kernel
theorem dX6_restore_11 : decode cX6_restore 11 = .ok (.goto 17, 3) := by decide +kernel
theorem dX6_restore_14 : decode cX6_restore 14 = .ok (.aload_n 0, 1) := by decide +kernel
theorem dX6_restore_15 : decode cX6_restore 15 = .ok (.getfield 22, 3) := by decide +kernel
theorem dX6_restore_18 : decode cX6_restore 18 = .ok (.iload_n 1, 1) := by decide +kernel
theorem dX6_restore_19 : decode cX6_restore 19 = .ok (.baload, 1) := by decide +kernel
theorem dX6_restore_20 : decode cX6_restore 20 = .ok (.ifCond .eq 7, 3) := by decide +kernel
theorem dX6_restore_23 : decode cX6_restore 23 = .ok (.iconst 0, 1) := by decide +kernel
theorem dX6_restore_24 : decode cX6_restore 24 = .ok (.goto 4, 3) := by decide +kernel
theorem dX6_restore_27 : decode cX6_restore 27 = .ok (.iconst 2, 1) := by decide +kernel
theorem dX6_restore_28 : decode cX6_restore 28 = .ok (.putfield 43, 3) := by decide +kernel
theorem dX6_restore_31 : decode cX6_restore 31 = .ok (.aload_n 0, 1) := by decide +kernel
theorem dX6_restore_32 : decode cX6_restore 32 = .ok (.getfield 43, 3) := by decide +kernel
theorem dX6_restore_35 : decode cX6_restore 35 = .ok (.ifCond .le 5, 3) := by decide +kernel
theorem dX6_restore_38 : decode cX6_restore 38 = .ok (.iconst 0, 1) := by decide +kernel
theorem dX6_restore_39 : decode cX6_restore 39 = .ok (.ireturn, 1) := by decide +kernel
theorem dX6_restore_40 : decode cX6_restore 40 = .ok (.aload_n 0, 1) := by decide +kernel
theorem dX6_restore_41 : decode cX6_restore 41 = .ok (.aload_n 0, 1) := by decide +kernel
theorem dX6_restore_42 : decode cX6_restore 42 = .ok (.getfield 7, 3) := by decide +kernel
theorem dX6_restore_45 : decode cX6_restore 45 = .ok (.invokevirtual 57, 3) := by decide +kernel
theorem dX6_restore_48 : decode cX6_restore 48 = .ok (.aload_n 0, 1) := by decide +kernel
theorem dX6_restore_49 : decode cX6_restore 49 = .ok (.getfield 7, 3) := by decide +kernel
theorem dX6_restore_52 : decode cX6_restore 52 = .ok (.iconst 0, 1) := by decide +kernel
theorem dX6_restore_53 : decode cX6_restore 53 = .ok (.aload_n 0, 1) := by decide +kernel
theorem dX6_restore_54 : decode cX6_restore 54 = .ok (.getfield 19, 3) := by decide +kernel
theorem dX6_restore_57 : decode cX6_restore 57 = .ok (.sipush 156, 3) := by decide +kernel
theorem dX6_restore_60 : decode cX6_restore 60 = .ok (.iload_n 1, 1) := by decide +kernel
theorem dX6_restore_61 : decode cX6_restore 61 = .ok (.imul, 1) := by decide +kernel
theorem dX6_restore_62 : decode cX6_restore 62 = .ok (.invokestatic 49, 3) := by decide +kernel
theorem dX6_restore_65 : decode cX6_restore 65 = .ok (.aload_n 0, 1) := by decide +kernel
theorem dX6_restore_66 : decode cX6_restore 66 = .ok (.getfield 7, 3) := by decide +kernel
theorem dX6_restore_69 : decode cX6_restore 69 = .ok (.iconst 4, 1) := by decide +kernel
theorem dX6_restore_70 : decode cX6_restore 70 = .ok (.iaload, 1) := by decide +kernel
theorem dX6_restore_71 : decode cX6_restore 71 = .ok (.ireturn, 1) := by decide +kernel
theorem dX6_mo_0 : decode cX6_mo 0 = .ok (.bipush 60, 2) := by decide +kernel
theorem dX6_mo_2 : decode cX6_mo 2 = .ok (.bipush 8, 2) := by decide +kernel
theorem dX6_mo_4 : decode cX6_mo 4 = .ok (.iload_n 0, 1) := by decide +kernel
theorem dX6_mo_5 : decode cX6_mo 5 = .ok (.imul, 1) := by decide +kernel
theorem dX6_mo_6 : decode cX6_mo 6 = .ok (.iadd, 1) := by decide +kernel
theorem dX6_mo_7 : decode cX6_mo 7 = .ok (.iload_n 1, 1) := by decide +kernel
theorem dX6_mo_8 : decode cX6_mo 8 = .ok (.iadd, 1) := by decide +kernel
theorem dX6_mo_9 : decode cX6_mo 9 = .ok (.ireturn, 1) := by decide +kernel
theorem dX6_isMonk_0 : decode cX6_isMonk 0 = .ok (.iload_n 1, 1) := by decide +kernel
theorem dX6_isMonk_1 : decode cX6_isMonk 1 = .ok (.iconst 0, 1) := by decide +kernel
theorem dX6_isMonk_2 : decode cX6_isMonk 2 = .ok (.aload_n 0, 1) := by decide +kernel
theorem dX6_isMonk_3 : decode cX6_isMonk 3 = .ok (.getfield 7, 3) := by decide +kernel
theorem dX6_isMonk_6 : decode cX6_isMonk 6 = .ok (.iconst 0, 1) := by decide +kernel
theorem dX6_isMonk_7 : decode cX6_isMonk 7 = .ok (.iaload, 1) := by decide +kernel
theorem dX6_isMonk_8 : decode cX6_isMonk 8 = .ok (.iconst 1, 1) := by decide +kernel
theorem dX6_isMonk_9 : decode cX6_isMonk 9 = .ok (.isub, 1) := by decide +kernel
theorem dX6_isMonk_10 : decode cX6_isMonk 10 = .ok (.invokestatic 53, 3) := by decide +kernel
theorem dX6_isMonk_13 : decode cX6_isMonk 13 = .ok (.ireturn, 1) := by decide +kernel
theorem dX6_isNeed_0 : decode cX6_isNeed 0 = .ok (.iload_n 1, 1) := by decide +kernel
theorem dX6_isNeed_1 : decode cX6_isNeed 1 = .ok (.iconst 0, 1) := by decide +kernel
theorem dX6_isNeed_2 : decode cX6_isNeed 2 = .ok (.aload_n 0, 1) := by decide +kernel
theorem dX6_isNeed_3 : decode cX6_isNeed 3 = .ok (.getfield 7, 3) := by decide +kernel
theorem dX6_isNeed_6 : decode cX6_isNeed 6 = .ok (.iconst 1, 1) := by decide +kernel
theorem dX6_isNeed_7 : decode cX6_isNeed 7 = .ok (.iaload, 1) := by decide +kernel
theorem dX6_isNeed_8 : decode cX6_isNeed 8 = .ok (.iconst 1, 1) := by decide +kernel
theorem dX6_isNeed_9 : decode cX6_isNeed 9 = .ok (.isub, 1) := by decide +kernel
theorem dX6_isNeed_10 : decode cX6_isNeed 10 = .ok (.invokestatic 53, 3) := by decide +kernel
theorem dX6_isNeed_13 : decode cX6_isNeed 13 = .ok (.ireturn, 1) := by decide +kernel
theorem dX6_addsMonk_0 : decode cX6_addsMonk 0 = .ok (.aload_n 0, 1) := by decide +kernel
theorem dX6_addsMonk_1 : decode cX6_addsMonk 1 = .ok (.getfield 7, 3) := by decide +kernel
theorem dX6_addsMonk_4 : decode cX6_addsMonk 4 = .ok (.iconst 0, 1) := by decide +kernel
theorem dX6_addsMonk_5 : decode cX6_addsMonk 5 = .ok (.iaload, 1) := by decide +kernel
theorem dX6_addsMonk_6 : decode cX6_addsMonk 6 = .ok (.istore_n 3, 1) := by decide +kernel
theorem dX6_addsMonk_7 : decode cX6_addsMonk 7 = .ok (.aload_n 0, 1) := by decide +kernel
theorem dX6_addsMonk_8 : decode cX6_addsMonk 8 = .ok (.getfield 7, 3) := by decide +kernel
theorem dX6_addsMonk_11 : decode cX6_addsMonk 11 = .ok (.iconst 0, 1) := by decide +kernel
theorem dX6_addsMonk_12 : decode cX6_addsMonk 12 = .ok (.dup2, 1) := by decide +kernel
theorem dX6_addsMonk_13 : decode cX6_addsMonk 13 = .ok (.iaload, 1) := by decide +kernel
theorem dX6_addsMonk_14 : decode cX6_addsMonk 14 = .ok (.iconst 1, 1) := by decide +kernel
theorem dX6_addsMonk_15 : decode cX6_addsMonk 15 = .ok (.iadd, 1) := by decide +kernel
theorem dX6_addsMonk_16 : decode cX6_addsMonk 16 = .ok (.iastore, 1) := by decide +kernel
theorem dX6_addsMonk_17 : decode cX6_addsMonk 17 = .ok (.iconst 0, 1) := by decide +kernel
theorem dX6_addsMonk_18 : decode cX6_addsMonk 18 = .ok (.istore 4, 2) := by decide +kernel
theorem dX6_addsMonk_20 : decode cX6_addsMonk 20 = .ok (.iload 4, 2) := by decide +kernel
theorem dX6_addsMonk_22 : decode cX6_addsMonk 22 = .ok (.bipush 8, 2) := by decide +kernel
theorem dX6_addsMonk_24 : decode cX6_addsMonk 24 = .ok (.if_icmp .ge 21, 3) := by decide +kernel
theorem dX6_addsMonk_27 : decode cX6_addsMonk 27 = .ok (.aload_n 0, 1) := by decide +kernel
theorem dX6_addsMonk_28 : decode cX6_addsMonk 28 = .ok (.getfield 7, 3) := by decide +kernel
theorem dX6_addsMonk_31 : decode cX6_addsMonk 31 = .ok (.iload_n 3, 1) := by decide +kernel
theorem dX6_addsMonk_32 : decode cX6_addsMonk 32 = .ok (.iload 4, 2) := by decide +kernel
theorem dX6_addsMonk_34 : decode cX6_addsMonk 34 = .ok (.invokestatic 61, 3) := by decide +kernel
theorem dX6_addsMonk_37 : decode cX6_addsMonk 37 = .ok (.iconst 0, 1) := by decide +kernel
theorem dX6_addsMonk_38 : decode cX6_addsMonk 38 = .ok (.iastore, 1) := by decide +kernel
theorem dX6_addsMonk_39 : decode cX6_addsMonk 39 = .ok (.iinc 4 1, 3) := by decide +kernel
theorem dX6_addsMonk_42 : decode cX6_addsMonk 42 = .ok (.goto (-22), 3) := by decide +kernel
theorem dX6_addsMonk_45 : decode cX6_addsMonk 45 = .ok (.aload_n 0, 1) := by decide +kernel
theorem dX6_addsMonk_46 : decode cX6_addsMonk 46 = .ok (.getfield 7, 3) := by decide +kernel
theorem dX6_addsMonk_49 : decode cX6_addsMonk 49 = .ok (.iload_n 3, 1) := by decide +kernel
theorem dX6_addsMonk_50 : decode cX6_addsMonk 50 = .ok (.iconst 0, 1) := by decide +kernel
theorem dX6_addsMonk_51 : decode cX6_addsMonk 51 = .ok (.invokestatic 61, 3) := by decide +kernel
theorem dX6_addsMonk_54 : decode cX6_addsMonk 54 = .ok (.iload_n 1, 1) := by decide +kernel
theorem dX6_addsMonk_55 : decode cX6_addsMonk 55 = .ok (.iastore, 1) := by decide +kernel
theorem dX6_addsMonk_56 : decode cX6_addsMonk 56 = .ok (.aload_n 0, 1) := by decide +kernel
theorem dX6_addsMonk_57 : decode cX6_addsMonk 57 = .ok (.getfield 7, 3) := by decide +kernel
theorem dX6_addsMonk_60 : decode cX6_addsMonk 60 = .ok (.iload_n 3, 1) := by decide +kernel
theorem dX6_addsMonk_61 : decode cX6_addsMonk 61 = .ok (.iconst 1, 1) := by decide +kernel
theorem dX6_addsMonk_62 : decode cX6_addsMonk 62 = .ok (.invokestatic 61, 3) := by decide +kernel
theorem dX6_addsMonk_65 : decode cX6_addsMonk 65 = .ok (.iload_n 2, 1) := by decide +kernel
theorem dX6_addsMonk_66 : decode cX6_addsMonk 66 = .ok (.iastore, 1) := by decide +kernel
theorem dX6_addsMonk_67 : decode cX6_addsMonk 67 = .ok (.iload_n 3, 1) := by decide +kernel
theorem dX6_addsMonk_68 : decode cX6_addsMonk 68 = .ok (.ireturn, 1) := by decide +kernel
theorem dX6_words_0 : decode cX6_words 0 = .ok (.aload_n 0, 1) := by decide +kernel
theorem dX6_words_1 : decode cX6_words 1 = .ok (.getfield 7, 3) := by decide +kernel
theorem dX6_words_4 : decode cX6_words 4 = .ok (.bipush 44, 2) := by decide +kernel
theorem dX6_words_6 : decode cX6_words 6 = .ok (.iconst 2, 1) := by decide +kernel
theorem dX6_words_7 : decode cX6_words 7 = .ok (.iload_n 1, 1) := by decide +kernel
theorem dX6_words_8 : decode cX6_words 8 = .ok (.imul, 1) := by decide +kernel
theorem dX6_words_9 : decode cX6_words 9 = .ok (.iadd, 1) := by decide +kernel
theorem dX6_words_10 : decode cX6_words 10 = .ok (.iconst 1, 1) := by decide +kernel
theorem dX6_words_11 : decode cX6_words 11 = .ok (.iadd, 1) := by decide +kernel
theorem dX6_words_12 : decode cX6_words 12 = .ok (.iaload, 1) := by decide +kernel
theorem dX6_words_13 : decode cX6_words 13 = .ok (.ireturn, 1) := by decide +kernel
theorem dX6_isSet_0 : decode cX6_isSet 0 = .ok (.aload_n 0, 1) := by decide +kernel
theorem dX6_isSet_1 : decode cX6_isSet 1 = .ok (.getfield 7, 3) := by decide +kernel
theorem dX6_isSet_4 : decode cX6_isSet 4 = .ok (.iload_n 1, 1) := by decide +kernel
theorem dX6_isSet_5 : decode cX6_isSet 5 = .ok (.iload_n 2, 1) := by decide +kernel
theorem dX6_isSet_6 : decode cX6_isSet 6 = .ok (.invokestatic 61, 3) := by decide +kernel
theorem dX6_isSet_9 : decode cX6_isSet 9 = .ok (.iaload, 1) := by decide +kernel
theorem dX6_isSet_10 : decode cX6_isSet 10 = .ok (.iload_n 3, 1) := by decide +kernel
theorem dX6_isSet_11 : decode cX6_isSet 11 = .ok (.ishr, 1) := by decide +kernel
theorem dX6_isSet_12 : decode cX6_isSet 12 = .ok (.iconst 1, 1) := by decide +kernel
theorem dX6_isSet_13 : decode cX6_isSet 13 = .ok (.iand, 1) := by decide +kernel
theorem dX6_isSet_14 : decode cX6_isSet 14 = .ok (.iconst 1, 1) := by decide +kernel
theorem dX6_isSet_15 : decode cX6_isSet 15 = .ok (.if_icmp .ne 7, 3) := by decide +kernel
theorem dX6_isSet_18 : decode cX6_isSet 18 = .ok (.iconst 1, 1) := by decide +kernel
theorem dX6_isSet_19 : decode cX6_isSet 19 = .ok (.goto 4, 3) := by decide +kernel
theorem dX6_isSet_22 : decode cX6_isSet 22 = .ok (.iconst 0, 1) := by decide +kernel
theorem dX6_isSet_23 : decode cX6_isSet 23 = .ok (.ireturn, 1) := by decide +kernel
theorem dX6_bits_0 : decode cX6_bits 0 = .ok (.iconst 0, 1) := by decide +kernel
theorem dX6_bits_1 : decode cX6_bits 1 = .ok (.istore_n 1, 1) := by decide +kernel
theorem dX6_bits_2 : decode cX6_bits 2 = .ok (.iload_n 0, 1) := by decide +kernel
theorem dX6_bits_3 : decode cX6_bits 3 = .ok (.istore_n 2, 1) := by decide +kernel
theorem dX6_bits_4 : decode cX6_bits 4 = .ok (.iload_n 2, 1) := by decide +kernel
theorem dX6_bits_5 : decode cX6_bits 5 = .ok (.ifCond .le 16, 3) := by decide +kernel
theorem dX6_bits_8 : decode cX6_bits 8 = .ok (.iload_n 1, 1) := by decide +kernel
theorem dX6_bits_9 : decode cX6_bits 9 = .ok (.iload_n 2, 1) := by decide +kernel
theorem dX6_bits_10 : decode cX6_bits 10 = .ok (.iconst 2, 1) := by decide +kernel
theorem dX6_bits_11 : decode cX6_bits 11 = .ok (.irem, 1) := by decide +kernel
theorem dX6_bits_12 : decode cX6_bits 12 = .ok (.iadd, 1) := by decide +kernel
theorem dX6_bits_13 : decode cX6_bits 13 = .ok (.istore_n 1, 1) := by decide +kernel
theorem dX6_bits_14 : decode cX6_bits 14 = .ok (.iload_n 2, 1) := by decide +kernel
theorem dX6_bits_15 : decode cX6_bits 15 = .ok (.iconst 2, 1) := by decide +kernel
theorem dX6_bits_16 : decode cX6_bits 16 = .ok (.idiv, 1) := by decide +kernel
theorem dX6_bits_17 : decode cX6_bits 17 = .ok (.istore_n 2, 1) := by decide +kernel
theorem dX6_bits_18 : decode cX6_bits 18 = .ok (.goto (-14), 3) := by decide +kernel
theorem dX6_bits_21 : decode cX6_bits 21 = .ok (.iload_n 1, 1) := by decide +kernel
theorem dX6_bits_22 : decode cX6_bits 22 = .ok (.ireturn, 1) := by decide +kernel
theorem dX6_hourOfBell_0 : decode cX6_hourOfBell 0 = .ok (.iconst 0, 1) := by decide +kernel
theorem dX6_hourOfBell_1 : decode cX6_hourOfBell 1 = .ok (.istore_n 2, 1) := by decide +kernel
theorem dX6_hourOfBell_2 : decode cX6_hourOfBell 2 = .ok (.iload_n 2, 1) := by decide +kernel
theorem dX6_hourOfBell_3 : decode cX6_hourOfBell 3 = .ok (.bipush 24, 2) := by decide +kernel
theorem dX6_hourOfBell_5 : decode cX6_hourOfBell 5 = .ok (.if_icmp .ge 33, 3) := by decide +kernel
theorem dX6_hourOfBell_8 : decode cX6_hourOfBell 8 = .ok (.iload_n 1, 1) := by decide +kernel
theorem dX6_hourOfBell_9 : decode cX6_hourOfBell 9 = .ok (.bipush 24, 2) := by decide +kernel
theorem dX6_hourOfBell_11 : decode cX6_hourOfBell 11 = .ok (.iadd, 1) := by decide +kernel
theorem dX6_hourOfBell_12 : decode cX6_hourOfBell 12 = .ok (.iload_n 2, 1) := by decide +kernel
theorem dX6_hourOfBell_13 : decode cX6_hourOfBell 13 = .ok (.isub, 1) := by decide +kernel
theorem dX6_hourOfBell_14 : decode cX6_hourOfBell 14 = .ok (.bipush 24, 2) := by decide +kernel
theorem dX6_hourOfBell_16 : decode cX6_hourOfBell 16 = .ok (.irem, 1) := by decide +kernel
theorem dX6_hourOfBell_17 : decode cX6_hourOfBell 17 = .ok (.istore_n 3, 1) := by decide +kernel
theorem dX6_hourOfBell_18 : decode cX6_hourOfBell 18 = .ok (.aload_n 0, 1) := by decide +kernel
theorem dX6_hourOfBell_19 : decode cX6_hourOfBell 19 = .ok (.getfield 7, 3) := by decide +kernel
theorem dX6_hourOfBell_22 : decode cX6_hourOfBell 22 = .ok (.bipush 20, 2) := by decide +kernel
theorem dX6_hourOfBell_24 : decode cX6_hourOfBell 24 = .ok (.iload_n 3, 1) := by decide +kernel
theorem dX6_hourOfBell_25 : decode cX6_hourOfBell 25 = .ok (.iadd, 1) := by decide +kernel
theorem dX6_hourOfBell_26 : decode cX6_hourOfBell 26 = .ok (.iaload, 1) := by decide +kernel
theorem dX6_hourOfBell_27 : decode cX6_hourOfBell 27 = .ok (.ifCond .eq 5, 3) := by decide +kernel
theorem dX6_hourOfBell_30 : decode cX6_hourOfBell 30 = .ok (.iload_n 3, 1) := by decide +kernel
theorem dX6_hourOfBell_31 : decode cX6_hourOfBell 31 = .ok (.ireturn, 1) := by decide +kernel
theorem dX6_hourOfBell_32 : decode cX6_hourOfBell 32 = .ok (.iinc 2 1, 3) := by decide +kernel
theorem dX6_hourOfBell_35 : decode cX6_hourOfBell 35 = .ok (.goto (-33), 3) := by decide +kernel
theorem dX6_hourOfBell_38 : decode cX6_hourOfBell 38 = .ok (.iconst (-1), 1) := by decide +kernel
theorem dX6_hourOfBell_39 : decode cX6_hourOfBell 39 = .ok (.ireturn, 1) := by decide +kernel
theorem dX6_isSpeech_0 : decode cX6_isSpeech 0 = .ok (.aload_n 0, 1) := by decide +kernel
theorem dX6_isSpeech_1 : decode cX6_isSpeech 1 = .ok (.iload_n 1, 1) := by decide +kernel
theorem dX6_isSpeech_2 : decode cX6_isSpeech 2 = .ok (.invokevirtual 64, 3) := by decide +kernel
theorem dX6_isSpeech_5 : decode cX6_isSpeech 5 = .ok (.istore_n 2, 1) := by decide +kernel
theorem dX6_isSpeech_6 : decode cX6_isSpeech 6 = .ok (.iload_n 2, 1) := by decide +kernel
theorem dX6_isSpeech_7 : decode cX6_isSpeech 7 = .ok (.iconst (-1), 1) := by decide +kernel
theorem dX6_isSpeech_8 : decode cX6_isSpeech 8 = .ok (.if_icmp .eq 20, 3) := by decide +kernel
theorem dX6_isSpeech_11 : decode cX6_isSpeech 11 = .ok (.aload_n 0, 1) := by decide +kernel
theorem dX6_isSpeech_12 : decode cX6_isSpeech 12 = .ok (.getfield 7, 3) := by decide +kernel
theorem dX6_isSpeech_15 : decode cX6_isSpeech 15 = .ok (.bipush 20, 2) := by decide +kernel
theorem dX6_isSpeech_17 : decode cX6_isSpeech 17 = .ok (.iload_n 2, 1) := by decide +kernel
theorem dX6_isSpeech_18 : decode cX6_isSpeech 18 = .ok (.iadd, 1) := by decide +kernel
theorem dX6_isSpeech_19 : decode cX6_isSpeech 19 = .ok (.iaload, 1) := by decide +kernel
theorem dX6_isSpeech_20 : decode cX6_isSpeech 20 = .ok (.iconst 2, 1) := by decide +kernel
theorem dX6_isSpeech_21 : decode cX6_isSpeech 21 = .ok (.if_icmp .ne 7, 3) := by decide +kernel
theorem dX6_isSpeech_24 : decode cX6_isSpeech 24 = .ok (.iconst 1, 1) := by decide +kernel
theorem dX6_isSpeech_25 : decode cX6_isSpeech 25 = .ok (.goto 4, 3) := by decide +kernel
theorem dX6_isSpeech_28 : decode cX6_isSpeech 28 = .ok (.iconst 0, 1) := by decide +kernel
theorem dX6_isSpeech_29 : decode cX6_isSpeech 29 = .ok (.ireturn, 1) := by decide +kernel
theorem dX6_isSpeechNow_0 : decode cX6_isSpeechNow 0 = .ok (.aload_n 0, 1) := by decide +kernel
theorem dX6_isSpeechNow_1 : decode cX6_isSpeechNow 1 = .ok (.aload_n 0, 1) := by decide +kernel
theorem dX6_isSpeechNow_2 : decode cX6_isSpeechNow 2 = .ok (.getfield 7, 3) := by decide +kernel
theorem dX6_isSpeechNow_5 : decode cX6_isSpeechNow 5 = .ok (.iconst 4, 1) := by decide +kernel
theorem dX6_isSpeechNow_6 : decode cX6_isSpeechNow 6 = .ok (.iaload, 1) := by decide +kernel
theorem dX6_isSpeechNow_7 : decode cX6_isSpeechNow 7 = .ok (.bipush 24, 2) := by decide +kernel
theorem dX6_isSpeechNow_9 : decode cX6_isSpeechNow 9 = .ok (.irem, 1) := by decide +kernel
theorem dX6_isSpeechNow_10 : decode cX6_isSpeechNow 10 = .ok (.invokevirtual 68, 3) := by decide +kernel
theorem dX6_isSpeechNow_13 : decode cX6_isSpeechNow 13 = .ok (.ireturn, 1) := by decide +kernel
theorem dX6_hoursOfSpeech_0 : decode cX6_hoursOfSpeech 0 = .ok (.iconst 0, 1) := by decide +kernel
theorem dX6_hoursOfSpeech_1 : decode cX6_hoursOfSpeech 1 = .ok (.istore_n 1, 1) := by decide +kernel
theorem dX6_hoursOfSpeech_2 : decode cX6_hoursOfSpeech 2 = .ok (.iconst 0, 1) := by decide +kernel
theorem dX6_hoursOfSpeech_3 : decode cX6_hoursOfSpeech 3 = .ok (.istore_n 2, 1) := by decide +kernel
theorem dX6_hoursOfSpeech_4 : decode cX6_hoursOfSpeech 4 = .ok (.iload_n 2, 1) := by decide +kernel
theorem dX6_hoursOfSpeech_5 : decode cX6_hoursOfSpeech 5 = .ok (.bipush 24, 2) := by decide +kernel
theorem dX6_hoursOfSpeech_7 : decode cX6_hoursOfSpeech 7 = .ok (.if_icmp .ge 25, 3) := by decide +kernel
theorem dX6_hoursOfSpeech_10 : decode cX6_hoursOfSpeech 10 = .ok (.iload_n 1, 1) := by decide +kernel
theorem dX6_hoursOfSpeech_11 : decode cX6_hoursOfSpeech 11 = .ok (.aload_n 0, 1) := by decide +kernel
theorem dX6_hoursOfSpeech_12 : decode cX6_hoursOfSpeech 12 = .ok (.iload_n 2, 1) := by decide +kernel
theorem dX6_hoursOfSpeech_13 : decode cX6_hoursOfSpeech 13 = .ok (.invokevirtual 68, 3) := by decide +kernel
theorem dX6_hoursOfSpeech_16 : decode cX6_hoursOfSpeech 16 = .ok (.ifCond .eq 7, 3) := by decide +kernel
theorem dX6_hoursOfSpeech_19 : decode cX6_hoursOfSpeech 19 = .ok (.iconst 1, 1) := by decide +kernel
theorem dX6_hoursOfSpeech_20 : decode cX6_hoursOfSpeech 20 = .ok (.goto 4, 3) := by decide +kernel
theorem dX6_hoursOfSpeech_23 : decode cX6_hoursOfSpeech 23 = .ok (.iconst 0, 1) := by decide +kernel
theorem dX6_hoursOfSpeech_24 : decode cX6_hoursOfSpeech 24 = .ok (.iadd, 1) := by decide +kernel
theorem dX6_hoursOfSpeech_25 : decode cX6_hoursOfSpeech 25 = .ok (.istore_n 1, 1) := by decide +kernel
theorem dX6_hoursOfSpeech_26 : decode cX6_hoursOfSpeech 26 = .ok (.iinc 2 1, 3) := by decide +kernel
theorem dX6_hoursOfSpeech_29 : decode cX6_hoursOfSpeech 29 = .ok (.goto (-25), 3) := by decide +kernel
theorem dX6_hoursOfSpeech_32 : decode cX6_hoursOfSpeech 32 = .ok (.iload_n 1, 1) := by decide +kernel
theorem dX6_hoursOfSpeech_33 : decode cX6_hoursOfSpeech 33 = .ok (.ireturn, 1) := by decide +kernel
theorem dX6_pagesOf_0 : decode cX6_pagesOf 0 = .ok (.aload_n 0, 1) := by decide +kernel
theorem dX6_pagesOf_1 : decode cX6_pagesOf 1 = .ok (.iload_n 2, 1) := by decide +kernel
theorem dX6_pagesOf_2 : decode cX6_pagesOf 2 = .ok (.invokevirtual 72, 3) := by decide +kernel
theorem dX6_pagesOf_5 : decode cX6_pagesOf 5 = .ok (.bipush 9, 2) := by decide +kernel
theorem dX6_pagesOf_7 : decode cX6_pagesOf 7 = .ok (.iadd, 1) := by decide +kernel
theorem dX6_pagesOf_8 : decode cX6_pagesOf 8 = .ok (.bipush 10, 2) := by decide +kernel
theorem dX6_pagesOf_10 : decode cX6_pagesOf 10 = .ok (.idiv, 1) := by decide +kernel
theorem dX6_pagesOf_11 : decode cX6_pagesOf 11 = .ok (.aload_n 0, 1) := by decide +kernel
theorem dX6_pagesOf_12 : decode cX6_pagesOf 12 = .ok (.getfield 7, 3) := by decide +kernel
theorem dX6_pagesOf_15 : decode cX6_pagesOf 15 = .ok (.iload_n 1, 1) := by decide +kernel
theorem dX6_pagesOf_16 : decode cX6_pagesOf 16 = .ok (.iconst 1, 1) := by decide +kernel
theorem dX6_pagesOf_17 : decode cX6_pagesOf 17 = .ok (.invokestatic 61, 3) := by decide +kernel
theorem dX6_pagesOf_20 : decode cX6_pagesOf 20 = .ok (.iaload, 1) := by decide +kernel
theorem dX6_pagesOf_21 : decode cX6_pagesOf 21 = .ok (.ifCond .ne 7, 3) := by decide +kernel
theorem dX6_pagesOf_24 : decode cX6_pagesOf 24 = .ok (.iconst 2, 1) := by decide +kernel
theorem dX6_pagesOf_25 : decode cX6_pagesOf 25 = .ok (.goto 4, 3) := by decide +kernel
theorem dX6_pagesOf_28 : decode cX6_pagesOf 28 = .ok (.iconst 1, 1) := by decide +kernel
theorem dX6_pagesOf_29 : decode cX6_pagesOf 29 = .ok (.imul, 1) := by decide +kernel
theorem dX6_pagesOf_30 : decode cX6_pagesOf 30 = .ok (.ireturn, 1) := by decide +kernel
theorem dX6_byLeave_0 : decode cX6_byLeave 0 = .ok (.aload_n 0, 1) := by decide +kernel
theorem dX6_byLeave_1 : decode cX6_byLeave 1 = .ok (.invokevirtual 75, 3) := by decide +kernel
theorem dX6_byLeave_4 : decode cX6_byLeave 4 = .ok (.ifCond .eq 7, 3) := by decide +kernel
theorem dX6_byLeave_7 : decode cX6_byLeave 7 = .ok (.iconst 0, 1) := by decide +kernel
theorem dX6_byLeave_8 : decode cX6_byLeave 8 = .ok (.goto 21, 3) := by decide +kernel
theorem dX6_byLeave_11 : decode cX6_byLeave 11 = .ok (.aload_n 0, 1) := by decide +kernel
theorem dX6_byLeave_12 : decode cX6_byLeave 12 = .ok (.getfield 7, 3) := by decide +kernel
theorem dX6_byLeave_15 : decode cX6_byLeave 15 = .ok (.iload_n 1, 1) := by decide +kernel
theorem dX6_byLeave_16 : decode cX6_byLeave 16 = .ok (.iconst 4, 1) := by decide +kernel
theorem dX6_byLeave_17 : decode cX6_byLeave 17 = .ok (.invokestatic 61, 3) := by decide +kernel
theorem dX6_byLeave_20 : decode cX6_byLeave 20 = .ok (.iaload, 1) := by decide +kernel
theorem dX6_byLeave_21 : decode cX6_byLeave 21 = .ok (.aload_n 0, 1) := by decide +kernel
theorem dX6_byLeave_22 : decode cX6_byLeave 22 = .ok (.iload_n 2, 1) := by decide +kernel
theorem dX6_byLeave_23 : decode cX6_byLeave 23 = .ok (.invokevirtual 72, 3) := by decide +kernel
theorem dX6_byLeave_26 : decode cX6_byLeave 26 = .ok (.invokestatic 79, 3) := by decide +kernel
theorem dX6_byLeave_29 : decode cX6_byLeave 29 = .ok (.ireturn, 1) := by decide +kernel
theorem dX6_restOf_0 : decode cX6_restOf 0 = .ok (.aload_n 0, 1) := by decide +kernel
theorem dX6_restOf_1 : decode cX6_restOf 1 = .ok (.invokevirtual 75, 3) := by decide +kernel
theorem dX6_restOf_4 : decode cX6_restOf 4 = .ok (.ifCond .eq 7, 3) := by decide +kernel
theorem dX6_restOf_7 : decode cX6_restOf 7 = .ok (.iconst 0, 1) := by decide +kernel
theorem dX6_restOf_8 : decode cX6_restOf 8 = .ok (.goto 15, 3) := by decide +kernel
theorem dX6_restOf_11 : decode cX6_restOf 11 = .ok (.aload_n 0, 1) := by decide +kernel
theorem dX6_restOf_12 : decode cX6_restOf 12 = .ok (.iload_n 2, 1) := by decide +kernel
theorem dX6_restOf_13 : decode cX6_restOf 13 = .ok (.invokevirtual 72, 3) := by decide +kernel
theorem dX6_restOf_16 : decode cX6_restOf 16 = .ok (.aload_n 0, 1) := by decide +kernel
theorem dX6_restOf_17 : decode cX6_restOf 17 = .ok (.iload_n 1, 1) := by decide +kernel
theorem dX6_restOf_18 : decode cX6_restOf 18 = .ok (.iload_n 2, 1) := by decide +kernel
theorem dX6_restOf_19 : decode cX6_restOf 19 = .ok (.invokevirtual 84, 3) := by decide +kernel
theorem dX6_restOf_22 : decode cX6_restOf 22 = .ok (.isub, 1) := by decide +kernel
theorem dX6_restOf_23 : decode cX6_restOf 23 = .ok (.ireturn, 1) := by decide +kernel
theorem dX6_daysOf_0 : decode cX6_daysOf 0 = .ok (.aload_n 0, 1) := by decide +kernel
theorem dX6_daysOf_1 : decode cX6_daysOf 1 = .ok (.iload_n 1, 1) := by decide +kernel
theorem dX6_daysOf_2 : decode cX6_daysOf 2 = .ok (.iload_n 2, 1) := by decide +kernel
theorem dX6_daysOf_3 : decode cX6_daysOf 3 = .ok (.invokevirtual 87, 3) := by decide +kernel
theorem dX6_daysOf_6 : decode cX6_daysOf 6 = .ok (.iconst 4, 1) := by decide +kernel
theorem dX6_daysOf_7 : decode cX6_daysOf 7 = .ok (.iadd, 1) := by decide +kernel
theorem dX6_daysOf_8 : decode cX6_daysOf 8 = .ok (.iconst 5, 1) := by decide +kernel
theorem dX6_daysOf_9 : decode cX6_daysOf 9 = .ok (.idiv, 1) := by decide +kernel
theorem dX6_daysOf_10 : decode cX6_daysOf 10 = .ok (.aload_n 0, 1) := by decide +kernel
theorem dX6_daysOf_11 : decode cX6_daysOf 11 = .ok (.getfield 7, 3) := by decide +kernel
theorem dX6_daysOf_14 : decode cX6_daysOf 14 = .ok (.iload_n 1, 1) := by decide +kernel
theorem dX6_daysOf_15 : decode cX6_daysOf 15 = .ok (.iconst 1, 1) := by decide +kernel
theorem dX6_daysOf_16 : decode cX6_daysOf 16 = .ok (.invokestatic 61, 3) := by decide +kernel
theorem dX6_daysOf_19 : decode cX6_daysOf 19 = .ok (.iaload, 1) := by decide +kernel
theorem dX6_daysOf_20 : decode cX6_daysOf 20 = .ok (.iconst 2, 1) := by decide +kernel
theorem dX6_daysOf_21 : decode cX6_daysOf 21 = .ok (.if_icmp .ne 7, 3) := by decide +kernel
theorem dX6_daysOf_24 : decode cX6_daysOf 24 = .ok (.iconst 2, 1) := by decide +kernel
theorem dX6_daysOf_25 : decode cX6_daysOf 25 = .ok (.goto 4, 3) := by decide +kernel
theorem dX6_daysOf_28 : decode cX6_daysOf 28 = .ok (.iconst 1, 1) := by decide +kernel
theorem dX6_daysOf_29 : decode cX6_daysOf 29 = .ok (.imul, 1) := by decide +kernel
theorem dX6_daysOf_30 : decode cX6_daysOf 30 = .ok (.ireturn, 1) := by decide +kernel
theorem dX6_reason_0 : decode cX6_reason 0 = .ok (.iload 4, 2) := by decide +kernel
theorem dX6_reason_2 : decode cX6_reason 2 = .ok (.ifCond .ne 33, 3) := by decide +kernel
theorem dX6_reason_5 : decode cX6_reason 5 = .ok (.aload_n 0, 1) := by decide +kernel
theorem dX6_reason_6 : decode cX6_reason 6 = .ok (.iload_n 1, 1) := by decide +kernel
theorem dX6_reason_7 : decode cX6_reason 7 = .ok (.iconst 2, 1) := by decide +kernel
theorem dX6_reason_8 : decode cX6_reason 8 = .ok (.iload_n 3, 1) := by decide +kernel
theorem dX6_reason_9 : decode cX6_reason 9 = .ok (.invokevirtual 90, 3) := by decide +kernel
theorem dX6_reason_12 : decode cX6_reason 12 = .ok (.ifCond .ne 7, 3) := by decide +kernel
theorem dX6_reason_15 : decode cX6_reason 15 = .ok (.iconst 2, 1) := by decide +kernel
theorem dX6_reason_16 : decode cX6_reason 16 = .ok (.goto 18, 3) := by decide +kernel
theorem dX6_reason_19 : decode cX6_reason 19 = .ok (.aload_n 0, 1) := by decide +kernel
theorem dX6_reason_20 : decode cX6_reason 20 = .ok (.iload_n 2, 1) := by decide +kernel
theorem dX6_reason_21 : decode cX6_reason 21 = .ok (.iconst 2, 1) := by decide +kernel
theorem dX6_reason_22 : decode cX6_reason 22 = .ok (.iload_n 3, 1) := by decide +kernel
theorem dX6_reason_23 : decode cX6_reason 23 = .ok (.invokevirtual 90, 3) := by decide +kernel
theorem dX6_reason_26 : decode cX6_reason 26 = .ok (.ifCond .eq 7, 3) := by decide +kernel
theorem dX6_reason_29 : decode cX6_reason 29 = .ok (.iconst 0, 1) := by decide +kernel
theorem dX6_reason_30 : decode cX6_reason 30 = .ok (.goto 4, 3) := by decide +kernel
theorem dX6_reason_33 : decode cX6_reason 33 = .ok (.iconst 3, 1) := by decide +kernel
theorem dX6_reason_34 : decode cX6_reason 34 = .ok (.ireturn, 1) := by decide +kernel
theorem dX6_reason_35 : decode cX6_reason 35 = .ok (.iload 4, 2) := by decide +kernel
theorem dX6_reason_37 : decode cX6_reason 37 = .ok (.iconst 1, 1) := by decide +kernel
theorem dX6_reason_38 : decode cX6_reason 38 = .ok (.if_icmp .ne 24, 3) := by decide +kernel
theorem dX6_reason_41 : decode cX6_reason 41 = .ok (.aload_n 0, 1) := by decide +kernel
theorem dX6_reason_42 : decode cX6_reason 42 = .ok (.getfield 7, 3) := by decide +kernel
theorem dX6_reason_45 : decode cX6_reason 45 = .ok (.iconst 2, 1) := by decide +kernel
theorem dX6_reason_46 : decode cX6_reason 46 = .ok (.iaload, 1) := by decide +kernel
theorem dX6_reason_47 : decode cX6_reason 47 = .ok (.aload_n 0, 1) := by decide +kernel
theorem dX6_reason_48 : decode cX6_reason 48 = .ok (.iload_n 1, 1) := by decide +kernel
theorem dX6_reason_49 : decode cX6_reason 49 = .ok (.iload_n 3, 1) := by decide +kernel
theorem dX6_reason_50 : decode cX6_reason 50 = .ok (.invokevirtual 93, 3) := by decide +kernel
theorem dX6_reason_53 : decode cX6_reason 53 = .ok (.if_icmp .ge 7, 3) := by decide +kernel
theorem dX6_reason_56 : decode cX6_reason 56 = .ok (.iconst 4, 1) := by decide +kernel
theorem dX6_reason_57 : decode cX6_reason 57 = .ok (.goto 4, 3) := by decide +kernel
theorem dX6_reason_60 : decode cX6_reason 60 = .ok (.iconst 0, 1) := by decide +kernel
theorem dX6_reason_61 : decode cX6_reason 61 = .ok (.ireturn, 1) := by decide +kernel
theorem dX6_reason_62 : decode cX6_reason 62 = .ok (.aload_n 0, 1) := by decide +kernel
theorem dX6_reason_63 : decode cX6_reason 63 = .ok (.getfield 7, 3) := by decide +kernel
theorem dX6_reason_66 : decode cX6_reason 66 = .ok (.iload_n 1, 1) := by decide +kernel
theorem dX6_reason_67 : decode cX6_reason 67 = .ok (.iconst 5, 1) := by decide +kernel
theorem dX6_reason_68 : decode cX6_reason 68 = .ok (.invokestatic 61, 3) := by decide +kernel
theorem dX6_reason_71 : decode cX6_reason 71 = .ok (.iaload, 1) := by decide +kernel
theorem dX6_reason_72 : decode cX6_reason 72 = .ok (.aload_n 0, 1) := by decide +kernel
theorem dX6_reason_73 : decode cX6_reason 73 = .ok (.iload_n 1, 1) := by decide +kernel
theorem dX6_reason_74 : decode cX6_reason 74 = .ok (.iload_n 3, 1) := by decide +kernel
theorem dX6_reason_75 : decode cX6_reason 75 = .ok (.invokevirtual 96, 3) := by decide +kernel
theorem dX6_reason_78 : decode cX6_reason 78 = .ok (.iadd, 1) := by decide +kernel
theorem dX6_reason_79 : decode cX6_reason 79 = .ok (.bipush 99, 2) := by decide +kernel
theorem dX6_reason_81 : decode cX6_reason 81 = .ok (.if_icmp .le 7, 3) := by decide +kernel
theorem dX6_reason_84 : decode cX6_reason 84 = .ok (.iconst 5, 1) := by decide +kernel
theorem dX6_reason_85 : decode cX6_reason 85 = .ok (.goto 4, 3) := by decide +kernel
theorem dX6_reason_88 : decode cX6_reason 88 = .ok (.iconst 0, 1) := by decide +kernel
theorem dX6_reason_89 : decode cX6_reason 89 = .ok (.ireturn, 1) := by decide +kernel
theorem dX6_speaks_0 : decode cX6_speaks 0 = .ok (.aload_n 0, 1) := by decide +kernel
theorem dX6_speaks_1 : decode cX6_speaks 1 = .ok (.iload_n 1, 1) := by decide +kernel
theorem dX6_speaks_2 : decode cX6_speaks 2 = .ok (.iload_n 2, 1) := by decide +kernel
theorem dX6_speaks_3 : decode cX6_speaks 3 = .ok (.invokevirtual 96, 3) := by decide +kernel
theorem dX6_speaks_6 : decode cX6_speaks 6 = .ok (.istore_n 3, 1) := by decide +kernel
theorem dX6_speaks_7 : decode cX6_speaks 7 = .ok (.aload_n 0, 1) := by decide +kernel
theorem dX6_speaks_8 : decode cX6_speaks 8 = .ok (.iload_n 1, 1) := by decide +kernel
theorem dX6_speaks_9 : decode cX6_speaks 9 = .ok (.iload_n 2, 1) := by decide +kernel
theorem dX6_speaks_10 : decode cX6_speaks 10 = .ok (.invokevirtual 84, 3) := by decide +kernel
theorem dX6_speaks_13 : decode cX6_speaks 13 = .ok (.istore 4, 2) := by decide +kernel
theorem dX6_speaks_15 : decode cX6_speaks 15 = .ok (.aload_n 0, 1) := by decide +kernel
theorem dX6_speaks_16 : decode cX6_speaks 16 = .ok (.iload_n 1, 1) := by decide +kernel
theorem dX6_speaks_17 : decode cX6_speaks 17 = .ok (.iload_n 2, 1) := by decide +kernel
theorem dX6_speaks_18 : decode cX6_speaks 18 = .ok (.invokevirtual 87, 3) := by decide +kernel
theorem dX6_speaks_21 : decode cX6_speaks 21 = .ok (.istore 5, 2) := by decide +kernel
theorem dX6_speaks_23 : decode cX6_speaks 23 = .ok (.aload_n 0, 1) := by decide +kernel
theorem dX6_speaks_24 : decode cX6_speaks 24 = .ok (.getfield 7, 3) := by decide +kernel
theorem dX6_speaks_27 : decode cX6_speaks 27 = .ok (.iconst 5, 1) := by decide +kernel
theorem dX6_speaks_28 : decode cX6_speaks 28 = .ok (.dup2, 1) := by decide +kernel
theorem dX6_speaks_29 : decode cX6_speaks 29 = .ok (.iaload, 1) := by decide +kernel
theorem dX6_speaks_30 : decode cX6_speaks 30 = .ok (.aload_n 0, 1) := by decide +kernel
theorem dX6_speaks_31 : decode cX6_speaks 31 = .ok (.iload_n 2, 1) := by decide +kernel
theorem dX6_speaks_32 : decode cX6_speaks 32 = .ok (.invokevirtual 72, 3) := by decide +kernel
theorem dX6_speaks_35 : decode cX6_speaks 35 = .ok (.iadd, 1) := by decide +kernel
theorem dX6_speaks_36 : decode cX6_speaks 36 = .ok (.iastore, 1) := by decide +kernel
theorem dX6_speaks_37 : decode cX6_speaks 37 = .ok (.aload_n 0, 1) := by decide +kernel
theorem dX6_speaks_38 : decode cX6_speaks 38 = .ok (.getfield 7, 3) := by decide +kernel
theorem dX6_speaks_41 : decode cX6_speaks 41 = .ok (.bipush 10, 2) := by decide +kernel
theorem dX6_speaks_43 : decode cX6_speaks 43 = .ok (.dup2, 1) := by decide +kernel
theorem dX6_speaks_44 : decode cX6_speaks 44 = .ok (.iaload, 1) := by decide +kernel
theorem dX6_speaks_45 : decode cX6_speaks 45 = .ok (.aload_n 0, 1) := by decide +kernel
theorem dX6_speaks_46 : decode cX6_speaks 46 = .ok (.iload_n 2, 1) := by decide +kernel
theorem dX6_speaks_47 : decode cX6_speaks 47 = .ok (.invokevirtual 72, 3) := by decide +kernel
theorem dX6_speaks_50 : decode cX6_speaks 50 = .ok (.iload 4, 2) := by decide +kernel
theorem dX6_speaks_52 : decode cX6_speaks 52 = .ok (.isub, 1) := by decide +kernel
theorem dX6_speaks_53 : decode cX6_speaks 53 = .ok (.iload 5, 2) := by decide +kernel
theorem dX6_speaks_55 : decode cX6_speaks 55 = .ok (.isub, 1) := by decide +kernel
theorem dX6_speaks_56 : decode cX6_speaks 56 = .ok (.iadd, 1) := by decide +kernel
theorem dX6_speaks_57 : decode cX6_speaks 57 = .ok (.iastore, 1) := by decide +kernel
theorem dX6_speaks_58 : decode cX6_speaks 58 = .ok (.aload_n 0, 1) := by decide +kernel
theorem dX6_speaks_59 : decode cX6_speaks 59 = .ok (.getfield 7, 3) := by decide +kernel
theorem dX6_speaks_62 : decode cX6_speaks 62 = .ok (.bipush 11, 2) := by decide +kernel
theorem dX6_speaks_64 : decode cX6_speaks 64 = .ok (.dup2, 1) := by decide +kernel
theorem dX6_speaks_65 : decode cX6_speaks 65 = .ok (.iaload, 1) := by decide +kernel
theorem dX6_speaks_66 : decode cX6_speaks 66 = .ok (.iload 4, 2) := by decide +kernel
theorem dX6_speaks_68 : decode cX6_speaks 68 = .ok (.iadd, 1) := by decide +kernel
theorem dX6_speaks_69 : decode cX6_speaks 69 = .ok (.iastore, 1) := by decide +kernel
theorem dX6_speaks_70 : decode cX6_speaks 70 = .ok (.aload_n 0, 1) := by decide +kernel
theorem dX6_speaks_71 : decode cX6_speaks 71 = .ok (.getfield 7, 3) := by decide +kernel
theorem dX6_speaks_74 : decode cX6_speaks 74 = .ok (.bipush 12, 2) := by decide +kernel
theorem dX6_speaks_76 : decode cX6_speaks 76 = .ok (.dup2, 1) := by decide +kernel
theorem dX6_speaks_77 : decode cX6_speaks 77 = .ok (.iaload, 1) := by decide +kernel
theorem dX6_speaks_78 : decode cX6_speaks 78 = .ok (.iload 5, 2) := by decide +kernel
theorem dX6_speaks_80 : decode cX6_speaks 80 = .ok (.iadd, 1) := by decide +kernel
theorem dX6_speaks_81 : decode cX6_speaks 81 = .ok (.iastore, 1) := by decide +kernel
theorem dX6_speaks_82 : decode cX6_speaks 82 = .ok (.aload_n 0, 1) := by decide +kernel
theorem dX6_speaks_83 : decode cX6_speaks 83 = .ok (.getfield 7, 3) := by decide +kernel
theorem dX6_speaks_86 : decode cX6_speaks 86 = .ok (.bipush 13, 2) := by decide +kernel
theorem dX6_speaks_88 : decode cX6_speaks 88 = .ok (.dup2, 1) := by decide +kernel
theorem dX6_speaks_89 : decode cX6_speaks 89 = .ok (.iaload, 1) := by decide +kernel
theorem dX6_speaks_90 : decode cX6_speaks 90 = .ok (.iload 5, 2) := by decide +kernel
theorem dX6_speaks_92 : decode cX6_speaks 92 = .ok (.ifCond .le 7, 3) := by decide +kernel
theorem dX6_speaks_95 : decode cX6_speaks 95 = .ok (.iconst 1, 1) := by decide +kernel
theorem dX6_speaks_96 : decode cX6_speaks 96 = .ok (.goto 4, 3) := by decide +kernel
theorem dX6_speaks_99 : decode cX6_speaks 99 = .ok (.iconst 0, 1) := by decide +kernel
theorem dX6_speaks_100 : decode cX6_speaks 100 = .ok (.iadd, 1) := by decide +kernel
theorem dX6_speaks_101 : decode cX6_speaks 101 = .ok (.iastore, 1) := by decide +kernel
theorem dX6_speaks_102 : decode cX6_speaks 102 = .ok (.aload_n 0, 1) := by decide +kernel
theorem dX6_speaks_103 : decode cX6_speaks 103 = .ok (.getfield 7, 3) := by decide +kernel
theorem dX6_speaks_106 : decode cX6_speaks 106 = .ok (.bipush 14, 2) := by decide +kernel
theorem dX6_speaks_108 : decode cX6_speaks 108 = .ok (.dup2, 1) := by decide +kernel
theorem dX6_speaks_109 : decode cX6_speaks 109 = .ok (.iaload, 1) := by decide +kernel
theorem dX6_speaks_110 : decode cX6_speaks 110 = .ok (.iload_n 3, 1) := by decide +kernel
theorem dX6_speaks_111 : decode cX6_speaks 111 = .ok (.iadd, 1) := by decide +kernel
theorem dX6_speaks_112 : decode cX6_speaks 112 = .ok (.iastore, 1) := by decide +kernel
theorem dX6_speaks_113 : decode cX6_speaks 113 = .ok (.aload_n 0, 1) := by decide +kernel
theorem dX6_speaks_114 : decode cX6_speaks 114 = .ok (.getfield 7, 3) := by decide +kernel
theorem dX6_speaks_117 : decode cX6_speaks 117 = .ok (.iload_n 1, 1) := by decide +kernel
theorem dX6_speaks_118 : decode cX6_speaks 118 = .ok (.iconst 4, 1) := by decide +kernel
theorem dX6_speaks_119 : decode cX6_speaks 119 = .ok (.invokestatic 61, 3) := by decide +kernel
theorem dX6_speaks_122 : decode cX6_speaks 122 = .ok (.dup2, 1) := by decide +kernel
theorem dX6_speaks_123 : decode cX6_speaks 123 = .ok (.iaload, 1) := by decide +kernel
theorem dX6_speaks_124 : decode cX6_speaks 124 = .ok (.iload 4, 2) := by decide +kernel
theorem dX6_speaks_126 : decode cX6_speaks 126 = .ok (.isub, 1) := by decide +kernel
theorem dX6_speaks_127 : decode cX6_speaks 127 = .ok (.iastore, 1) := by decide +kernel
theorem dX6_speaks_128 : decode cX6_speaks 128 = .ok (.aload_n 0, 1) := by decide +kernel
theorem dX6_speaks_129 : decode cX6_speaks 129 = .ok (.getfield 7, 3) := by decide +kernel
theorem dX6_speaks_132 : decode cX6_speaks 132 = .ok (.iload_n 1, 1) := by decide +kernel
theorem dX6_speaks_133 : decode cX6_speaks 133 = .ok (.iconst 5, 1) := by decide +kernel
theorem dX6_speaks_134 : decode cX6_speaks 134 = .ok (.invokestatic 61, 3) := by decide +kernel
theorem dX6_speaks_137 : decode cX6_speaks 137 = .ok (.dup2, 1) := by decide +kernel
theorem dX6_speaks_138 : decode cX6_speaks 138 = .ok (.iaload, 1) := by decide +kernel
theorem dX6_speaks_139 : decode cX6_speaks 139 = .ok (.iload_n 3, 1) := by decide +kernel
theorem dX6_speaks_140 : decode cX6_speaks 140 = .ok (.iadd, 1) := by decide +kernel
theorem dX6_speaks_141 : decode cX6_speaks 141 = .ok (.iastore, 1) := by decide +kernel
theorem dX6_speaks_142 : decode cX6_speaks 142 = .ok (.iload 5, 2) := by decide +kernel
theorem dX6_speaks_144 : decode cX6_speaks 144 = .ok (.ifCond .le 15, 3) := by decide +kernel
theorem dX6_speaks_147 : decode cX6_speaks 147 = .ok (.aload_n 0, 1) := by decide +kernel
theorem dX6_speaks_148 : decode cX6_speaks 148 = .ok (.getfield 7, 3) := by decide +kernel
theorem dX6_speaks_151 : decode cX6_speaks 151 = .ok (.iload_n 1, 1) := by decide +kernel
theorem dX6_speaks_152 : decode cX6_speaks 152 = .ok (.bipush 7, 2) := by decide +kernel
theorem dX6_speaks_154 : decode cX6_speaks 154 = .ok (.invokestatic 61, 3) := by decide +kernel
theorem dX6_speaks_157 : decode cX6_speaks 157 = .ok (.iconst 1, 1) := by decide +kernel
theorem dX6_speaks_158 : decode cX6_speaks 158 = .ok (.iastore, 1) := by decide +kernel
theorem dX6_speaks_159 : decode cX6_speaks 159 = .ok (.iload_n 3, 1) := by decide +kernel
theorem dX6_speaks_160 : decode cX6_speaks 160 = .ok (.ireturn, 1) := by decide +kernel
theorem dX6_writesSlip_0 : decode cX6_writesSlip 0 = .ok (.aload_n 0, 1) := by decide +kernel
theorem dX6_writesSlip_1 : decode cX6_writesSlip 1 = .ok (.iload_n 1, 1) := by decide +kernel
theorem dX6_writesSlip_2 : decode cX6_writesSlip 2 = .ok (.iload_n 2, 1) := by decide +kernel
theorem dX6_writesSlip_3 : decode cX6_writesSlip 3 = .ok (.invokevirtual 93, 3) := by decide +kernel
theorem dX6_writesSlip_6 : decode cX6_writesSlip 6 = .ok (.istore_n 3, 1) := by decide +kernel
theorem dX6_writesSlip_7 : decode cX6_writesSlip 7 = .ok (.aload_n 0, 1) := by decide +kernel
theorem dX6_writesSlip_8 : decode cX6_writesSlip 8 = .ok (.getfield 7, 3) := by decide +kernel
theorem dX6_writesSlip_11 : decode cX6_writesSlip 11 = .ok (.iconst 2, 1) := by decide +kernel
theorem dX6_writesSlip_12 : decode cX6_writesSlip 12 = .ok (.dup2, 1) := by decide +kernel
theorem dX6_writesSlip_13 : decode cX6_writesSlip 13 = .ok (.iaload, 1) := by decide +kernel
theorem dX6_writesSlip_14 : decode cX6_writesSlip 14 = .ok (.iload_n 3, 1) := by decide +kernel
theorem dX6_writesSlip_15 : decode cX6_writesSlip 15 = .ok (.isub, 1) := by decide +kernel
theorem dX6_writesSlip_16 : decode cX6_writesSlip 16 = .ok (.iastore, 1) := by decide +kernel
theorem dX6_writesSlip_17 : decode cX6_writesSlip 17 = .ok (.aload_n 0, 1) := by decide +kernel
theorem dX6_writesSlip_18 : decode cX6_writesSlip 18 = .ok (.getfield 7, 3) := by decide +kernel
theorem dX6_writesSlip_21 : decode cX6_writesSlip 21 = .ok (.bipush 9, 2) := by decide +kernel
theorem dX6_writesSlip_23 : decode cX6_writesSlip 23 = .ok (.dup2, 1) := by decide +kernel
theorem dX6_writesSlip_24 : decode cX6_writesSlip 24 = .ok (.iaload, 1) := by decide +kernel
theorem dX6_writesSlip_25 : decode cX6_writesSlip 25 = .ok (.iload_n 3, 1) := by decide +kernel
theorem dX6_writesSlip_26 : decode cX6_writesSlip 26 = .ok (.iadd, 1) := by decide +kernel
theorem dX6_writesSlip_27 : decode cX6_writesSlip 27 = .ok (.iastore, 1) := by decide +kernel
theorem dX6_writesSlip_28 : decode cX6_writesSlip 28 = .ok (.iload_n 3, 1) := by decide +kernel
theorem dX6_writesSlip_29 : decode cX6_writesSlip 29 = .ok (.ireturn, 1) := by decide +kernel
theorem dX6_tells_0 : decode cX6_tells 0 = .ok (.iload 4, 2) := by decide +kernel
theorem dX6_tells_2 : decode cX6_tells 2 = .ok (.ifCond .ne 30, 3) := by decide +kernel
theorem dX6_tells_5 : decode cX6_tells 5 = .ok (.aload_n 0, 1) := by decide +kernel
theorem dX6_tells_6 : decode cX6_tells 6 = .ok (.getfield 7, 3) := by decide +kernel
theorem dX6_tells_9 : decode cX6_tells 9 = .ok (.iload_n 1, 1) := by decide +kernel
theorem dX6_tells_10 : decode cX6_tells 10 = .ok (.iconst 2, 1) := by decide +kernel
theorem dX6_tells_11 : decode cX6_tells 11 = .ok (.invokestatic 61, 3) := by decide +kernel
theorem dX6_tells_14 : decode cX6_tells 14 = .ok (.iaload, 1) := by decide +kernel
theorem dX6_tells_15 : decode cX6_tells 15 = .ok (.aload_n 0, 1) := by decide +kernel
theorem dX6_tells_16 : decode cX6_tells 16 = .ok (.getfield 7, 3) := by decide +kernel
theorem dX6_tells_19 : decode cX6_tells 19 = .ok (.iload_n 2, 1) := by decide +kernel
theorem dX6_tells_20 : decode cX6_tells 20 = .ok (.iconst 2, 1) := by decide +kernel
theorem dX6_tells_21 : decode cX6_tells 21 = .ok (.invokestatic 61, 3) := by decide +kernel
theorem dX6_tells_24 : decode cX6_tells 24 = .ok (.iaload, 1) := by decide +kernel
theorem dX6_tells_25 : decode cX6_tells 25 = .ok (.iand, 1) := by decide +kernel
theorem dX6_tells_26 : decode cX6_tells 26 = .ok (.invokestatic 99, 3) := by decide +kernel
theorem dX6_tells_29 : decode cX6_tells 29 = .ok (.goto 24, 3) := by decide +kernel
theorem dX6_tells_32 : decode cX6_tells 32 = .ok (.iload 4, 2) := by decide +kernel
theorem dX6_tells_34 : decode cX6_tells 34 = .ok (.iconst 1, 1) := by decide +kernel
theorem dX6_tells_35 : decode cX6_tells 35 = .ok (.if_icmp .ne 12, 3) := by decide +kernel
theorem dX6_tells_38 : decode cX6_tells 38 = .ok (.aload_n 0, 1) := by decide +kernel
theorem dX6_tells_39 : decode cX6_tells 39 = .ok (.iload_n 1, 1) := by decide +kernel
theorem dX6_tells_40 : decode cX6_tells 40 = .ok (.iload_n 3, 1) := by decide +kernel
theorem dX6_tells_41 : decode cX6_tells 41 = .ok (.invokevirtual 102, 3) := by decide +kernel
theorem dX6_tells_44 : decode cX6_tells 44 = .ok (.goto 9, 3) := by decide +kernel
theorem dX6_tells_47 : decode cX6_tells 47 = .ok (.aload_n 0, 1) := by decide +kernel
theorem dX6_tells_48 : decode cX6_tells 48 = .ok (.iload_n 1, 1) := by decide +kernel
theorem dX6_tells_49 : decode cX6_tells 49 = .ok (.iload_n 3, 1) := by decide +kernel
theorem dX6_tells_50 : decode cX6_tells 50 = .ok (.invokevirtual 105, 3) := by decide +kernel
theorem dX6_tells_53 : decode cX6_tells 53 = .ok (.istore 5, 2) := by decide +kernel
theorem dX6_tells_55 : decode cX6_tells 55 = .ok (.aload_n 0, 1) := by decide +kernel
theorem dX6_tells_56 : decode cX6_tells 56 = .ok (.getfield 7, 3) := by decide +kernel
theorem dX6_tells_59 : decode cX6_tells 59 = .ok (.bipush 6, 2) := by decide +kernel
theorem dX6_tells_61 : decode cX6_tells 61 = .ok (.iload 4, 2) := by decide +kernel
theorem dX6_tells_63 : decode cX6_tells 63 = .ok (.iadd, 1) := by decide +kernel
theorem dX6_tells_64 : decode cX6_tells 64 = .ok (.dup2, 1) := by decide +kernel
theorem dX6_tells_65 : decode cX6_tells 65 = .ok (.iaload, 1) := by decide +kernel
theorem dX6_tells_66 : decode cX6_tells 66 = .ok (.iconst 1, 1) := by decide +kernel
theorem dX6_tells_67 : decode cX6_tells 67 = .ok (.iadd, 1) := by decide +kernel
theorem dX6_tells_68 : decode cX6_tells 68 = .ok (.iastore, 1) := by decide +kernel
theorem dX6_tells_69 : decode cX6_tells 69 = .ok (.iload 4, 2) := by decide +kernel
theorem dX6_tells_71 : decode cX6_tells 71 = .ok (.ifCond .eq 50, 3) := by decide +kernel
theorem dX6_tells_74 : decode cX6_tells 74 = .ok (.aload_n 0, 1) := by decide +kernel
theorem dX6_tells_75 : decode cX6_tells 75 = .ok (.iload_n 1, 1) := by decide +kernel
theorem dX6_tells_76 : decode cX6_tells 76 = .ok (.iconst 2, 1) := by decide +kernel
theorem dX6_tells_77 : decode cX6_tells 77 = .ok (.iload_n 3, 1) := by decide +kernel
theorem dX6_tells_78 : decode cX6_tells 78 = .ok (.invokevirtual 90, 3) := by decide +kernel
theorem dX6_tells_81 : decode cX6_tells 81 = .ok (.ifCond .eq 40, 3) := by decide +kernel
theorem dX6_tells_84 : decode cX6_tells 84 = .ok (.aload_n 0, 1) := by decide +kernel
theorem dX6_tells_85 : decode cX6_tells 85 = .ok (.iload_n 2, 1) := by decide +kernel
theorem dX6_tells_86 : decode cX6_tells 86 = .ok (.iconst 2, 1) := by decide +kernel
theorem dX6_tells_87 : decode cX6_tells 87 = .ok (.iload_n 3, 1) := by decide +kernel
theorem dX6_tells_88 : decode cX6_tells 88 = .ok (.invokevirtual 90, 3) := by decide +kernel
theorem dX6_tells_91 : decode cX6_tells 91 = .ok (.ifCond .ne 30, 3) := by decide +kernel
theorem dX6_tells_94 : decode cX6_tells 94 = .ok (.aload_n 0, 1) := by decide +kernel
theorem dX6_tells_95 : decode cX6_tells 95 = .ok (.getfield 7, 3) := by decide +kernel
theorem dX6_tells_98 : decode cX6_tells 98 = .ok (.iload_n 2, 1) := by decide +kernel
theorem dX6_tells_99 : decode cX6_tells 99 = .ok (.iconst 2, 1) := by decide +kernel
theorem dX6_tells_100 : decode cX6_tells 100 = .ok (.invokestatic 61, 3) := by decide +kernel
theorem dX6_tells_103 : decode cX6_tells 103 = .ok (.dup2, 1) := by decide +kernel
theorem dX6_tells_104 : decode cX6_tells 104 = .ok (.iaload, 1) := by decide +kernel
theorem dX6_tells_105 : decode cX6_tells 105 = .ok (.iconst 1, 1) := by decide +kernel
theorem dX6_tells_106 : decode cX6_tells 106 = .ok (.iload_n 3, 1) := by decide +kernel
theorem dX6_tells_107 : decode cX6_tells 107 = .ok (.ishl, 1) := by decide +kernel
theorem dX6_tells_108 : decode cX6_tells 108 = .ok (.ior, 1) := by decide +kernel
theorem dX6_tells_109 : decode cX6_tells 109 = .ok (.iastore, 1) := by decide +kernel
theorem dX6_tells_110 : decode cX6_tells 110 = .ok (.aload_n 0, 1) := by decide +kernel
theorem dX6_tells_111 : decode cX6_tells 111 = .ok (.getfield 7, 3) := by decide +kernel
theorem dX6_tells_114 : decode cX6_tells 114 = .ok (.bipush 19, 2) := by decide +kernel
theorem dX6_tells_116 : decode cX6_tells 116 = .ok (.dup2, 1) := by decide +kernel
theorem dX6_tells_117 : decode cX6_tells 117 = .ok (.iaload, 1) := by decide +kernel
theorem dX6_tells_118 : decode cX6_tells 118 = .ok (.iconst 1, 1) := by decide +kernel
theorem dX6_tells_119 : decode cX6_tells 119 = .ok (.iadd, 1) := by decide +kernel
theorem dX6_tells_120 : decode cX6_tells 120 = .ok (.iastore, 1) := by decide +kernel
theorem dX6_tells_121 : decode cX6_tells 121 = .ok (.aload_n 0, 1) := by decide +kernel
theorem dX6_tells_122 : decode cX6_tells 122 = .ok (.iload_n 1, 1) := by decide +kernel
theorem dX6_tells_123 : decode cX6_tells 123 = .ok (.iconst 3, 1) := by decide +kernel
theorem dX6_tells_124 : decode cX6_tells 124 = .ok (.iload_n 3, 1) := by decide +kernel
theorem dX6_tells_125 : decode cX6_tells 125 = .ok (.invokevirtual 90, 3) := by decide +kernel
theorem dX6_tells_128 : decode cX6_tells 128 = .ok (.ifCond .eq 53, 3) := by decide +kernel
theorem dX6_tells_131 : decode cX6_tells 131 = .ok (.aload_n 0, 1) := by decide +kernel
theorem dX6_tells_132 : decode cX6_tells 132 = .ok (.getfield 7, 3) := by decide +kernel
theorem dX6_tells_135 : decode cX6_tells 135 = .ok (.iload_n 2, 1) := by decide +kernel
theorem dX6_tells_136 : decode cX6_tells 136 = .ok (.iconst 1, 1) := by decide +kernel
theorem dX6_tells_137 : decode cX6_tells 137 = .ok (.invokestatic 61, 3) := by decide +kernel
theorem dX6_tells_140 : decode cX6_tells 140 = .ok (.iaload, 1) := by decide +kernel
theorem dX6_tells_141 : decode cX6_tells 141 = .ok (.aload_n 0, 1) := by decide +kernel
theorem dX6_tells_142 : decode cX6_tells 142 = .ok (.getfield 7, 3) := by decide +kernel
theorem dX6_tells_145 : decode cX6_tells 145 = .ok (.iload_n 1, 1) := by decide +kernel
theorem dX6_tells_146 : decode cX6_tells 146 = .ok (.iconst 1, 1) := by decide +kernel
theorem dX6_tells_147 : decode cX6_tells 147 = .ok (.invokestatic 61, 3) := by decide +kernel
theorem dX6_tells_150 : decode cX6_tells 150 = .ok (.iaload, 1) := by decide +kernel
theorem dX6_tells_151 : decode cX6_tells 151 = .ok (.if_icmp .lt 30, 3) := by decide +kernel
theorem dX6_tells_154 : decode cX6_tells 154 = .ok (.aload_n 0, 1) := by decide +kernel
theorem dX6_tells_155 : decode cX6_tells 155 = .ok (.getfield 7, 3) := by decide +kernel
theorem dX6_tells_158 : decode cX6_tells 158 = .ok (.iload_n 1, 1) := by decide +kernel
theorem dX6_tells_159 : decode cX6_tells 159 = .ok (.iconst 3, 1) := by decide +kernel
theorem dX6_tells_160 : decode cX6_tells 160 = .ok (.invokestatic 61, 3) := by decide +kernel
theorem dX6_tells_163 : decode cX6_tells 163 = .ok (.dup2, 1) := by decide +kernel
theorem dX6_tells_164 : decode cX6_tells 164 = .ok (.iaload, 1) := by decide +kernel
theorem dX6_tells_165 : decode cX6_tells 165 = .ok (.iconst 1, 1) := by decide +kernel
theorem dX6_tells_166 : decode cX6_tells 166 = .ok (.iload_n 3, 1) := by decide +kernel
theorem dX6_tells_167 : decode cX6_tells 167 = .ok (.ishl, 1) := by decide +kernel
theorem dX6_tells_168 : decode cX6_tells 168 = .ok (.isub, 1) := by decide +kernel
theorem dX6_tells_169 : decode cX6_tells 169 = .ok (.iastore, 1) := by decide +kernel
theorem dX6_tells_170 : decode cX6_tells 170 = .ok (.aload_n 0, 1) := by decide +kernel
theorem dX6_tells_171 : decode cX6_tells 171 = .ok (.getfield 7, 3) := by decide +kernel
theorem dX6_tells_174 : decode cX6_tells 174 = .ok (.bipush 18, 2) := by decide +kernel
theorem dX6_tells_176 : decode cX6_tells 176 = .ok (.dup2, 1) := by decide +kernel
theorem dX6_tells_177 : decode cX6_tells 177 = .ok (.iaload, 1) := by decide +kernel
theorem dX6_tells_178 : decode cX6_tells 178 = .ok (.iconst 1, 1) := by decide +kernel
theorem dX6_tells_179 : decode cX6_tells 179 = .ok (.iadd, 1) := by decide +kernel
theorem dX6_tells_180 : decode cX6_tells 180 = .ok (.iastore, 1) := by decide +kernel
theorem dX6_tells_181 : decode cX6_tells 181 = .ok (.iload 5, 2) := by decide +kernel
theorem dX6_tells_183 : decode cX6_tells 183 = .ok (.ireturn, 1) := by decide +kernel
theorem dX6_refusalOfGift_0 : decode cX6_refusalOfGift 0 = .ok (.aload_n 0, 1) := by decide +kernel
theorem dX6_refusalOfGift_1 : decode cX6_refusalOfGift 1 = .ok (.getfield 7, 3) := by decide +kernel
theorem dX6_refusalOfGift_4 : decode cX6_refusalOfGift 4 = .ok (.iload_n 1, 1) := by decide +kernel
theorem dX6_refusalOfGift_5 : decode cX6_refusalOfGift 5 = .ok (.iconst 1, 1) := by decide +kernel
theorem dX6_refusalOfGift_6 : decode cX6_refusalOfGift 6 = .ok (.invokestatic 61, 3) := by decide +kernel
theorem dX6_refusalOfGift_9 : decode cX6_refusalOfGift 9 = .ok (.iaload, 1) := by decide +kernel
theorem dX6_refusalOfGift_10 : decode cX6_refusalOfGift 10 = .ok (.iconst 2, 1) := by decide +kernel
theorem dX6_refusalOfGift_11 : decode cX6_refusalOfGift 11 = .ok (.if_icmp .eq 6, 3) := by decide +kernel
theorem dX6_refusalOfGift_14 : decode cX6_refusalOfGift 14 = .ok (.bipush (-16), 2) := by decide +kernel
theorem dX6_refusalOfGift_16 : decode cX6_refusalOfGift 16 = .ok (.ireturn, 1) := by decide +kernel
theorem dX6_refusalOfGift_17 : decode cX6_refusalOfGift 17 = .ok (.aload_n 0, 1) := by decide +kernel
theorem dX6_refusalOfGift_18 : decode cX6_refusalOfGift 18 = .ok (.getfield 7, 3) := by decide +kernel
theorem dX6_refusalOfGift_21 : decode cX6_refusalOfGift 21 = .ok (.iload_n 1, 1) := by decide +kernel
theorem dX6_refusalOfGift_22 : decode cX6_refusalOfGift 22 = .ok (.iconst 5, 1) := by decide +kernel
theorem dX6_refusalOfGift_23 : decode cX6_refusalOfGift 23 = .ok (.invokestatic 61, 3) := by decide +kernel
theorem dX6_refusalOfGift_26 : decode cX6_refusalOfGift 26 = .ok (.iaload, 1) := by decide +kernel
theorem dX6_refusalOfGift_27 : decode cX6_refusalOfGift 27 = .ok (.ifCond .le 6, 3) := by decide +kernel
theorem dX6_refusalOfGift_30 : decode cX6_refusalOfGift 30 = .ok (.bipush (-17), 2) := by decide +kernel
theorem dX6_refusalOfGift_32 : decode cX6_refusalOfGift 32 = .ok (.ireturn, 1) := by decide +kernel
theorem dX6_refusalOfGift_33 : decode cX6_refusalOfGift 33 = .ok (.aload_n 0, 1) := by decide +kernel
theorem dX6_refusalOfGift_34 : decode cX6_refusalOfGift 34 = .ok (.getfield 7, 3) := by decide +kernel
theorem dX6_refusalOfGift_37 : decode cX6_refusalOfGift 37 = .ok (.iload_n 2, 1) := by decide +kernel
theorem dX6_refusalOfGift_38 : decode cX6_refusalOfGift 38 = .ok (.iconst 5, 1) := by decide +kernel
theorem dX6_refusalOfGift_39 : decode cX6_refusalOfGift 39 = .ok (.invokestatic 61, 3) := by decide +kernel
theorem dX6_refusalOfGift_42 : decode cX6_refusalOfGift 42 = .ok (.iaload, 1) := by decide +kernel
theorem dX6_refusalOfGift_43 : decode cX6_refusalOfGift 43 = .ok (.ifCond .le 6, 3) := by decide +kernel
theorem dX6_refusalOfGift_46 : decode cX6_refusalOfGift 46 = .ok (.bipush (-18), 2) := by decide +kernel
theorem dX6_refusalOfGift_48 : decode cX6_refusalOfGift 48 = .ok (.ireturn, 1) := by decide +kernel
theorem dX6_refusalOfGift_49 : decode cX6_refusalOfGift 49 = .ok (.aload_n 0, 1) := by decide +kernel
theorem dX6_refusalOfGift_50 : decode cX6_refusalOfGift 50 = .ok (.getfield 7, 3) := by decide +kernel
theorem dX6_refusalOfGift_53 : decode cX6_refusalOfGift 53 = .ok (.iload_n 1, 1) := by decide +kernel
theorem dX6_refusalOfGift_54 : decode cX6_refusalOfGift 54 = .ok (.bipush 6, 2) := by decide +kernel
theorem dX6_refusalOfGift_56 : decode cX6_refusalOfGift 56 = .ok (.invokestatic 61, 3) := by decide +kernel
theorem dX6_refusalOfGift_59 : decode cX6_refusalOfGift 59 = .ok (.iaload, 1) := by decide +kernel
theorem dX6_refusalOfGift_60 : decode cX6_refusalOfGift 60 = .ok (.iload_n 3, 1) := by decide +kernel
theorem dX6_refusalOfGift_61 : decode cX6_refusalOfGift 61 = .ok (.iadd, 1) := by decide +kernel
theorem dX6_refusalOfGift_62 : decode cX6_refusalOfGift 62 = .ok (.aload_n 0, 1) := by decide +kernel
theorem dX6_refusalOfGift_63 : decode cX6_refusalOfGift 63 = .ok (.getfield 7, 3) := by decide +kernel
theorem dX6_refusalOfGift_66 : decode cX6_refusalOfGift 66 = .ok (.iconst 3, 1) := by decide +kernel
theorem dX6_refusalOfGift_67 : decode cX6_refusalOfGift 67 = .ok (.iaload, 1) := by decide +kernel
theorem dX6_refusalOfGift_68 : decode cX6_refusalOfGift 68 = .ok (.if_icmp .le 6, 3) := by decide +kernel
theorem dX6_refusalOfGift_71 : decode cX6_refusalOfGift 71 = .ok (.bipush (-19), 2) := by decide +kernel
theorem dX6_refusalOfGift_73 : decode cX6_refusalOfGift 73 = .ok (.ireturn, 1) := by decide +kernel
theorem dX6_refusalOfGift_74 : decode cX6_refusalOfGift 74 = .ok (.aload_n 0, 1) := by decide +kernel
theorem dX6_refusalOfGift_75 : decode cX6_refusalOfGift 75 = .ok (.getfield 7, 3) := by decide +kernel
theorem dX6_refusalOfGift_78 : decode cX6_refusalOfGift 78 = .ok (.iload_n 2, 1) := by decide +kernel
theorem dX6_refusalOfGift_79 : decode cX6_refusalOfGift 79 = .ok (.iconst 4, 1) := by decide +kernel
theorem dX6_refusalOfGift_80 : decode cX6_refusalOfGift 80 = .ok (.invokestatic 61, 3) := by decide +kernel
theorem dX6_refusalOfGift_83 : decode cX6_refusalOfGift 83 = .ok (.iaload, 1) := by decide +kernel
theorem dX6_refusalOfGift_84 : decode cX6_refusalOfGift 84 = .ok (.iload_n 3, 1) := by decide +kernel
theorem dX6_refusalOfGift_85 : decode cX6_refusalOfGift 85 = .ok (.iadd, 1) := by decide +kernel
theorem dX6_refusalOfGift_86 : decode cX6_refusalOfGift 86 = .ok (.bipush 99, 2) := by decide +kernel
theorem dX6_refusalOfGift_88 : decode cX6_refusalOfGift 88 = .ok (.if_icmp .le 8, 3) := by decide +kernel
theorem dX6_refusalOfGift_91 : decode cX6_refusalOfGift 91 = .ok (.bipush (-20), 2) := by decide +kernel
theorem dX6_refusalOfGift_93 : decode cX6_refusalOfGift 93 = .ok (.goto 4, 3) := by decide +kernel
theorem dX6_refusalOfGift_96 : decode cX6_refusalOfGift 96 = .ok (.iconst 0, 1) := by decide +kernel
theorem dX6_refusalOfGift_97 : decode cX6_refusalOfGift 97 = .ok (.ireturn, 1) := by decide +kernel
theorem dX6_gives_0 : decode cX6_gives 0 = .ok (.aload_n 0, 1) := by decide +kernel
theorem dX6_gives_1 : decode cX6_gives 1 = .ok (.getfield 7, 3) := by decide +kernel
theorem dX6_gives_4 : decode cX6_gives 4 = .ok (.iload_n 2, 1) := by decide +kernel
theorem dX6_gives_5 : decode cX6_gives 5 = .ok (.iconst 4, 1) := by decide +kernel
theorem dX6_gives_6 : decode cX6_gives 6 = .ok (.invokestatic 61, 3) := by decide +kernel
theorem dX6_gives_9 : decode cX6_gives 9 = .ok (.dup2, 1) := by decide +kernel
theorem dX6_gives_10 : decode cX6_gives 10 = .ok (.iaload, 1) := by decide +kernel
theorem dX6_gives_11 : decode cX6_gives 11 = .ok (.iload_n 3, 1) := by decide +kernel
theorem dX6_gives_12 : decode cX6_gives 12 = .ok (.iadd, 1) := by decide +kernel
theorem dX6_gives_13 : decode cX6_gives 13 = .ok (.iastore, 1) := by decide +kernel
theorem dX6_gives_14 : decode cX6_gives 14 = .ok (.aload_n 0, 1) := by decide +kernel
theorem dX6_gives_15 : decode cX6_gives 15 = .ok (.getfield 7, 3) := by decide +kernel
theorem dX6_gives_18 : decode cX6_gives 18 = .ok (.iload_n 1, 1) := by decide +kernel
theorem dX6_gives_19 : decode cX6_gives 19 = .ok (.bipush 6, 2) := by decide +kernel
theorem dX6_gives_21 : decode cX6_gives 21 = .ok (.invokestatic 61, 3) := by decide +kernel
theorem dX6_gives_24 : decode cX6_gives 24 = .ok (.dup2, 1) := by decide +kernel
theorem dX6_gives_25 : decode cX6_gives 25 = .ok (.iaload, 1) := by decide +kernel
theorem dX6_gives_26 : decode cX6_gives 26 = .ok (.iload_n 3, 1) := by decide +kernel
theorem dX6_gives_27 : decode cX6_gives 27 = .ok (.iadd, 1) := by decide +kernel
theorem dX6_gives_28 : decode cX6_gives 28 = .ok (.iastore, 1) := by decide +kernel
theorem dX6_gives_29 : decode cX6_gives 29 = .ok (.aload_n 0, 1) := by decide +kernel
theorem dX6_gives_30 : decode cX6_gives 30 = .ok (.getfield 7, 3) := by decide +kernel
theorem dX6_gives_33 : decode cX6_gives 33 = .ok (.bipush 16, 2) := by decide +kernel
theorem dX6_gives_35 : decode cX6_gives 35 = .ok (.dup2, 1) := by decide +kernel
theorem dX6_gives_36 : decode cX6_gives 36 = .ok (.iaload, 1) := by decide +kernel
theorem dX6_gives_37 : decode cX6_gives 37 = .ok (.iload_n 3, 1) := by decide +kernel
theorem dX6_gives_38 : decode cX6_gives 38 = .ok (.iadd, 1) := by decide +kernel
theorem dX6_gives_39 : decode cX6_gives 39 = .ok (.iastore, 1) := by decide +kernel
theorem dX6_gives_40 : decode cX6_gives 40 = .ok (.aload_n 0, 1) := by decide +kernel
theorem dX6_gives_41 : decode cX6_gives 41 = .ok (.getfield 7, 3) := by decide +kernel
theorem dX6_gives_44 : decode cX6_gives 44 = .ok (.iload_n 2, 1) := by decide +kernel
theorem dX6_gives_45 : decode cX6_gives 45 = .ok (.iconst 4, 1) := by decide +kernel
theorem dX6_gives_46 : decode cX6_gives 46 = .ok (.invokestatic 61, 3) := by decide +kernel
theorem dX6_gives_49 : decode cX6_gives 49 = .ok (.iaload, 1) := by decide +kernel
theorem dX6_gives_50 : decode cX6_gives 50 = .ok (.ireturn, 1) := by decide +kernel
theorem dX6_endsDay_0 : decode cX6_endsDay 0 = .ok (.iconst 0, 1) := by decide +kernel
theorem dX6_endsDay_1 : decode cX6_endsDay 1 = .ok (.istore_n 1, 1) := by decide +kernel
theorem dX6_endsDay_2 : decode cX6_endsDay 2 = .ok (.iload_n 1, 1) := by decide +kernel
theorem dX6_endsDay_3 : decode cX6_endsDay 3 = .ok (.aload_n 0, 1) := by decide +kernel
theorem dX6_endsDay_4 : decode cX6_endsDay 4 = .ok (.getfield 7, 3) := by decide +kernel
theorem dX6_endsDay_7 : decode cX6_endsDay 7 = .ok (.iconst 0, 1) := by decide +kernel
theorem dX6_endsDay_8 : decode cX6_endsDay 8 = .ok (.iaload, 1) := by decide +kernel
theorem dX6_endsDay_9 : decode cX6_endsDay 9 = .ok (.if_icmp .ge 116, 3) := by decide +kernel
theorem dX6_endsDay_12 : decode cX6_endsDay 12 = .ok (.aload_n 0, 1) := by decide +kernel
theorem dX6_endsDay_13 : decode cX6_endsDay 13 = .ok (.getfield 7, 3) := by decide +kernel
theorem dX6_endsDay_16 : decode cX6_endsDay 16 = .ok (.bipush 17, 2) := by decide +kernel
theorem dX6_endsDay_18 : decode cX6_endsDay 18 = .ok (.dup2, 1) := by decide +kernel
theorem dX6_endsDay_19 : decode cX6_endsDay 19 = .ok (.iaload, 1) := by decide +kernel
theorem dX6_endsDay_20 : decode cX6_endsDay 20 = .ok (.aload_n 0, 1) := by decide +kernel
theorem dX6_endsDay_21 : decode cX6_endsDay 21 = .ok (.getfield 7, 3) := by decide +kernel
theorem dX6_endsDay_24 : decode cX6_endsDay 24 = .ok (.iload_n 1, 1) := by decide +kernel
theorem dX6_endsDay_25 : decode cX6_endsDay 25 = .ok (.iconst 4, 1) := by decide +kernel
theorem dX6_endsDay_26 : decode cX6_endsDay 26 = .ok (.invokestatic 61, 3) := by decide +kernel
theorem dX6_endsDay_29 : decode cX6_endsDay 29 = .ok (.iaload, 1) := by decide +kernel
theorem dX6_endsDay_30 : decode cX6_endsDay 30 = .ok (.iadd, 1) := by decide +kernel
theorem dX6_endsDay_31 : decode cX6_endsDay 31 = .ok (.iastore, 1) := by decide +kernel
theorem dX6_endsDay_32 : decode cX6_endsDay 32 = .ok (.aload_n 0, 1) := by decide +kernel
theorem dX6_endsDay_33 : decode cX6_endsDay 33 = .ok (.getfield 7, 3) := by decide +kernel
theorem dX6_endsDay_36 : decode cX6_endsDay 36 = .ok (.iload_n 1, 1) := by decide +kernel
theorem dX6_endsDay_37 : decode cX6_endsDay 37 = .ok (.iconst 4, 1) := by decide +kernel
theorem dX6_endsDay_38 : decode cX6_endsDay 38 = .ok (.invokestatic 61, 3) := by decide +kernel
theorem dX6_endsDay_41 : decode cX6_endsDay 41 = .ok (.iconst 0, 1) := by decide +kernel
theorem dX6_endsDay_42 : decode cX6_endsDay 42 = .ok (.iastore, 1) := by decide +kernel
theorem dX6_endsDay_43 : decode cX6_endsDay 43 = .ok (.aload_n 0, 1) := by decide +kernel
theorem dX6_endsDay_44 : decode cX6_endsDay 44 = .ok (.getfield 7, 3) := by decide +kernel
theorem dX6_endsDay_47 : decode cX6_endsDay 47 = .ok (.iload_n 1, 1) := by decide +kernel
theorem dX6_endsDay_48 : decode cX6_endsDay 48 = .ok (.bipush 7, 2) := by decide +kernel
theorem dX6_endsDay_50 : decode cX6_endsDay 50 = .ok (.invokestatic 61, 3) := by decide +kernel
theorem dX6_endsDay_53 : decode cX6_endsDay 53 = .ok (.iaload, 1) := by decide +kernel
theorem dX6_endsDay_54 : decode cX6_endsDay 54 = .ok (.ifCond .ne 41, 3) := by decide +kernel
theorem dX6_endsDay_57 : decode cX6_endsDay 57 = .ok (.aload_n 0, 1) := by decide +kernel
theorem dX6_endsDay_58 : decode cX6_endsDay 58 = .ok (.getfield 7, 3) := by decide +kernel
theorem dX6_endsDay_61 : decode cX6_endsDay 61 = .ok (.iload_n 1, 1) := by decide +kernel
theorem dX6_endsDay_62 : decode cX6_endsDay 62 = .ok (.iconst 5, 1) := by decide +kernel
theorem dX6_endsDay_63 : decode cX6_endsDay 63 = .ok (.invokestatic 61, 3) := by decide +kernel
theorem dX6_endsDay_66 : decode cX6_endsDay 66 = .ok (.iaload, 1) := by decide +kernel
theorem dX6_endsDay_67 : decode cX6_endsDay 67 = .ok (.ifCond .le 28, 3) := by decide +kernel
theorem dX6_endsDay_70 : decode cX6_endsDay 70 = .ok (.aload_n 0, 1) := by decide +kernel
theorem dX6_endsDay_71 : decode cX6_endsDay 71 = .ok (.getfield 7, 3) := by decide +kernel
theorem dX6_endsDay_74 : decode cX6_endsDay 74 = .ok (.iload_n 1, 1) := by decide +kernel
theorem dX6_endsDay_75 : decode cX6_endsDay 75 = .ok (.iconst 5, 1) := by decide +kernel
theorem dX6_endsDay_76 : decode cX6_endsDay 76 = .ok (.invokestatic 61, 3) := by decide +kernel
theorem dX6_endsDay_79 : decode cX6_endsDay 79 = .ok (.dup2, 1) := by decide +kernel
theorem dX6_endsDay_80 : decode cX6_endsDay 80 = .ok (.iaload, 1) := by decide +kernel
theorem dX6_endsDay_81 : decode cX6_endsDay 81 = .ok (.iconst 1, 1) := by decide +kernel
theorem dX6_endsDay_82 : decode cX6_endsDay 82 = .ok (.isub, 1) := by decide +kernel
theorem dX6_endsDay_83 : decode cX6_endsDay 83 = .ok (.iastore, 1) := by decide +kernel
theorem dX6_endsDay_84 : decode cX6_endsDay 84 = .ok (.aload_n 0, 1) := by decide +kernel
theorem dX6_endsDay_85 : decode cX6_endsDay 85 = .ok (.getfield 7, 3) := by decide +kernel
theorem dX6_endsDay_88 : decode cX6_endsDay 88 = .ok (.bipush 15, 2) := by decide +kernel
theorem dX6_endsDay_90 : decode cX6_endsDay 90 = .ok (.dup2, 1) := by decide +kernel
theorem dX6_endsDay_91 : decode cX6_endsDay 91 = .ok (.iaload, 1) := by decide +kernel
theorem dX6_endsDay_92 : decode cX6_endsDay 92 = .ok (.iconst 1, 1) := by decide +kernel
theorem dX6_endsDay_93 : decode cX6_endsDay 93 = .ok (.iadd, 1) := by decide +kernel
theorem dX6_endsDay_94 : decode cX6_endsDay 94 = .ok (.iastore, 1) := by decide +kernel
theorem dX6_endsDay_95 : decode cX6_endsDay 95 = .ok (.aload_n 0, 1) := by decide +kernel
theorem dX6_endsDay_96 : decode cX6_endsDay 96 = .ok (.getfield 7, 3) := by decide +kernel
theorem dX6_endsDay_99 : decode cX6_endsDay 99 = .ok (.iload_n 1, 1) := by decide +kernel
theorem dX6_endsDay_100 : decode cX6_endsDay 100 = .ok (.bipush 6, 2) := by decide +kernel
theorem dX6_endsDay_102 : decode cX6_endsDay 102 = .ok (.invokestatic 61, 3) := by decide +kernel
theorem dX6_endsDay_105 : decode cX6_endsDay 105 = .ok (.iconst 0, 1) := by decide +kernel
theorem dX6_endsDay_106 : decode cX6_endsDay 106 = .ok (.iastore, 1) := by decide +kernel
theorem dX6_endsDay_107 : decode cX6_endsDay 107 = .ok (.aload_n 0, 1) := by decide +kernel
theorem dX6_endsDay_108 : decode cX6_endsDay 108 = .ok (.getfield 7, 3) := by decide +kernel
theorem dX6_endsDay_111 : decode cX6_endsDay 111 = .ok (.iload_n 1, 1) := by decide +kernel
theorem dX6_endsDay_112 : decode cX6_endsDay 112 = .ok (.bipush 7, 2) := by decide +kernel
theorem dX6_endsDay_114 : decode cX6_endsDay 114 = .ok (.invokestatic 61, 3) := by decide +kernel
theorem dX6_endsDay_117 : decode cX6_endsDay 117 = .ok (.iconst 0, 1) := by decide +kernel
theorem dX6_endsDay_118 : decode cX6_endsDay 118 = .ok (.iastore, 1) := by decide +kernel
theorem dX6_endsDay_119 : decode cX6_endsDay 119 = .ok (.iinc 1 1, 3) := by decide +kernel
theorem dX6_endsDay_122 : decode cX6_endsDay 122 = .ok (.goto (-120), 3) := by decide +kernel
theorem dX6_endsDay_125 : decode cX6_endsDay 125 = .ok (.return_, 1) := by decide +kernel
theorem dX6_passes_0 : decode cX6_passes 0 = .ok (.iconst 0, 1) := by decide +kernel
theorem dX6_passes_1 : decode cX6_passes 1 = .ok (.istore_n 2, 1) := by decide +kernel
theorem dX6_passes_2 : decode cX6_passes 2 = .ok (.iconst 0, 1) := by decide +kernel
theorem dX6_passes_3 : decode cX6_passes 3 = .ok (.istore_n 3, 1) := by decide +kernel
theorem dX6_passes_4 : decode cX6_passes 4 = .ok (.iload_n 3, 1) := by decide +kernel
theorem dX6_passes_5 : decode cX6_passes 5 = .ok (.iload_n 1, 1) := by decide +kernel
theorem dX6_passes_6 : decode cX6_passes 6 = .ok (.if_icmp .ge 41, 3) := by decide +kernel
theorem dX6_passes_9 : decode cX6_passes 9 = .ok (.aload_n 0, 1) := by decide +kernel
theorem dX6_passes_10 : decode cX6_passes 10 = .ok (.getfield 7, 3) := by decide +kernel
theorem dX6_passes_13 : decode cX6_passes 13 = .ok (.iconst 4, 1) := by decide +kernel
theorem dX6_passes_14 : decode cX6_passes 14 = .ok (.dup2, 1) := by decide +kernel
theorem dX6_passes_15 : decode cX6_passes 15 = .ok (.iaload, 1) := by decide +kernel
theorem dX6_passes_16 : decode cX6_passes 16 = .ok (.iconst 1, 1) := by decide +kernel
theorem dX6_passes_17 : decode cX6_passes 17 = .ok (.iadd, 1) := by decide +kernel
theorem dX6_passes_18 : decode cX6_passes 18 = .ok (.iastore, 1) := by decide +kernel
theorem dX6_passes_19 : decode cX6_passes 19 = .ok (.aload_n 0, 1) := by decide +kernel
theorem dX6_passes_20 : decode cX6_passes 20 = .ok (.getfield 7, 3) := by decide +kernel
theorem dX6_passes_23 : decode cX6_passes 23 = .ok (.iconst 4, 1) := by decide +kernel
theorem dX6_passes_24 : decode cX6_passes 24 = .ok (.iaload, 1) := by decide +kernel
theorem dX6_passes_25 : decode cX6_passes 25 = .ok (.bipush 24, 2) := by decide +kernel
theorem dX6_passes_27 : decode cX6_passes 27 = .ok (.irem, 1) := by decide +kernel
theorem dX6_passes_28 : decode cX6_passes 28 = .ok (.ifCond .eq 6, 3) := by decide +kernel
theorem dX6_passes_31 : decode cX6_passes 31 = .ok (.goto 10, 3) := by decide +kernel
theorem dX6_passes_34 : decode cX6_passes 34 = .ok (.aload_n 0, 1) := by decide +kernel
theorem dX6_passes_35 : decode cX6_passes 35 = .ok (.invokevirtual 108, 3) := by decide +kernel
theorem dX6_passes_38 : decode cX6_passes 38 = .ok (.iinc 2 1, 3) := by decide +kernel
theorem dX6_passes_41 : decode cX6_passes 41 = .ok (.iinc 3 1, 3) := by decide +kernel
theorem dX6_passes_44 : decode cX6_passes 44 = .ok (.goto (-40), 3) := by decide +kernel
theorem dX6_passes_47 : decode cX6_passes 47 = .ok (.iload_n 2, 1) := by decide +kernel
theorem dX6_passes_48 : decode cX6_passes 48 = .ok (.ireturn, 1) := by decide +kernel
theorem dX6_sum_0 : decode cX6_sum 0 = .ok (.iconst 0, 1) := by decide +kernel
theorem dX6_sum_1 : decode cX6_sum 1 = .ok (.istore_n 2, 1) := by decide +kernel
theorem dX6_sum_2 : decode cX6_sum 2 = .ok (.iconst 0, 1) := by decide +kernel
theorem dX6_sum_3 : decode cX6_sum 3 = .ok (.istore_n 3, 1) := by decide +kernel
theorem dX6_sum_4 : decode cX6_sum 4 = .ok (.iload_n 3, 1) := by decide +kernel
theorem dX6_sum_5 : decode cX6_sum 5 = .ok (.aload_n 0, 1) := by decide +kernel
theorem dX6_sum_6 : decode cX6_sum 6 = .ok (.getfield 7, 3) := by decide +kernel
theorem dX6_sum_9 : decode cX6_sum 9 = .ok (.iconst 0, 1) := by decide +kernel
theorem dX6_sum_10 : decode cX6_sum 10 = .ok (.iaload, 1) := by decide +kernel
theorem dX6_sum_11 : decode cX6_sum 11 = .ok (.if_icmp .ge 22, 3) := by decide +kernel
theorem dX6_sum_14 : decode cX6_sum 14 = .ok (.iload_n 2, 1) := by decide +kernel
theorem dX6_sum_15 : decode cX6_sum 15 = .ok (.aload_n 0, 1) := by decide +kernel
theorem dX6_sum_16 : decode cX6_sum 16 = .ok (.getfield 7, 3) := by decide +kernel
theorem dX6_sum_19 : decode cX6_sum 19 = .ok (.iload_n 3, 1) := by decide +kernel
theorem dX6_sum_20 : decode cX6_sum 20 = .ok (.iload_n 1, 1) := by decide +kernel
theorem dX6_sum_21 : decode cX6_sum 21 = .ok (.invokestatic 61, 3) := by decide +kernel
theorem dX6_sum_24 : decode cX6_sum 24 = .ok (.iaload, 1) := by decide +kernel
theorem dX6_sum_25 : decode cX6_sum 25 = .ok (.iadd, 1) := by decide +kernel
theorem dX6_sum_26 : decode cX6_sum 26 = .ok (.istore_n 2, 1) := by decide +kernel
theorem dX6_sum_27 : decode cX6_sum 27 = .ok (.iinc 3 1, 3) := by decide +kernel
theorem dX6_sum_30 : decode cX6_sum 30 = .ok (.goto (-26), 3) := by decide +kernel
theorem dX6_sum_33 : decode cX6_sum 33 = .ok (.iload_n 2, 1) := by decide +kernel
theorem dX6_sum_34 : decode cX6_sum 34 = .ok (.ireturn, 1) := by decide +kernel
theorem dX6_sumOfBits_0 : decode cX6_sumOfBits 0 = .ok (.iconst 0, 1) := by decide +kernel
theorem dX6_sumOfBits_1 : decode cX6_sumOfBits 1 = .ok (.istore_n 2, 1) := by decide +kernel
theorem dX6_sumOfBits_2 : decode cX6_sumOfBits 2 = .ok (.iconst 0, 1) := by decide +kernel
theorem dX6_sumOfBits_3 : decode cX6_sumOfBits 3 = .ok (.istore_n 3, 1) := by decide +kernel
theorem dX6_sumOfBits_4 : decode cX6_sumOfBits 4 = .ok (.iload_n 3, 1) := by decide +kernel
theorem dX6_sumOfBits_5 : decode cX6_sumOfBits 5 = .ok (.aload_n 0, 1) := by decide +kernel
theorem dX6_sumOfBits_6 : decode cX6_sumOfBits 6 = .ok (.getfield 7, 3) := by decide +kernel
theorem dX6_sumOfBits_9 : decode cX6_sumOfBits 9 = .ok (.iconst 0, 1) := by decide +kernel
theorem dX6_sumOfBits_10 : decode cX6_sumOfBits 10 = .ok (.iaload, 1) := by decide +kernel
theorem dX6_sumOfBits_11 : decode cX6_sumOfBits 11 = .ok (.if_icmp .ge 25, 3) := by decide +kernel
theorem dX6_sumOfBits_14 : decode cX6_sumOfBits 14 = .ok (.iload_n 2, 1) := by decide +kernel
theorem dX6_sumOfBits_15 : decode cX6_sumOfBits 15 = .ok (.aload_n 0, 1) := by decide +kernel
theorem dX6_sumOfBits_16 : decode cX6_sumOfBits 16 = .ok (.getfield 7, 3) := by decide +kernel
theorem dX6_sumOfBits_19 : decode cX6_sumOfBits 19 = .ok (.iload_n 3, 1) := by decide +kernel
theorem dX6_sumOfBits_20 : decode cX6_sumOfBits 20 = .ok (.iload_n 1, 1) := by decide +kernel
theorem dX6_sumOfBits_21 : decode cX6_sumOfBits 21 = .ok (.invokestatic 61, 3) := by decide +kernel
theorem dX6_sumOfBits_24 : decode cX6_sumOfBits 24 = .ok (.iaload, 1) := by decide +kernel
theorem dX6_sumOfBits_25 : decode cX6_sumOfBits 25 = .ok (.invokestatic 99, 3) := by decide +kernel
theorem dX6_sumOfBits_28 : decode cX6_sumOfBits 28 = .ok (.iadd, 1) := by decide +kernel
theorem dX6_sumOfBits_29 : decode cX6_sumOfBits 29 = .ok (.istore_n 2, 1) := by decide +kernel
theorem dX6_sumOfBits_30 : decode cX6_sumOfBits 30 = .ok (.iinc 3 1, 3) := by decide +kernel
theorem dX6_sumOfBits_33 : decode cX6_sumOfBits 33 = .ok (.goto (-29), 3) := by decide +kernel
theorem dX6_sumOfBits_36 : decode cX6_sumOfBits 36 = .ok (.iload_n 2, 1) := by decide +kernel
theorem dX6_sumOfBits_37 : decode cX6_sumOfBits 37 = .ok (.ireturn, 1) := by decide +kernel
theorem dX6_bells_0 : decode cX6_bells 0 = .ok (.iconst 0, 1) := by decide +kernel
theorem dX6_bells_1 : decode cX6_bells 1 = .ok (.istore_n 1, 1) := by decide +kernel
theorem dX6_bells_2 : decode cX6_bells 2 = .ok (.iconst 0, 1) := by decide +kernel
theorem dX6_bells_3 : decode cX6_bells 3 = .ok (.istore_n 2, 1) := by decide +kernel
theorem dX6_bells_4 : decode cX6_bells 4 = .ok (.iload_n 2, 1) := by decide +kernel
theorem dX6_bells_5 : decode cX6_bells 5 = .ok (.bipush 24, 2) := by decide +kernel
theorem dX6_bells_7 : decode cX6_bells 7 = .ok (.if_icmp .ge 29, 3) := by decide +kernel
theorem dX6_bells_10 : decode cX6_bells 10 = .ok (.iload_n 1, 1) := by decide +kernel
theorem dX6_bells_11 : decode cX6_bells 11 = .ok (.aload_n 0, 1) := by decide +kernel
theorem dX6_bells_12 : decode cX6_bells 12 = .ok (.getfield 7, 3) := by decide +kernel
theorem dX6_bells_15 : decode cX6_bells 15 = .ok (.bipush 20, 2) := by decide +kernel
theorem dX6_bells_17 : decode cX6_bells 17 = .ok (.iload_n 2, 1) := by decide +kernel
theorem dX6_bells_18 : decode cX6_bells 18 = .ok (.iadd, 1) := by decide +kernel
theorem dX6_bells_19 : decode cX6_bells 19 = .ok (.iaload, 1) := by decide +kernel
theorem dX6_bells_20 : decode cX6_bells 20 = .ok (.ifCond .ne 7, 3) := by decide +kernel
theorem dX6_bells_23 : decode cX6_bells 23 = .ok (.iconst 0, 1) := by decide +kernel
theorem dX6_bells_24 : decode cX6_bells 24 = .ok (.goto 4, 3) := by decide +kernel
theorem dX6_bells_27 : decode cX6_bells 27 = .ok (.iconst 1, 1) := by decide +kernel
theorem dX6_bells_28 : decode cX6_bells 28 = .ok (.iadd, 1) := by decide +kernel
theorem dX6_bells_29 : decode cX6_bells 29 = .ok (.istore_n 1, 1) := by decide +kernel
theorem dX6_bells_30 : decode cX6_bells 30 = .ok (.iinc 2 1, 3) := by decide +kernel
theorem dX6_bells_33 : decode cX6_bells 33 = .ok (.goto (-29), 3) := by decide +kernel
theorem dX6_bells_36 : decode cX6_bells 36 = .ok (.iload_n 1, 1) := by decide +kernel
theorem dX6_bells_37 : decode cX6_bells 37 = .ok (.ireturn, 1) := by decide +kernel
theorem dX6_count_0 : decode cX6_count 0 = .ok (.aload_n 0, 1) := by decide +kernel
theorem dX6_count_1 : decode cX6_count 1 = .ok (.iload_n 1, 1) := by decide +kernel
theorem dX6_count_2 : decode cX6_count 2 = .ok (.iconst 0, 1) := by decide +kernel
theorem dX6_count_3 : decode cX6_count 3 = .ok (.bipush 12, 2) := by decide +kernel
theorem dX6_count_5 : decode cX6_count 5 = .ok (.invokestatic 53, 3) := by decide +kernel
theorem dX6_count_8 : decode cX6_count 8 = .ok (.ifCond .eq 7, 3) := by decide +kernel
theorem dX6_count_11 : decode cX6_count 11 = .ok (.iconst 0, 1) := by decide +kernel
theorem dX6_count_12 : decode cX6_count 12 = .ok (.goto 4, 3) := by decide +kernel
theorem dX6_count_15 : decode cX6_count 15 = .ok (.iconst 1, 1) := by decide +kernel
theorem dX6_count_16 : decode cX6_count 16 = .ok (.putfield 43, 3) := by decide +kernel
theorem dX6_count_19 : decode cX6_count 19 = .ok (.aload_n 0, 1) := by decide +kernel
theorem dX6_count_20 : decode cX6_count 20 = .ok (.getfield 43, 3) := by decide +kernel
theorem dX6_count_23 : decode cX6_count 23 = .ok (.ifCond .le 5, 3) := by decide +kernel
theorem dX6_count_26 : decode cX6_count 26 = .ok (.iconst 0, 1) := by decide +kernel
theorem dX6_count_27 : decode cX6_count 27 = .ok (.ireturn, 1) := by decide +kernel
theorem dX6_count_28 : decode cX6_count 28 = .ok (.iload_n 1, 1) := by decide +kernel
theorem dX6_count_29 : decode cX6_count 29 = .ok (.tableswitch 99 5 12 #[47, 60, 65, 70, 76, 82, 88, 94], 47) := by decide +kernel
theorem dX6_count_76 : decode cX6_count 76 = .ok (.aload_n 0, 1) := by decide +kernel
theorem dX6_count_77 : decode cX6_count 77 = .ok (.invokevirtual 75, 3) := by decide +kernel
theorem dX6_count_80 : decode cX6_count 80 = .ok (.ifCond .eq 7, 3) := by decide +kernel
theorem dX6_count_83 : decode cX6_count 83 = .ok (.iconst 1, 1) := by decide +kernel
theorem dX6_count_84 : decode cX6_count 84 = .ok (.goto 4, 3) := by decide +kernel
theorem dX6_count_87 : decode cX6_count 87 = .ok (.iconst 0, 1) := by decide +kernel
theorem dX6_count_88 : decode cX6_count 88 = .ok (.ireturn, 1) := by decide +kernel
theorem dX6_count_89 : decode cX6_count 89 = .ok (.aload_n 0, 1) := by decide +kernel
theorem dX6_count_90 : decode cX6_count 90 = .ok (.invokevirtual 111, 3) := by decide +kernel
theorem dX6_count_93 : decode cX6_count 93 = .ok (.ireturn, 1) := by decide +kernel
theorem dX6_count_94 : decode cX6_count 94 = .ok (.aload_n 0, 1) := by decide +kernel
theorem dX6_count_95 : decode cX6_count 95 = .ok (.invokevirtual 115, 3) := by decide +kernel
theorem dX6_count_98 : decode cX6_count 98 = .ok (.ireturn, 1) := by decide +kernel
theorem dX6_count_99 : decode cX6_count 99 = .ok (.aload_n 0, 1) := by decide +kernel
theorem dX6_count_100 : decode cX6_count 100 = .ok (.iconst 3, 1) := by decide +kernel
theorem dX6_count_101 : decode cX6_count 101 = .ok (.invokevirtual 118, 3) := by decide +kernel
theorem dX6_count_104 : decode cX6_count 104 = .ok (.ireturn, 1) := by decide +kernel
theorem dX6_count_105 : decode cX6_count 105 = .ok (.aload_n 0, 1) := by decide +kernel
theorem dX6_count_106 : decode cX6_count 106 = .ok (.iconst 4, 1) := by decide +kernel
theorem dX6_count_107 : decode cX6_count 107 = .ok (.invokevirtual 121, 3) := by decide +kernel
theorem dX6_count_110 : decode cX6_count 110 = .ok (.ireturn, 1) := by decide +kernel
theorem dX6_count_111 : decode cX6_count 111 = .ok (.aload_n 0, 1) := by decide +kernel
theorem dX6_count_112 : decode cX6_count 112 = .ok (.iconst 5, 1) := by decide +kernel
theorem dX6_count_113 : decode cX6_count 113 = .ok (.invokevirtual 121, 3) := by decide +kernel
theorem dX6_count_116 : decode cX6_count 116 = .ok (.ireturn, 1) := by decide +kernel
theorem dX6_count_117 : decode cX6_count 117 = .ok (.aload_n 0, 1) := by decide +kernel
theorem dX6_count_118 : decode cX6_count 118 = .ok (.iconst 2, 1) := by decide +kernel
theorem dX6_count_119 : decode cX6_count 119 = .ok (.invokevirtual 118, 3) := by decide +kernel
theorem dX6_count_122 : decode cX6_count 122 = .ok (.ireturn, 1) := by decide +kernel
theorem dX6_count_123 : decode cX6_count 123 = .ok (.aload_n 0, 1) := by decide +kernel
theorem dX6_count_124 : decode cX6_count 124 = .ok (.getfield 46, 3) := by decide +kernel
theorem dX6_count_127 : decode cX6_count 127 = .ok (.ireturn, 1) := by decide +kernel
theorem dX6_count_128 : decode cX6_count 128 = .ok (.aload_n 0, 1) := by decide +kernel
theorem dX6_count_129 : decode cX6_count 129 = .ok (.getfield 7, 3) := by decide +kernel
theorem dX6_count_132 : decode cX6_count 132 = .ok (.iload_n 1, 1) := by decide +kernel
theorem dX6_count_133 : decode cX6_count 133 = .ok (.iaload, 1) := by decide +kernel
theorem dX6_count_134 : decode cX6_count 134 = .ok (.ireturn, 1) := by decide +kernel
theorem dX6_account_0 : decode cX6_account 0 = .ok (.aload_n 0, 1) := by decide +kernel
theorem dX6_account_1 : decode cX6_account 1 = .ok (.iload_n 1, 1) := by decide +kernel
theorem dX6_account_2 : decode cX6_account 2 = .ok (.iconst 0, 1) := by decide +kernel
theorem dX6_account_3 : decode cX6_account 3 = .ok (.bipush 13, 2) := by decide +kernel
theorem dX6_account_5 : decode cX6_account 5 = .ok (.invokestatic 53, 3) := by decide +kernel
theorem dX6_account_8 : decode cX6_account 8 = .ok (.ifCond .eq 7, 3) := by decide +kernel
theorem dX6_account_11 : decode cX6_account 11 = .ok (.iconst 0, 1) := by decide +kernel
theorem dX6_account_12 : decode cX6_account 12 = .ok (.goto 4, 3) := by decide +kernel
theorem dX6_account_15 : decode cX6_account 15 = .ok (.iconst 1, 1) := by decide +kernel
theorem dX6_account_16 : decode cX6_account 16 = .ok (.putfield 43, 3) := by decide +kernel
theorem dX6_account_19 : decode cX6_account 19 = .ok (.aload_n 0, 1) := by decide +kernel
theorem dX6_account_20 : decode cX6_account 20 = .ok (.getfield 43, 3) := by decide +kernel
theorem dX6_account_23 : decode cX6_account 23 = .ok (.ifCond .le 7, 3) := by decide +kernel
theorem dX6_account_26 : decode cX6_account 26 = .ok (.iconst 0, 1) := by decide +kernel
theorem dX6_account_27 : decode cX6_account 27 = .ok (.goto 12, 3) := by decide +kernel
theorem dX6_account_30 : decode cX6_account 30 = .ok (.aload_n 0, 1) := by decide +kernel
theorem dX6_account_31 : decode cX6_account 31 = .ok (.getfield 7, 3) := by decide +kernel
theorem dX6_account_34 : decode cX6_account 34 = .ok (.bipush 6, 2) := by decide +kernel
theorem dX6_account_36 : decode cX6_account 36 = .ok (.iload_n 1, 1) := by decide +kernel
theorem dX6_account_37 : decode cX6_account 37 = .ok (.iadd, 1) := by decide +kernel
theorem dX6_account_38 : decode cX6_account 38 = .ok (.iaload, 1) := by decide +kernel
theorem dX6_account_39 : decode cX6_account 39 = .ok (.ireturn, 1) := by decide +kernel
theorem dX6_whoKnowAll_0 : decode cX6_whoKnowAll 0 = .ok (.iconst 0, 1) := by decide +kernel
theorem dX6_whoKnowAll_1 : decode cX6_whoKnowAll 1 = .ok (.istore_n 2, 1) := by decide +kernel
theorem dX6_whoKnowAll_2 : decode cX6_whoKnowAll 2 = .ok (.iconst 0, 1) := by decide +kernel
theorem dX6_whoKnowAll_3 : decode cX6_whoKnowAll 3 = .ok (.istore_n 3, 1) := by decide +kernel
theorem dX6_whoKnowAll_4 : decode cX6_whoKnowAll 4 = .ok (.iload_n 3, 1) := by decide +kernel
theorem dX6_whoKnowAll_5 : decode cX6_whoKnowAll 5 = .ok (.aload_n 0, 1) := by decide +kernel
theorem dX6_whoKnowAll_6 : decode cX6_whoKnowAll 6 = .ok (.getfield 7, 3) := by decide +kernel
theorem dX6_whoKnowAll_9 : decode cX6_whoKnowAll 9 = .ok (.iconst 0, 1) := by decide +kernel
theorem dX6_whoKnowAll_10 : decode cX6_whoKnowAll 10 = .ok (.iaload, 1) := by decide +kernel
theorem dX6_whoKnowAll_11 : decode cX6_whoKnowAll 11 = .ok (.if_icmp .ge 56, 3) := by decide +kernel
theorem dX6_whoKnowAll_14 : decode cX6_whoKnowAll 14 = .ok (.iload_n 2, 1) := by decide +kernel
theorem dX6_whoKnowAll_15 : decode cX6_whoKnowAll 15 = .ok (.iload_n 3, 1) := by decide +kernel
theorem dX6_whoKnowAll_16 : decode cX6_whoKnowAll 16 = .ok (.iload_n 1, 1) := by decide +kernel
theorem dX6_whoKnowAll_17 : decode cX6_whoKnowAll 17 = .ok (.if_icmp .eq 41, 3) := by decide +kernel
theorem dX6_whoKnowAll_20 : decode cX6_whoKnowAll 20 = .ok (.aload_n 0, 1) := by decide +kernel
theorem dX6_whoKnowAll_21 : decode cX6_whoKnowAll 21 = .ok (.getfield 7, 3) := by decide +kernel
theorem dX6_whoKnowAll_24 : decode cX6_whoKnowAll 24 = .ok (.iload_n 3, 1) := by decide +kernel
theorem dX6_whoKnowAll_25 : decode cX6_whoKnowAll 25 = .ok (.iconst 2, 1) := by decide +kernel
theorem dX6_whoKnowAll_26 : decode cX6_whoKnowAll 26 = .ok (.invokestatic 61, 3) := by decide +kernel
theorem dX6_whoKnowAll_29 : decode cX6_whoKnowAll 29 = .ok (.iaload, 1) := by decide +kernel
theorem dX6_whoKnowAll_30 : decode cX6_whoKnowAll 30 = .ok (.aload_n 0, 1) := by decide +kernel
theorem dX6_whoKnowAll_31 : decode cX6_whoKnowAll 31 = .ok (.getfield 7, 3) := by decide +kernel
theorem dX6_whoKnowAll_34 : decode cX6_whoKnowAll 34 = .ok (.iload_n 1, 1) := by decide +kernel
theorem dX6_whoKnowAll_35 : decode cX6_whoKnowAll 35 = .ok (.iconst 2, 1) := by decide +kernel
theorem dX6_whoKnowAll_36 : decode cX6_whoKnowAll 36 = .ok (.invokestatic 61, 3) := by decide +kernel
theorem dX6_whoKnowAll_39 : decode cX6_whoKnowAll 39 = .ok (.iaload, 1) := by decide +kernel
theorem dX6_whoKnowAll_40 : decode cX6_whoKnowAll 40 = .ok (.iand, 1) := by decide +kernel
theorem dX6_whoKnowAll_41 : decode cX6_whoKnowAll 41 = .ok (.aload_n 0, 1) := by decide +kernel
theorem dX6_whoKnowAll_42 : decode cX6_whoKnowAll 42 = .ok (.getfield 7, 3) := by decide +kernel
theorem dX6_whoKnowAll_45 : decode cX6_whoKnowAll 45 = .ok (.iload_n 1, 1) := by decide +kernel
theorem dX6_whoKnowAll_46 : decode cX6_whoKnowAll 46 = .ok (.iconst 2, 1) := by decide +kernel
theorem dX6_whoKnowAll_47 : decode cX6_whoKnowAll 47 = .ok (.invokestatic 61, 3) := by decide +kernel
theorem dX6_whoKnowAll_50 : decode cX6_whoKnowAll 50 = .ok (.iaload, 1) := by decide +kernel
theorem dX6_whoKnowAll_51 : decode cX6_whoKnowAll 51 = .ok (.if_icmp .ne 7, 3) := by decide +kernel
theorem dX6_whoKnowAll_54 : decode cX6_whoKnowAll 54 = .ok (.iconst 1, 1) := by decide +kernel
theorem dX6_whoKnowAll_55 : decode cX6_whoKnowAll 55 = .ok (.goto 4, 3) := by decide +kernel
theorem dX6_whoKnowAll_58 : decode cX6_whoKnowAll 58 = .ok (.iconst 0, 1) := by decide +kernel
theorem dX6_whoKnowAll_59 : decode cX6_whoKnowAll 59 = .ok (.iadd, 1) := by decide +kernel
theorem dX6_whoKnowAll_60 : decode cX6_whoKnowAll 60 = .ok (.istore_n 2, 1) := by decide +kernel
theorem dX6_whoKnowAll_61 : decode cX6_whoKnowAll 61 = .ok (.iinc 3 1, 3) := by decide +kernel
theorem dX6_whoKnowAll_64 : decode cX6_whoKnowAll 64 = .ok (.goto (-60), 3) := by decide +kernel
theorem dX6_whoKnowAll_67 : decode cX6_whoKnowAll 67 = .ok (.iload_n 2, 1) := by decide +kernel
theorem dX6_whoKnowAll_68 : decode cX6_whoKnowAll 68 = .ok (.ireturn, 1) := by decide +kernel
theorem dX6_lengthOf_0 : decode cX6_lengthOf 0 = .ok (.iconst 0, 1) := by decide +kernel
theorem dX6_lengthOf_1 : decode cX6_lengthOf 1 = .ok (.istore_n 1, 1) := by decide +kernel
theorem dX6_lengthOf_2 : decode cX6_lengthOf 2 = .ok (.iload_n 0, 1) := by decide +kernel
theorem dX6_lengthOf_3 : decode cX6_lengthOf 3 = .ok (.istore_n 2, 1) := by decide +kernel
theorem dX6_lengthOf_4 : decode cX6_lengthOf 4 = .ok (.iload_n 2, 1) := by decide +kernel
theorem dX6_lengthOf_5 : decode cX6_lengthOf 5 = .ok (.ifCond .le 14, 3) := by decide +kernel
theorem dX6_lengthOf_8 : decode cX6_lengthOf 8 = .ok (.iinc 1 1, 3) := by decide +kernel
theorem dX6_lengthOf_11 : decode cX6_lengthOf 11 = .ok (.iload_n 2, 1) := by decide +kernel
theorem dX6_lengthOf_12 : decode cX6_lengthOf 12 = .ok (.bipush 27, 2) := by decide +kernel
theorem dX6_lengthOf_14 : decode cX6_lengthOf 14 = .ok (.idiv, 1) := by decide +kernel
theorem dX6_lengthOf_15 : decode cX6_lengthOf 15 = .ok (.istore_n 2, 1) := by decide +kernel
theorem dX6_lengthOf_16 : decode cX6_lengthOf 16 = .ok (.goto (-12), 3) := by decide +kernel
theorem dX6_lengthOf_19 : decode cX6_lengthOf 19 = .ok (.iload_n 1, 1) := by decide +kernel
theorem dX6_lengthOf_20 : decode cX6_lengthOf 20 = .ok (.ireturn, 1) := by decide +kernel
theorem dX6_monk_0 : decode cX6_monk 0 = .ok (.aload_n 0, 1) := by decide +kernel
theorem dX6_monk_1 : decode cX6_monk 1 = .ok (.aload_n 0, 1) := by decide +kernel
theorem dX6_monk_2 : decode cX6_monk 2 = .ok (.iload_n 1, 1) := by decide +kernel
theorem dX6_monk_3 : decode cX6_monk 3 = .ok (.invokevirtual 124, 3) := by decide +kernel
theorem dX6_monk_6 : decode cX6_monk 6 = .ok (.ifCond .ne 7, 3) := by decide +kernel
theorem dX6_monk_9 : decode cX6_monk 9 = .ok (.iconst 1, 1) := by decide +kernel
theorem dX6_monk_10 : decode cX6_monk 10 = .ok (.goto 18, 3) := by decide +kernel
theorem dX6_monk_13 : decode cX6_monk 13 = .ok (.iload_n 2, 1) := by decide +kernel
theorem dX6_monk_14 : decode cX6_monk 14 = .ok (.iconst 0, 1) := by decide +kernel
theorem dX6_monk_15 : decode cX6_monk 15 = .ok (.bipush 8, 2) := by decide +kernel
theorem dX6_monk_17 : decode cX6_monk 17 = .ok (.invokestatic 53, 3) := by decide +kernel
theorem dX6_monk_20 : decode cX6_monk 20 = .ok (.ifCond .eq 7, 3) := by decide +kernel
theorem dX6_monk_23 : decode cX6_monk 23 = .ok (.iconst 0, 1) := by decide +kernel
theorem dX6_monk_24 : decode cX6_monk 24 = .ok (.goto 4, 3) := by decide +kernel
theorem dX6_monk_27 : decode cX6_monk 27 = .ok (.iconst 2, 1) := by decide +kernel
theorem dX6_monk_28 : decode cX6_monk 28 = .ok (.putfield 43, 3) := by decide +kernel
theorem dX6_monk_31 : decode cX6_monk 31 = .ok (.aload_n 0, 1) := by decide +kernel
theorem dX6_monk_32 : decode cX6_monk 32 = .ok (.getfield 43, 3) := by decide +kernel
theorem dX6_monk_35 : decode cX6_monk 35 = .ok (.ifCond .le 5, 3) := by decide +kernel
theorem dX6_monk_38 : decode cX6_monk 38 = .ok (.iconst 0, 1) := by decide +kernel
theorem dX6_monk_39 : decode cX6_monk 39 = .ok (.ireturn, 1) := by decide +kernel
theorem dX6_monk_40 : decode cX6_monk 40 = .ok (.iload_n 2, 1) := by decide +kernel
theorem dX6_monk_41 : decode cX6_monk 41 = .ok (.tableswitch 107 0 7 #[47, 58, 58, 58, 58, 73, 87, 101], 47) := by decide +kernel
theorem dX6_monk_88 : decode cX6_monk 88 = .ok (.aload_n 0, 1) := by decide +kernel
theorem dX6_monk_89 : decode cX6_monk 89 = .ok (.getfield 7, 3) := by decide +kernel
theorem dX6_monk_92 : decode cX6_monk 92 = .ok (.iload_n 1, 1) := by decide +kernel
theorem dX6_monk_93 : decode cX6_monk 93 = .ok (.iconst 1, 1) := by decide +kernel
theorem dX6_monk_94 : decode cX6_monk 94 = .ok (.invokestatic 61, 3) := by decide +kernel
theorem dX6_monk_97 : decode cX6_monk 97 = .ok (.iaload, 1) := by decide +kernel
theorem dX6_monk_98 : decode cX6_monk 98 = .ok (.ireturn, 1) := by decide +kernel
theorem dX6_monk_99 : decode cX6_monk 99 = .ok (.aload_n 0, 1) := by decide +kernel
theorem dX6_monk_100 : decode cX6_monk 100 = .ok (.getfield 7, 3) := by decide +kernel
theorem dX6_monk_103 : decode cX6_monk 103 = .ok (.iload_n 1, 1) := by decide +kernel
theorem dX6_monk_104 : decode cX6_monk 104 = .ok (.iconst 4, 1) := by decide +kernel
theorem dX6_monk_105 : decode cX6_monk 105 = .ok (.iload_n 2, 1) := by decide +kernel
theorem dX6_monk_106 : decode cX6_monk 106 = .ok (.iadd, 1) := by decide +kernel
theorem dX6_monk_107 : decode cX6_monk 107 = .ok (.iconst 1, 1) := by decide +kernel
theorem dX6_monk_108 : decode cX6_monk 108 = .ok (.isub, 1) := by decide +kernel
theorem dX6_monk_109 : decode cX6_monk 109 = .ok (.invokestatic 61, 3) := by decide +kernel
theorem dX6_monk_112 : decode cX6_monk 112 = .ok (.iaload, 1) := by decide +kernel
theorem dX6_monk_113 : decode cX6_monk 113 = .ok (.ireturn, 1) := by decide +kernel
theorem dX6_monk_114 : decode cX6_monk 114 = .ok (.aload_n 0, 1) := by decide +kernel
theorem dX6_monk_115 : decode cX6_monk 115 = .ok (.getfield 7, 3) := by decide +kernel
theorem dX6_monk_118 : decode cX6_monk 118 = .ok (.iload_n 1, 1) := by decide +kernel
theorem dX6_monk_119 : decode cX6_monk 119 = .ok (.iconst 2, 1) := by decide +kernel
theorem dX6_monk_120 : decode cX6_monk 120 = .ok (.invokestatic 61, 3) := by decide +kernel
theorem dX6_monk_123 : decode cX6_monk 123 = .ok (.iaload, 1) := by decide +kernel
theorem dX6_monk_124 : decode cX6_monk 124 = .ok (.invokestatic 99, 3) := by decide +kernel
theorem dX6_monk_127 : decode cX6_monk 127 = .ok (.ireturn, 1) := by decide +kernel
theorem dX6_monk_128 : decode cX6_monk 128 = .ok (.aload_n 0, 1) := by decide +kernel
theorem dX6_monk_129 : decode cX6_monk 129 = .ok (.getfield 7, 3) := by decide +kernel
theorem dX6_monk_132 : decode cX6_monk 132 = .ok (.iload_n 1, 1) := by decide +kernel
theorem dX6_monk_133 : decode cX6_monk 133 = .ok (.iconst 3, 1) := by decide +kernel
theorem dX6_monk_134 : decode cX6_monk 134 = .ok (.invokestatic 61, 3) := by decide +kernel
theorem dX6_monk_137 : decode cX6_monk 137 = .ok (.iaload, 1) := by decide +kernel
theorem dX6_monk_138 : decode cX6_monk 138 = .ok (.invokestatic 99, 3) := by decide +kernel
theorem dX6_monk_141 : decode cX6_monk 141 = .ok (.ireturn, 1) := by decide +kernel
theorem dX6_monk_142 : decode cX6_monk 142 = .ok (.aload_n 0, 1) := by decide +kernel
theorem dX6_monk_143 : decode cX6_monk 143 = .ok (.iload_n 1, 1) := by decide +kernel
theorem dX6_monk_144 : decode cX6_monk 144 = .ok (.invokevirtual 127, 3) := by decide +kernel
theorem dX6_monk_147 : decode cX6_monk 147 = .ok (.ireturn, 1) := by decide +kernel
theorem dX6_monk_148 : decode cX6_monk 148 = .ok (.aload_n 0, 1) := by decide +kernel
theorem dX6_monk_149 : decode cX6_monk 149 = .ok (.getfield 7, 3) := by decide +kernel
theorem dX6_monk_152 : decode cX6_monk 152 = .ok (.iload_n 1, 1) := by decide +kernel
theorem dX6_monk_153 : decode cX6_monk 153 = .ok (.iconst 0, 1) := by decide +kernel
theorem dX6_monk_154 : decode cX6_monk 154 = .ok (.invokestatic 61, 3) := by decide +kernel
theorem dX6_monk_157 : decode cX6_monk 157 = .ok (.iaload, 1) := by decide +kernel
theorem dX6_monk_158 : decode cX6_monk 158 = .ok (.invokestatic 130, 3) := by decide +kernel
theorem dX6_monk_161 : decode cX6_monk 161 = .ok (.ireturn, 1) := by decide +kernel
theorem dX6_monksWith_0 : decode cX6_monksWith 0 = .ok (.iconst 0, 1) := by decide +kernel
theorem dX6_monksWith_1 : decode cX6_monksWith 1 = .ok (.istore_n 3, 1) := by decide +kernel
theorem dX6_monksWith_2 : decode cX6_monksWith 2 = .ok (.iconst 0, 1) := by decide +kernel
theorem dX6_monksWith_3 : decode cX6_monksWith 3 = .ok (.istore 4, 2) := by decide +kernel
theorem dX6_monksWith_5 : decode cX6_monksWith 5 = .ok (.iload 4, 2) := by decide +kernel
theorem dX6_monksWith_7 : decode cX6_monksWith 7 = .ok (.aload_n 0, 1) := by decide +kernel
theorem dX6_monksWith_8 : decode cX6_monksWith 8 = .ok (.getfield 7, 3) := by decide +kernel
theorem dX6_monksWith_11 : decode cX6_monksWith 11 = .ok (.iconst 0, 1) := by decide +kernel
theorem dX6_monksWith_12 : decode cX6_monksWith 12 = .ok (.iaload, 1) := by decide +kernel
theorem dX6_monksWith_13 : decode cX6_monksWith 13 = .ok (.if_icmp .ge 28, 3) := by decide +kernel
theorem dX6_monksWith_16 : decode cX6_monksWith 16 = .ok (.iload_n 3, 1) := by decide +kernel
theorem dX6_monksWith_17 : decode cX6_monksWith 17 = .ok (.aload_n 0, 1) := by decide +kernel
theorem dX6_monksWith_18 : decode cX6_monksWith 18 = .ok (.iload 4, 2) := by decide +kernel
theorem dX6_monksWith_20 : decode cX6_monksWith 20 = .ok (.iload_n 1, 1) := by decide +kernel
theorem dX6_monksWith_21 : decode cX6_monksWith 21 = .ok (.iload_n 2, 1) := by decide +kernel
theorem dX6_monksWith_22 : decode cX6_monksWith 22 = .ok (.invokevirtual 90, 3) := by decide +kernel
theorem dX6_monksWith_25 : decode cX6_monksWith 25 = .ok (.ifCond .eq 7, 3) := by decide +kernel
theorem dX6_monksWith_28 : decode cX6_monksWith 28 = .ok (.iconst 1, 1) := by decide +kernel
theorem dX6_monksWith_29 : decode cX6_monksWith 29 = .ok (.goto 4, 3) := by decide +kernel
theorem dX6_monksWith_32 : decode cX6_monksWith 32 = .ok (.iconst 0, 1) := by decide +kernel
theorem dX6_monksWith_33 : decode cX6_monksWith 33 = .ok (.iadd, 1) := by decide +kernel
theorem dX6_monksWith_34 : decode cX6_monksWith 34 = .ok (.istore_n 3, 1) := by decide +kernel
theorem dX6_monksWith_35 : decode cX6_monksWith 35 = .ok (.iinc 4 1, 3) := by decide +kernel
theorem dX6_monksWith_38 : decode cX6_monksWith 38 = .ok (.goto (-33), 3) := by decide +kernel
theorem dX6_monksWith_41 : decode cX6_monksWith 41 = .ok (.iload_n 3, 1) := by decide +kernel
theorem dX6_monksWith_42 : decode cX6_monksWith 42 = .ok (.ireturn, 1) := by decide +kernel
theorem dX6_need_0 : decode cX6_need 0 = .ok (.aload_n 0, 1) := by decide +kernel
theorem dX6_need_1 : decode cX6_need 1 = .ok (.aload_n 0, 1) := by decide +kernel
theorem dX6_need_2 : decode cX6_need 2 = .ok (.iload_n 1, 1) := by decide +kernel
theorem dX6_need_3 : decode cX6_need 3 = .ok (.invokevirtual 133, 3) := by decide +kernel
theorem dX6_need_6 : decode cX6_need 6 = .ok (.ifCond .ne 7, 3) := by decide +kernel
theorem dX6_need_9 : decode cX6_need 9 = .ok (.iconst 1, 1) := by decide +kernel
theorem dX6_need_10 : decode cX6_need 10 = .ok (.goto 17, 3) := by decide +kernel
theorem dX6_need_13 : decode cX6_need 13 = .ok (.iload_n 2, 1) := by decide +kernel
theorem dX6_need_14 : decode cX6_need 14 = .ok (.iconst 0, 1) := by decide +kernel
theorem dX6_need_15 : decode cX6_need 15 = .ok (.iconst 4, 1) := by decide +kernel
theorem dX6_need_16 : decode cX6_need 16 = .ok (.invokestatic 53, 3) := by decide +kernel
theorem dX6_need_19 : decode cX6_need 19 = .ok (.ifCond .eq 7, 3) := by decide +kernel
theorem dX6_need_22 : decode cX6_need 22 = .ok (.iconst 0, 1) := by decide +kernel
theorem dX6_need_23 : decode cX6_need 23 = .ok (.goto 4, 3) := by decide +kernel
theorem dX6_need_26 : decode cX6_need 26 = .ok (.iconst 2, 1) := by decide +kernel
theorem dX6_need_27 : decode cX6_need 27 = .ok (.putfield 43, 3) := by decide +kernel
theorem dX6_need_30 : decode cX6_need 30 = .ok (.aload_n 0, 1) := by decide +kernel
theorem dX6_need_31 : decode cX6_need 31 = .ok (.getfield 43, 3) := by decide +kernel
theorem dX6_need_34 : decode cX6_need 34 = .ok (.ifCond .le 5, 3) := by decide +kernel
theorem dX6_need_37 : decode cX6_need 37 = .ok (.iconst 0, 1) := by decide +kernel
theorem dX6_need_38 : decode cX6_need 38 = .ok (.ireturn, 1) := by decide +kernel
theorem dX6_need_39 : decode cX6_need 39 = .ok (.iload_n 2, 1) := by decide +kernel
theorem dX6_need_40 : decode cX6_need 40 = .ok (.tableswitch 64 0 3 #[32, 38, 45, 52], 32) := by decide +kernel
theorem dX6_need_72 : decode cX6_need 72 = .ok (.aload_n 0, 1) := by decide +kernel
theorem dX6_need_73 : decode cX6_need 73 = .ok (.iload_n 1, 1) := by decide +kernel
theorem dX6_need_74 : decode cX6_need 74 = .ok (.invokevirtual 72, 3) := by decide +kernel
theorem dX6_need_77 : decode cX6_need 77 = .ok (.ireturn, 1) := by decide +kernel
theorem dX6_need_78 : decode cX6_need 78 = .ok (.aload_n 0, 1) := by decide +kernel
theorem dX6_need_79 : decode cX6_need 79 = .ok (.iconst 2, 1) := by decide +kernel
theorem dX6_need_80 : decode cX6_need 80 = .ok (.iload_n 1, 1) := by decide +kernel
theorem dX6_need_81 : decode cX6_need 81 = .ok (.invokevirtual 136, 3) := by decide +kernel
theorem dX6_need_84 : decode cX6_need 84 = .ok (.ireturn, 1) := by decide +kernel
theorem dX6_need_85 : decode cX6_need 85 = .ok (.aload_n 0, 1) := by decide +kernel
theorem dX6_need_86 : decode cX6_need 86 = .ok (.iconst 3, 1) := by decide +kernel
theorem dX6_need_87 : decode cX6_need 87 = .ok (.iload_n 1, 1) := by decide +kernel
theorem dX6_need_88 : decode cX6_need 88 = .ok (.invokevirtual 136, 3) := by decide +kernel
theorem dX6_need_91 : decode cX6_need 91 = .ok (.ireturn, 1) := by decide +kernel
theorem dX6_need_92 : decode cX6_need 92 = .ok (.aload_n 0, 1) := by decide +kernel
theorem dX6_need_93 : decode cX6_need 93 = .ok (.iload_n 1, 1) := by decide +kernel
theorem dX6_need_94 : decode cX6_need 94 = .ok (.invokevirtual 72, 3) := by decide +kernel
theorem dX6_need_97 : decode cX6_need 97 = .ok (.bipush 9, 2) := by decide +kernel
theorem dX6_need_99 : decode cX6_need 99 = .ok (.iadd, 1) := by decide +kernel
theorem dX6_need_100 : decode cX6_need 100 = .ok (.bipush 10, 2) := by decide +kernel
theorem dX6_need_102 : decode cX6_need 102 = .ok (.idiv, 1) := by decide +kernel
theorem dX6_need_103 : decode cX6_need 103 = .ok (.ireturn, 1) := by decide +kernel
theorem dX6_need_104 : decode cX6_need 104 = .ok (.aload_n 0, 1) := by decide +kernel
theorem dX6_need_105 : decode cX6_need 105 = .ok (.iload_n 1, 1) := by decide +kernel
theorem dX6_need_106 : decode cX6_need 106 = .ok (.invokevirtual 72, 3) := by decide +kernel
theorem dX6_need_109 : decode cX6_need 109 = .ok (.iconst 4, 1) := by decide +kernel
theorem dX6_need_110 : decode cX6_need 110 = .ok (.iadd, 1) := by decide +kernel
theorem dX6_need_111 : decode cX6_need 111 = .ok (.iconst 5, 1) := by decide +kernel
theorem dX6_need_112 : decode cX6_need 112 = .ok (.idiv, 1) := by decide +kernel
theorem dX6_need_113 : decode cX6_need 113 = .ok (.ireturn, 1) := by decide +kernel
theorem dX6_has_0 : decode cX6_has 0 = .ok (.aload_n 0, 1) := by decide +kernel
theorem dX6_has_1 : decode cX6_has 1 = .ok (.aload_n 0, 1) := by decide +kernel
theorem dX6_has_2 : decode cX6_has 2 = .ok (.iload_n 1, 1) := by decide +kernel
theorem dX6_has_3 : decode cX6_has 3 = .ok (.invokevirtual 124, 3) := by decide +kernel
theorem dX6_has_6 : decode cX6_has 6 = .ok (.ifCond .eq 15, 3) := by decide +kernel
theorem dX6_has_9 : decode cX6_has 9 = .ok (.aload_n 0, 1) := by decide +kernel
theorem dX6_has_10 : decode cX6_has 10 = .ok (.iload_n 2, 1) := by decide +kernel
theorem dX6_has_11 : decode cX6_has 11 = .ok (.invokevirtual 133, 3) := by decide +kernel
theorem dX6_has_14 : decode cX6_has 14 = .ok (.ifCond .eq 7, 3) := by decide +kernel
theorem dX6_has_17 : decode cX6_has 17 = .ok (.iconst 0, 1) := by decide +kernel
theorem dX6_has_18 : decode cX6_has 18 = .ok (.goto 4, 3) := by decide +kernel
theorem dX6_has_21 : decode cX6_has 21 = .ok (.iconst 1, 1) := by decide +kernel
theorem dX6_has_22 : decode cX6_has 22 = .ok (.putfield 43, 3) := by decide +kernel
theorem dX6_has_25 : decode cX6_has 25 = .ok (.aload_n 0, 1) := by decide +kernel
theorem dX6_has_26 : decode cX6_has 26 = .ok (.getfield 43, 3) := by decide +kernel
theorem dX6_has_29 : decode cX6_has 29 = .ok (.ifCond .ne 25, 3) := by decide +kernel
theorem dX6_has_32 : decode cX6_has 32 = .ok (.aload_n 0, 1) := by decide +kernel
theorem dX6_has_33 : decode cX6_has 33 = .ok (.iload_n 1, 1) := by decide +kernel
theorem dX6_has_34 : decode cX6_has 34 = .ok (.iload_n 3, 1) := by decide +kernel
theorem dX6_has_35 : decode cX6_has 35 = .ok (.ifCond .eq 7, 3) := by decide +kernel
theorem dX6_has_38 : decode cX6_has 38 = .ok (.iconst 3, 1) := by decide +kernel
theorem dX6_has_39 : decode cX6_has 39 = .ok (.goto 4, 3) := by decide +kernel
theorem dX6_has_42 : decode cX6_has 42 = .ok (.iconst 2, 1) := by decide +kernel
theorem dX6_has_43 : decode cX6_has 43 = .ok (.iload_n 2, 1) := by decide +kernel
theorem dX6_has_44 : decode cX6_has 44 = .ok (.invokevirtual 90, 3) := by decide +kernel
theorem dX6_has_47 : decode cX6_has 47 = .ok (.ifCond .eq 7, 3) := by decide +kernel
theorem dX6_has_50 : decode cX6_has 50 = .ok (.iconst 1, 1) := by decide +kernel
theorem dX6_has_51 : decode cX6_has 51 = .ok (.goto 4, 3) := by decide +kernel
theorem dX6_has_54 : decode cX6_has 54 = .ok (.iconst 0, 1) := by decide +kernel
theorem dX6_has_55 : decode cX6_has 55 = .ok (.ireturn, 1) := by decide +kernel
theorem dX6_bell_0 : decode cX6_bell 0 = .ok (.aload_n 0, 1) := by decide +kernel
theorem dX6_bell_1 : decode cX6_bell 1 = .ok (.iload_n 1, 1) := by decide +kernel
theorem dX6_bell_2 : decode cX6_bell 2 = .ok (.iconst 0, 1) := by decide +kernel
theorem dX6_bell_3 : decode cX6_bell 3 = .ok (.bipush 23, 2) := by decide +kernel
theorem dX6_bell_5 : decode cX6_bell 5 = .ok (.invokestatic 53, 3) := by decide +kernel
theorem dX6_bell_8 : decode cX6_bell 8 = .ok (.ifCond .eq 7, 3) := by decide +kernel
theorem dX6_bell_11 : decode cX6_bell 11 = .ok (.iconst 0, 1) := by decide +kernel
theorem dX6_bell_12 : decode cX6_bell 12 = .ok (.goto 4, 3) := by decide +kernel
theorem dX6_bell_15 : decode cX6_bell 15 = .ok (.iconst 1, 1) := by decide +kernel
theorem dX6_bell_16 : decode cX6_bell 16 = .ok (.putfield 43, 3) := by decide +kernel
theorem dX6_bell_19 : decode cX6_bell 19 = .ok (.aload_n 0, 1) := by decide +kernel
theorem dX6_bell_20 : decode cX6_bell 20 = .ok (.getfield 43, 3) := by decide +kernel
theorem dX6_bell_23 : decode cX6_bell 23 = .ok (.ifCond .le 7, 3) := by decide +kernel
theorem dX6_bell_26 : decode cX6_bell 26 = .ok (.iconst 0, 1) := by decide +kernel
theorem dX6_bell_27 : decode cX6_bell 27 = .ok (.goto 12, 3) := by decide +kernel
theorem dX6_bell_30 : decode cX6_bell 30 = .ok (.aload_n 0, 1) := by decide +kernel
theorem dX6_bell_31 : decode cX6_bell 31 = .ok (.getfield 7, 3) := by decide +kernel
theorem dX6_bell_34 : decode cX6_bell 34 = .ok (.bipush 20, 2) := by decide +kernel
theorem dX6_bell_36 : decode cX6_bell 36 = .ok (.iload_n 1, 1) := by decide +kernel
theorem dX6_bell_37 : decode cX6_bell 37 = .ok (.iadd, 1) := by decide +kernel
theorem dX6_bell_38 : decode cX6_bell 38 = .ok (.iaload, 1) := by decide +kernel
theorem dX6_bell_39 : decode cX6_bell 39 = .ok (.ireturn, 1) := by decide +kernel
theorem dX6_howSpoken_0 : decode cX6_howSpoken 0 = .ok (.aload_n 0, 1) := by decide +kernel
theorem dX6_howSpoken_1 : decode cX6_howSpoken 1 = .ok (.invokevirtual 75, 3) := by decide +kernel
theorem dX6_howSpoken_4 : decode cX6_howSpoken 4 = .ok (.ifCond .eq 6, 3) := by decide +kernel
theorem dX6_howSpoken_7 : decode cX6_howSpoken 7 = .ok (.bipush 20, 2) := by decide +kernel
theorem dX6_howSpoken_9 : decode cX6_howSpoken 9 = .ok (.ireturn, 1) := by decide +kernel
theorem dX6_howSpoken_10 : decode cX6_howSpoken 10 = .ok (.aload_n 0, 1) := by decide +kernel
theorem dX6_howSpoken_11 : decode cX6_howSpoken 11 = .ok (.iload_n 1, 1) := by decide +kernel
theorem dX6_howSpoken_12 : decode cX6_howSpoken 12 = .ok (.iload_n 2, 1) := by decide +kernel
theorem dX6_howSpoken_13 : decode cX6_howSpoken 13 = .ok (.invokevirtual 87, 3) := by decide +kernel
theorem dX6_howSpoken_16 : decode cX6_howSpoken 16 = .ok (.ifCond .ne 8, 3) := by decide +kernel
theorem dX6_howSpoken_19 : decode cX6_howSpoken 19 = .ok (.bipush 21, 2) := by decide +kernel
theorem dX6_howSpoken_21 : decode cX6_howSpoken 21 = .ok (.goto 23, 3) := by decide +kernel
theorem dX6_howSpoken_24 : decode cX6_howSpoken 24 = .ok (.aload_n 0, 1) := by decide +kernel
theorem dX6_howSpoken_25 : decode cX6_howSpoken 25 = .ok (.getfield 7, 3) := by decide +kernel
theorem dX6_howSpoken_28 : decode cX6_howSpoken 28 = .ok (.iload_n 1, 1) := by decide +kernel
theorem dX6_howSpoken_29 : decode cX6_howSpoken 29 = .ok (.iconst 4, 1) := by decide +kernel
theorem dX6_howSpoken_30 : decode cX6_howSpoken 30 = .ok (.invokestatic 61, 3) := by decide +kernel
theorem dX6_howSpoken_33 : decode cX6_howSpoken 33 = .ok (.iaload, 1) := by decide +kernel
theorem dX6_howSpoken_34 : decode cX6_howSpoken 34 = .ok (.ifCond .le 8, 3) := by decide +kernel
theorem dX6_howSpoken_37 : decode cX6_howSpoken 37 = .ok (.bipush 22, 2) := by decide +kernel
theorem dX6_howSpoken_39 : decode cX6_howSpoken 39 = .ok (.goto 5, 3) := by decide +kernel
theorem dX6_howSpoken_42 : decode cX6_howSpoken 42 = .ok (.bipush 23, 2) := by decide +kernel
theorem dX6_howSpoken_44 : decode cX6_howSpoken 44 = .ok (.ireturn, 1) := by decide +kernel
theorem dX6_cause_0 : decode cX6_cause 0 = .ok (.iload 5, 2) := by decide +kernel
theorem dX6_cause_2 : decode cX6_cause 2 = .ok (.tableswitch 155 2 23 #[102, 104, 106, 113, 155, 155, 155, 155, 155, 155, 155, 155, 155, 155, 155, 155, 155, 155, 124, 138, 138, 149], 102) := by decide +kernel
theorem dX6_cause_104 : decode cX6_cause 104 = .ok (.iload_n 1, 1) := by decide +kernel
theorem dX6_cause_105 : decode cX6_cause 105 = .ok (.ireturn, 1) := by decide +kernel
theorem dX6_cause_106 : decode cX6_cause 106 = .ok (.iload_n 2, 1) := by decide +kernel
theorem dX6_cause_107 : decode cX6_cause 107 = .ok (.ireturn, 1) := by decide +kernel
theorem dX6_cause_108 : decode cX6_cause 108 = .ok (.aload_n 0, 1) := by decide +kernel
theorem dX6_cause_109 : decode cX6_cause 109 = .ok (.getfield 7, 3) := by decide +kernel
theorem dX6_cause_112 : decode cX6_cause 112 = .ok (.iconst 2, 1) := by decide +kernel
theorem dX6_cause_113 : decode cX6_cause 113 = .ok (.iaload, 1) := by decide +kernel
theorem dX6_cause_114 : decode cX6_cause 114 = .ok (.ireturn, 1) := by decide +kernel
theorem dX6_cause_115 : decode cX6_cause 115 = .ok (.aload_n 0, 1) := by decide +kernel
theorem dX6_cause_116 : decode cX6_cause 116 = .ok (.getfield 7, 3) := by decide +kernel
theorem dX6_cause_119 : decode cX6_cause 119 = .ok (.iload_n 1, 1) := by decide +kernel
theorem dX6_cause_120 : decode cX6_cause 120 = .ok (.iconst 5, 1) := by decide +kernel
theorem dX6_cause_121 : decode cX6_cause 121 = .ok (.invokestatic 61, 3) := by decide +kernel
theorem dX6_cause_124 : decode cX6_cause 124 = .ok (.iaload, 1) := by decide +kernel
theorem dX6_cause_125 : decode cX6_cause 125 = .ok (.ireturn, 1) := by decide +kernel
theorem dX6_cause_126 : decode cX6_cause 126 = .ok (.aload_n 0, 1) := by decide +kernel
theorem dX6_cause_127 : decode cX6_cause 127 = .ok (.aload_n 0, 1) := by decide +kernel
theorem dX6_cause_128 : decode cX6_cause 128 = .ok (.getfield 7, 3) := by decide +kernel
theorem dX6_cause_131 : decode cX6_cause 131 = .ok (.iconst 4, 1) := by decide +kernel
theorem dX6_cause_132 : decode cX6_cause 132 = .ok (.iaload, 1) := by decide +kernel
theorem dX6_cause_133 : decode cX6_cause 133 = .ok (.bipush 24, 2) := by decide +kernel
theorem dX6_cause_135 : decode cX6_cause 135 = .ok (.irem, 1) := by decide +kernel
theorem dX6_cause_136 : decode cX6_cause 136 = .ok (.invokevirtual 64, 3) := by decide +kernel
theorem dX6_cause_139 : decode cX6_cause 139 = .ok (.ireturn, 1) := by decide +kernel
theorem dX6_cause_140 : decode cX6_cause 140 = .ok (.aload_n 0, 1) := by decide +kernel
theorem dX6_cause_141 : decode cX6_cause 141 = .ok (.getfield 7, 3) := by decide +kernel
theorem dX6_cause_144 : decode cX6_cause 144 = .ok (.iload_n 1, 1) := by decide +kernel
theorem dX6_cause_145 : decode cX6_cause 145 = .ok (.iconst 4, 1) := by decide +kernel
theorem dX6_cause_146 : decode cX6_cause 146 = .ok (.invokestatic 61, 3) := by decide +kernel
theorem dX6_cause_149 : decode cX6_cause 149 = .ok (.iaload, 1) := by decide +kernel
theorem dX6_cause_150 : decode cX6_cause 150 = .ok (.ireturn, 1) := by decide +kernel
theorem dX6_cause_151 : decode cX6_cause 151 = .ok (.aload_n 0, 1) := by decide +kernel
theorem dX6_cause_152 : decode cX6_cause 152 = .ok (.iload_n 3, 1) := by decide +kernel
theorem dX6_cause_153 : decode cX6_cause 153 = .ok (.invokevirtual 72, 3) := by decide +kernel
theorem dX6_cause_156 : decode cX6_cause 156 = .ok (.ireturn, 1) := by decide +kernel
theorem dX6_cause_157 : decode cX6_cause 157 = .ok (.iload 4, 2) := by decide +kernel
theorem dX6_cause_159 : decode cX6_cause 159 = .ok (.ifCond .ne 7, 3) := by decide +kernel
theorem dX6_cause_162 : decode cX6_cause 162 = .ok (.iconst 0, 1) := by decide +kernel
theorem dX6_cause_163 : decode cX6_cause 163 = .ok (.goto 9, 3) := by decide +kernel
theorem dX6_cause_166 : decode cX6_cause 166 = .ok (.aload_n 0, 1) := by decide +kernel
theorem dX6_cause_167 : decode cX6_cause 167 = .ok (.iload_n 1, 1) := by decide +kernel
theorem dX6_cause_168 : decode cX6_cause 168 = .ok (.iload_n 3, 1) := by decide +kernel
theorem dX6_cause_169 : decode cX6_cause 169 = .ok (.invokevirtual 93, 3) := by decide +kernel
theorem dX6_cause_172 : decode cX6_cause 172 = .ok (.ireturn, 1) := by decide +kernel
theorem dX6_deep_0 : decode cX6_deep 0 = .ok (.iload_n 3, 1) := by decide +kernel
theorem dX6_deep_1 : decode cX6_deep 1 = .ok (.lookupswitch 82 #[(4, 51), (5, 58), (21, 65), (22, 58), (23, 58)], 51) := by decide +kernel
theorem dX6_deep_52 : decode cX6_deep 52 = .ok (.aload_n 0, 1) := by decide +kernel
theorem dX6_deep_53 : decode cX6_deep 53 = .ok (.iload_n 1, 1) := by decide +kernel
theorem dX6_deep_54 : decode cX6_deep 54 = .ok (.iload_n 2, 1) := by decide +kernel
theorem dX6_deep_55 : decode cX6_deep 55 = .ok (.invokevirtual 93, 3) := by decide +kernel
theorem dX6_deep_58 : decode cX6_deep 58 = .ok (.ireturn, 1) := by decide +kernel
theorem dX6_deep_59 : decode cX6_deep 59 = .ok (.aload_n 0, 1) := by decide +kernel
theorem dX6_deep_60 : decode cX6_deep 60 = .ok (.iload_n 1, 1) := by decide +kernel
theorem dX6_deep_61 : decode cX6_deep 61 = .ok (.iload_n 2, 1) := by decide +kernel
theorem dX6_deep_62 : decode cX6_deep 62 = .ok (.invokevirtual 96, 3) := by decide +kernel
theorem dX6_deep_65 : decode cX6_deep 65 = .ok (.ireturn, 1) := by decide +kernel
theorem dX6_deep_66 : decode cX6_deep 66 = .ok (.aload_n 0, 1) := by decide +kernel
theorem dX6_deep_67 : decode cX6_deep 67 = .ok (.getfield 7, 3) := by decide +kernel
theorem dX6_deep_70 : decode cX6_deep 70 = .ok (.iload_n 1, 1) := by decide +kernel
theorem dX6_deep_71 : decode cX6_deep 71 = .ok (.iconst 4, 1) := by decide +kernel
theorem dX6_deep_72 : decode cX6_deep 72 = .ok (.invokestatic 61, 3) := by decide +kernel
theorem dX6_deep_75 : decode cX6_deep 75 = .ok (.iaload, 1) := by decide +kernel
theorem dX6_deep_76 : decode cX6_deep 76 = .ok (.aload_n 0, 1) := by decide +kernel
theorem dX6_deep_77 : decode cX6_deep 77 = .ok (.iload_n 2, 1) := by decide +kernel
theorem dX6_deep_78 : decode cX6_deep 78 = .ok (.invokevirtual 72, 3) := by decide +kernel
theorem dX6_deep_81 : decode cX6_deep 81 = .ok (.isub, 1) := by decide +kernel
theorem dX6_deep_82 : decode cX6_deep 82 = .ok (.ireturn, 1) := by decide +kernel
theorem dX6_deep_83 : decode cX6_deep 83 = .ok (.iconst (-1), 1) := by decide +kernel
theorem dX6_deep_84 : decode cX6_deep 84 = .ok (.ireturn, 1) := by decide +kernel
theorem dX6_wrongTwo_0 : decode cX6_wrongTwo 0 = .ok (.aload_n 0, 1) := by decide +kernel
theorem dX6_wrongTwo_1 : decode cX6_wrongTwo 1 = .ok (.iload_n 1, 1) := by decide +kernel
theorem dX6_wrongTwo_2 : decode cX6_wrongTwo 2 = .ok (.invokevirtual 124, 3) := by decide +kernel
theorem dX6_wrongTwo_5 : decode cX6_wrongTwo 5 = .ok (.ifCond .eq 19, 3) := by decide +kernel
theorem dX6_wrongTwo_8 : decode cX6_wrongTwo 8 = .ok (.aload_n 0, 1) := by decide +kernel
theorem dX6_wrongTwo_9 : decode cX6_wrongTwo 9 = .ok (.iload_n 2, 1) := by decide +kernel
theorem dX6_wrongTwo_10 : decode cX6_wrongTwo 10 = .ok (.invokevirtual 124, 3) := by decide +kernel
theorem dX6_wrongTwo_13 : decode cX6_wrongTwo 13 = .ok (.ifCond .eq 11, 3) := by decide +kernel
theorem dX6_wrongTwo_16 : decode cX6_wrongTwo 16 = .ok (.aload_n 0, 1) := by decide +kernel
theorem dX6_wrongTwo_17 : decode cX6_wrongTwo 17 = .ok (.iload_n 3, 1) := by decide +kernel
theorem dX6_wrongTwo_18 : decode cX6_wrongTwo 18 = .ok (.invokevirtual 133, 3) := by decide +kernel
theorem dX6_wrongTwo_21 : decode cX6_wrongTwo 21 = .ok (.ifCond .ne 7, 3) := by decide +kernel
theorem dX6_wrongTwo_24 : decode cX6_wrongTwo 24 = .ok (.iconst 1, 1) := by decide +kernel
theorem dX6_wrongTwo_25 : decode cX6_wrongTwo 25 = .ok (.goto 13, 3) := by decide +kernel
theorem dX6_wrongTwo_28 : decode cX6_wrongTwo 28 = .ok (.iload_n 1, 1) := by decide +kernel
theorem dX6_wrongTwo_29 : decode cX6_wrongTwo 29 = .ok (.iload_n 2, 1) := by decide +kernel
theorem dX6_wrongTwo_30 : decode cX6_wrongTwo 30 = .ok (.if_icmp .ne 7, 3) := by decide +kernel
theorem dX6_wrongTwo_33 : decode cX6_wrongTwo 33 = .ok (.iconst 2, 1) := by decide +kernel
theorem dX6_wrongTwo_34 : decode cX6_wrongTwo 34 = .ok (.goto 4, 3) := by decide +kernel
theorem dX6_wrongTwo_37 : decode cX6_wrongTwo 37 = .ok (.iconst 0, 1) := by decide +kernel
theorem dX6_wrongTwo_38 : decode cX6_wrongTwo 38 = .ok (.ireturn, 1) := by decide +kernel
theorem dX6_why_0 : decode cX6_why 0 = .ok (.aload_n 0, 1) := by decide +kernel
theorem dX6_why_1 : decode cX6_why 1 = .ok (.aload_n 0, 1) := by decide +kernel
theorem dX6_why_2 : decode cX6_why 2 = .ok (.iload_n 1, 1) := by decide +kernel
theorem dX6_why_3 : decode cX6_why 3 = .ok (.iload_n 2, 1) := by decide +kernel
theorem dX6_why_4 : decode cX6_why 4 = .ok (.iload_n 3, 1) := by decide +kernel
theorem dX6_why_5 : decode cX6_why 5 = .ok (.invokevirtual 139, 3) := by decide +kernel
theorem dX6_why_8 : decode cX6_why 8 = .ok (.putfield 43, 3) := by decide +kernel
theorem dX6_why_11 : decode cX6_why 11 = .ok (.aload_n 0, 1) := by decide +kernel
theorem dX6_why_12 : decode cX6_why 12 = .ok (.getfield 43, 3) := by decide +kernel
theorem dX6_why_15 : decode cX6_why 15 = .ok (.ifCond .ne 28, 3) := by decide +kernel
theorem dX6_why_18 : decode cX6_why 18 = .ok (.iload 4, 2) := by decide +kernel
theorem dX6_why_20 : decode cX6_why 20 = .ok (.iconst 0, 1) := by decide +kernel
theorem dX6_why_21 : decode cX6_why 21 = .ok (.iconst 2, 1) := by decide +kernel
theorem dX6_why_22 : decode cX6_why 22 = .ok (.invokestatic 53, 3) := by decide +kernel
theorem dX6_why_25 : decode cX6_why 25 = .ok (.ifCond .eq 13, 3) := by decide +kernel
theorem dX6_why_28 : decode cX6_why 28 = .ok (.iload 5, 2) := by decide +kernel
theorem dX6_why_30 : decode cX6_why 30 = .ok (.iconst 0, 1) := by decide +kernel
theorem dX6_why_31 : decode cX6_why 31 = .ok (.iconst 2, 1) := by decide +kernel
theorem dX6_why_32 : decode cX6_why 32 = .ok (.invokestatic 53, 3) := by decide +kernel
theorem dX6_why_35 : decode cX6_why 35 = .ok (.ifCond .ne 8, 3) := by decide +kernel
theorem dX6_why_38 : decode cX6_why 38 = .ok (.aload_n 0, 1) := by decide +kernel
theorem dX6_why_39 : decode cX6_why 39 = .ok (.iconst 2, 1) := by decide +kernel
theorem dX6_why_40 : decode cX6_why 40 = .ok (.putfield 43, 3) := by decide +kernel
theorem dX6_why_43 : decode cX6_why 43 = .ok (.aload_n 0, 1) := by decide +kernel
theorem dX6_why_44 : decode cX6_why 44 = .ok (.getfield 43, 3) := by decide +kernel
theorem dX6_why_47 : decode cX6_why 47 = .ok (.ifCond .le 5, 3) := by decide +kernel
theorem dX6_why_50 : decode cX6_why 50 = .ok (.iconst 0, 1) := by decide +kernel
theorem dX6_why_51 : decode cX6_why 51 = .ok (.ireturn, 1) := by decide +kernel
theorem dX6_why_52 : decode cX6_why 52 = .ok (.aload_n 0, 1) := by decide +kernel
theorem dX6_why_53 : decode cX6_why 53 = .ok (.iload_n 1, 1) := by decide +kernel
theorem dX6_why_54 : decode cX6_why 54 = .ok (.iload_n 2, 1) := by decide +kernel
theorem dX6_why_55 : decode cX6_why 55 = .ok (.iload_n 3, 1) := by decide +kernel
theorem dX6_why_56 : decode cX6_why 56 = .ok (.iload 4, 2) := by decide +kernel
theorem dX6_why_58 : decode cX6_why 58 = .ok (.invokevirtual 143, 3) := by decide +kernel
theorem dX6_why_61 : decode cX6_why 61 = .ok (.istore 6, 2) := by decide +kernel
theorem dX6_why_63 : decode cX6_why 63 = .ok (.iload 6, 2) := by decide +kernel
theorem dX6_why_65 : decode cX6_why 65 = .ok (.ifCond .ne 17, 3) := by decide +kernel
theorem dX6_why_68 : decode cX6_why 68 = .ok (.iload 4, 2) := by decide +kernel
theorem dX6_why_70 : decode cX6_why 70 = .ok (.iconst 2, 1) := by decide +kernel
theorem dX6_why_71 : decode cX6_why 71 = .ok (.if_icmp .ne 11, 3) := by decide +kernel
theorem dX6_why_74 : decode cX6_why 74 = .ok (.aload_n 0, 1) := by decide +kernel
theorem dX6_why_75 : decode cX6_why 75 = .ok (.iload_n 1, 1) := by decide +kernel
theorem dX6_why_76 : decode cX6_why 76 = .ok (.iload_n 3, 1) := by decide +kernel
theorem dX6_why_77 : decode cX6_why 77 = .ok (.invokevirtual 147, 3) := by decide +kernel
theorem dX6_why_80 : decode cX6_why 80 = .ok (.istore 6, 2) := by decide +kernel
theorem dX6_why_82 : decode cX6_why 82 = .ok (.iload 5, 2) := by decide +kernel
theorem dX6_why_84 : decode cX6_why 84 = .ok (.ifCond .ne 8, 3) := by decide +kernel
theorem dX6_why_87 : decode cX6_why 87 = .ok (.iload 6, 2) := by decide +kernel
theorem dX6_why_89 : decode cX6_why 89 = .ok (.goto 31, 3) := by decide +kernel
theorem dX6_why_92 : decode cX6_why 92 = .ok (.iload 5, 2) := by decide +kernel
theorem dX6_why_94 : decode cX6_why 94 = .ok (.iconst 1, 1) := by decide +kernel
theorem dX6_why_95 : decode cX6_why 95 = .ok (.if_icmp .ne 17, 3) := by decide +kernel
theorem dX6_why_98 : decode cX6_why 98 = .ok (.aload_n 0, 1) := by decide +kernel
theorem dX6_why_99 : decode cX6_why 99 = .ok (.iload_n 1, 1) := by decide +kernel
theorem dX6_why_100 : decode cX6_why 100 = .ok (.iload_n 2, 1) := by decide +kernel
theorem dX6_why_101 : decode cX6_why 101 = .ok (.iload_n 3, 1) := by decide +kernel
theorem dX6_why_102 : decode cX6_why 102 = .ok (.iload 4, 2) := by decide +kernel
theorem dX6_why_104 : decode cX6_why 104 = .ok (.iload 6, 2) := by decide +kernel
theorem dX6_why_106 : decode cX6_why 106 = .ok (.invokevirtual 150, 3) := by decide +kernel
theorem dX6_why_109 : decode cX6_why 109 = .ok (.goto 11, 3) := by decide +kernel
theorem dX6_why_112 : decode cX6_why 112 = .ok (.aload_n 0, 1) := by decide +kernel
theorem dX6_why_113 : decode cX6_why 113 = .ok (.iload_n 1, 1) := by decide +kernel
theorem dX6_why_114 : decode cX6_why 114 = .ok (.iload_n 3, 1) := by decide +kernel
theorem dX6_why_115 : decode cX6_why 115 = .ok (.iload 6, 2) := by decide +kernel
theorem dX6_why_117 : decode cX6_why 117 = .ok (.invokevirtual 154, 3) := by decide +kernel
theorem dX6_why_120 : decode cX6_why 120 = .ok (.ireturn, 1) := by decide +kernel
theorem dX6_spoken_0 : decode cX6_spoken 0 = .ok (.aload_n 0, 1) := by decide +kernel
theorem dX6_spoken_1 : decode cX6_spoken 1 = .ok (.getfield 7, 3) := by decide +kernel
theorem dX6_spoken_4 : decode cX6_spoken 4 = .ok (.bipush 10, 2) := by decide +kernel
theorem dX6_spoken_6 : decode cX6_spoken 6 = .ok (.iaload, 1) := by decide +kernel
theorem dX6_spoken_7 : decode cX6_spoken 7 = .ok (.aload_n 0, 1) := by decide +kernel
theorem dX6_spoken_8 : decode cX6_spoken 8 = .ok (.getfield 7, 3) := by decide +kernel
theorem dX6_spoken_11 : decode cX6_spoken 11 = .ok (.bipush 11, 2) := by decide +kernel
theorem dX6_spoken_13 : decode cX6_spoken 13 = .ok (.iaload, 1) := by decide +kernel
theorem dX6_spoken_14 : decode cX6_spoken 14 = .ok (.iadd, 1) := by decide +kernel
theorem dX6_spoken_15 : decode cX6_spoken 15 = .ok (.aload_n 0, 1) := by decide +kernel
theorem dX6_spoken_16 : decode cX6_spoken 16 = .ok (.getfield 7, 3) := by decide +kernel
theorem dX6_spoken_19 : decode cX6_spoken 19 = .ok (.bipush 12, 2) := by decide +kernel
theorem dX6_spoken_21 : decode cX6_spoken 21 = .ok (.iaload, 1) := by decide +kernel
theorem dX6_spoken_22 : decode cX6_spoken 22 = .ok (.iadd, 1) := by decide +kernel
theorem dX6_spoken_23 : decode cX6_spoken 23 = .ok (.ireturn, 1) := by decide +kernel
theorem dX6_gap_0 : decode cX6_gap 0 = .ok (.aload_n 0, 1) := by decide +kernel
theorem dX6_gap_1 : decode cX6_gap 1 = .ok (.iconst 0, 1) := by decide +kernel
theorem dX6_gap_2 : decode cX6_gap 2 = .ok (.putfield 43, 3) := by decide +kernel
theorem dX6_gap_5 : decode cX6_gap 5 = .ok (.aload_n 0, 1) := by decide +kernel
theorem dX6_gap_6 : decode cX6_gap 6 = .ok (.invokevirtual 157, 3) := by decide +kernel
theorem dX6_gap_9 : decode cX6_gap 9 = .ok (.aload_n 0, 1) := by decide +kernel
theorem dX6_gap_10 : decode cX6_gap 10 = .ok (.getfield 7, 3) := by decide +kernel
theorem dX6_gap_13 : decode cX6_gap 13 = .ok (.iconst 5, 1) := by decide +kernel
theorem dX6_gap_14 : decode cX6_gap 14 = .ok (.iaload, 1) := by decide +kernel
theorem dX6_gap_15 : decode cX6_gap 15 = .ok (.isub, 1) := by decide +kernel
theorem dX6_gap_16 : decode cX6_gap 16 = .ok (.istore_n 1, 1) := by decide +kernel
theorem dX6_gap_17 : decode cX6_gap 17 = .ok (.iload_n 1, 1) := by decide +kernel
theorem dX6_gap_18 : decode cX6_gap 18 = .ok (.aload_n 0, 1) := by decide +kernel
theorem dX6_gap_19 : decode cX6_gap 19 = .ok (.getfield 7, 3) := by decide +kernel
theorem dX6_gap_22 : decode cX6_gap 22 = .ok (.bipush 14, 2) := by decide +kernel
theorem dX6_gap_24 : decode cX6_gap 24 = .ok (.iaload, 1) := by decide +kernel
theorem dX6_gap_25 : decode cX6_gap 25 = .ok (.aload_n 0, 1) := by decide +kernel
theorem dX6_gap_26 : decode cX6_gap 26 = .ok (.getfield 7, 3) := by decide +kernel
theorem dX6_gap_29 : decode cX6_gap 29 = .ok (.bipush 15, 2) := by decide +kernel
theorem dX6_gap_31 : decode cX6_gap 31 = .ok (.iaload, 1) := by decide +kernel
theorem dX6_gap_32 : decode cX6_gap 32 = .ok (.isub, 1) := by decide +kernel
theorem dX6_gap_33 : decode cX6_gap 33 = .ok (.aload_n 0, 1) := by decide +kernel
theorem dX6_gap_34 : decode cX6_gap 34 = .ok (.iconst 5, 1) := by decide +kernel
theorem dX6_gap_35 : decode cX6_gap 35 = .ok (.invokevirtual 121, 3) := by decide +kernel
theorem dX6_gap_38 : decode cX6_gap 38 = .ok (.isub, 1) := by decide +kernel
theorem dX6_gap_39 : decode cX6_gap 39 = .ok (.iadd, 1) := by decide +kernel
theorem dX6_gap_40 : decode cX6_gap 40 = .ok (.istore_n 1, 1) := by decide +kernel
theorem dX6_gap_41 : decode cX6_gap 41 = .ok (.iload_n 1, 1) := by decide +kernel
theorem dX6_gap_42 : decode cX6_gap 42 = .ok (.aload_n 0, 1) := by decide +kernel
theorem dX6_gap_43 : decode cX6_gap 43 = .ok (.getfield 7, 3) := by decide +kernel
theorem dX6_gap_46 : decode cX6_gap 46 = .ok (.bipush 16, 2) := by decide +kernel
theorem dX6_gap_48 : decode cX6_gap 48 = .ok (.iaload, 1) := by decide +kernel
theorem dX6_gap_49 : decode cX6_gap 49 = .ok (.iadd, 1) := by decide +kernel
theorem dX6_gap_50 : decode cX6_gap 50 = .ok (.aload_n 0, 1) := by decide +kernel
theorem dX6_gap_51 : decode cX6_gap 51 = .ok (.getfield 7, 3) := by decide +kernel
theorem dX6_gap_54 : decode cX6_gap 54 = .ok (.bipush 11, 2) := by decide +kernel
theorem dX6_gap_56 : decode cX6_gap 56 = .ok (.iaload, 1) := by decide +kernel
theorem dX6_gap_57 : decode cX6_gap 57 = .ok (.isub, 1) := by decide +kernel
theorem dX6_gap_58 : decode cX6_gap 58 = .ok (.aload_n 0, 1) := by decide +kernel
theorem dX6_gap_59 : decode cX6_gap 59 = .ok (.getfield 7, 3) := by decide +kernel
theorem dX6_gap_62 : decode cX6_gap 62 = .ok (.bipush 17, 2) := by decide +kernel
theorem dX6_gap_64 : decode cX6_gap 64 = .ok (.iaload, 1) := by decide +kernel
theorem dX6_gap_65 : decode cX6_gap 65 = .ok (.isub, 1) := by decide +kernel
theorem dX6_gap_66 : decode cX6_gap 66 = .ok (.aload_n 0, 1) := by decide +kernel
theorem dX6_gap_67 : decode cX6_gap 67 = .ok (.iconst 4, 1) := by decide +kernel
theorem dX6_gap_68 : decode cX6_gap 68 = .ok (.invokevirtual 121, 3) := by decide +kernel
theorem dX6_gap_71 : decode cX6_gap 71 = .ok (.isub, 1) := by decide +kernel
theorem dX6_gap_72 : decode cX6_gap 72 = .ok (.ireturn, 1) := by decide +kernel
theorem dX6_meanFast_0 : decode cX6_meanFast 0 = .ok (.aload_n 0, 1) := by decide +kernel
theorem dX6_meanFast_1 : decode cX6_meanFast 1 = .ok (.iconst 0, 1) := by decide +kernel
theorem dX6_meanFast_2 : decode cX6_meanFast 2 = .ok (.putfield 43, 3) := by decide +kernel
theorem dX6_meanFast_5 : decode cX6_meanFast 5 = .ok (.aload_n 0, 1) := by decide +kernel
theorem dX6_meanFast_6 : decode cX6_meanFast 6 = .ok (.iconst 5, 1) := by decide +kernel
theorem dX6_meanFast_7 : decode cX6_meanFast 7 = .ok (.invokevirtual 121, 3) := by decide +kernel
theorem dX6_meanFast_10 : decode cX6_meanFast 10 = .ok (.i2d, 1) := by decide +kernel
theorem dX6_meanFast_11 : decode cX6_meanFast 11 = .ok (.aload_n 0, 1) := by decide +kernel
theorem dX6_meanFast_12 : decode cX6_meanFast 12 = .ok (.getfield 7, 3) := by decide +kernel
theorem dX6_meanFast_15 : decode cX6_meanFast 15 = .ok (.iconst 0, 1) := by decide +kernel
theorem dX6_meanFast_16 : decode cX6_meanFast 16 = .ok (.iaload, 1) := by decide +kernel
theorem dX6_meanFast_17 : decode cX6_meanFast 17 = .ok (.i2d, 1) := by decide +kernel
theorem dX6_meanFast_18 : decode cX6_meanFast 18 = .ok (.ddiv, 1) := by decide +kernel
theorem dX6_meanFast_19 : decode cX6_meanFast 19 = .ok (.dreturn, 1) := by decide +kernel
theorem dX6_breachShare_0 : decode cX6_breachShare 0 = .ok (.aload_n 0, 1) := by decide +kernel
theorem dX6_breachShare_1 : decode cX6_breachShare 1 = .ok (.iconst 0, 1) := by decide +kernel
theorem dX6_breachShare_2 : decode cX6_breachShare 2 = .ok (.putfield 43, 3) := by decide +kernel
theorem dX6_breachShare_5 : decode cX6_breachShare 5 = .ok (.aload_n 0, 1) := by decide +kernel
theorem dX6_breachShare_6 : decode cX6_breachShare 6 = .ok (.invokevirtual 157, 3) := by decide +kernel
theorem dX6_breachShare_9 : decode cX6_breachShare 9 = .ok (.ifCond .ne 7, 3) := by decide +kernel
theorem dX6_breachShare_12 : decode cX6_breachShare 12 = .ok (.fconst 0, 1) := by decide +kernel
theorem dX6_breachShare_13 : decode cX6_breachShare 13 = .ok (.goto 17, 3) := by decide +kernel
theorem dX6_breachShare_16 : decode cX6_breachShare 16 = .ok (.aload_n 0, 1) := by decide +kernel
theorem dX6_breachShare_17 : decode cX6_breachShare 17 = .ok (.getfield 7, 3) := by decide +kernel
theorem dX6_breachShare_20 : decode cX6_breachShare 20 = .ok (.bipush 12, 2) := by decide +kernel
theorem dX6_breachShare_22 : decode cX6_breachShare 22 = .ok (.iaload, 1) := by decide +kernel
theorem dX6_breachShare_23 : decode cX6_breachShare 23 = .ok (.i2f, 1) := by decide +kernel
theorem dX6_breachShare_24 : decode cX6_breachShare 24 = .ok (.aload_n 0, 1) := by decide +kernel
theorem dX6_breachShare_25 : decode cX6_breachShare 25 = .ok (.invokevirtual 157, 3) := by decide +kernel
theorem dX6_breachShare_28 : decode cX6_breachShare 28 = .ok (.i2f, 1) := by decide +kernel
theorem dX6_breachShare_29 : decode cX6_breachShare 29 = .ok (.fdiv, 1) := by decide +kernel
theorem dX6_breachShare_30 : decode cX6_breachShare 30 = .ok (.freturn, 1) := by decide +kernel
theorem dX6_isAhead_0 : decode cX6_isAhead 0 = .ok (.aload_n 0, 1) := by decide +kernel
theorem dX6_isAhead_1 : decode cX6_isAhead 1 = .ok (.getfield 7, 3) := by decide +kernel
theorem dX6_isAhead_4 : decode cX6_isAhead 4 = .ok (.iload_n 1, 1) := by decide +kernel
theorem dX6_isAhead_5 : decode cX6_isAhead 5 = .ok (.iconst 5, 1) := by decide +kernel
theorem dX6_isAhead_6 : decode cX6_isAhead 6 = .ok (.invokestatic 61, 3) := by decide +kernel
theorem dX6_isAhead_9 : decode cX6_isAhead 9 = .ok (.iaload, 1) := by decide +kernel
theorem dX6_isAhead_10 : decode cX6_isAhead 10 = .ok (.aload_n 0, 1) := by decide +kernel
theorem dX6_isAhead_11 : decode cX6_isAhead 11 = .ok (.getfield 7, 3) := by decide +kernel
theorem dX6_isAhead_14 : decode cX6_isAhead 14 = .ok (.iload_n 2, 1) := by decide +kernel
theorem dX6_isAhead_15 : decode cX6_isAhead 15 = .ok (.iconst 5, 1) := by decide +kernel
theorem dX6_isAhead_16 : decode cX6_isAhead 16 = .ok (.invokestatic 61, 3) := by decide +kernel
theorem dX6_isAhead_19 : decode cX6_isAhead 19 = .ok (.iaload, 1) := by decide +kernel
theorem dX6_isAhead_20 : decode cX6_isAhead 20 = .ok (.if_icmp .eq 32, 3) := by decide +kernel
theorem dX6_isAhead_23 : decode cX6_isAhead 23 = .ok (.aload_n 0, 1) := by decide +kernel
theorem dX6_isAhead_24 : decode cX6_isAhead 24 = .ok (.getfield 7, 3) := by decide +kernel
theorem dX6_isAhead_27 : decode cX6_isAhead 27 = .ok (.iload_n 1, 1) := by decide +kernel
theorem dX6_isAhead_28 : decode cX6_isAhead 28 = .ok (.iconst 5, 1) := by decide +kernel
theorem dX6_isAhead_29 : decode cX6_isAhead 29 = .ok (.invokestatic 61, 3) := by decide +kernel
theorem dX6_isAhead_32 : decode cX6_isAhead 32 = .ok (.iaload, 1) := by decide +kernel
theorem dX6_isAhead_33 : decode cX6_isAhead 33 = .ok (.aload_n 0, 1) := by decide +kernel
theorem dX6_isAhead_34 : decode cX6_isAhead 34 = .ok (.getfield 7, 3) := by decide +kernel
theorem dX6_isAhead_37 : decode cX6_isAhead 37 = .ok (.iload_n 2, 1) := by decide +kernel
theorem dX6_isAhead_38 : decode cX6_isAhead 38 = .ok (.iconst 5, 1) := by decide +kernel
theorem dX6_isAhead_39 : decode cX6_isAhead 39 = .ok (.invokestatic 61, 3) := by decide +kernel
theorem dX6_isAhead_42 : decode cX6_isAhead 42 = .ok (.iaload, 1) := by decide +kernel
theorem dX6_isAhead_43 : decode cX6_isAhead 43 = .ok (.if_icmp .le 7, 3) := by decide +kernel
theorem dX6_isAhead_46 : decode cX6_isAhead 46 = .ok (.iconst 1, 1) := by decide +kernel
theorem dX6_isAhead_47 : decode cX6_isAhead 47 = .ok (.goto 4, 3) := by decide +kernel
theorem dX6_isAhead_50 : decode cX6_isAhead 50 = .ok (.iconst 0, 1) := by decide +kernel
theorem dX6_isAhead_51 : decode cX6_isAhead 51 = .ok (.ireturn, 1) := by decide +kernel
theorem dX6_isAhead_52 : decode cX6_isAhead 52 = .ok (.aload_n 0, 1) := by decide +kernel
theorem dX6_isAhead_53 : decode cX6_isAhead 53 = .ok (.getfield 7, 3) := by decide +kernel
theorem dX6_isAhead_56 : decode cX6_isAhead 56 = .ok (.iload_n 1, 1) := by decide +kernel
theorem dX6_isAhead_57 : decode cX6_isAhead 57 = .ok (.iconst 4, 1) := by decide +kernel
theorem dX6_isAhead_58 : decode cX6_isAhead 58 = .ok (.invokestatic 61, 3) := by decide +kernel
theorem dX6_isAhead_61 : decode cX6_isAhead 61 = .ok (.iaload, 1) := by decide +kernel
theorem dX6_isAhead_62 : decode cX6_isAhead 62 = .ok (.aload_n 0, 1) := by decide +kernel
theorem dX6_isAhead_63 : decode cX6_isAhead 63 = .ok (.getfield 7, 3) := by decide +kernel
theorem dX6_isAhead_66 : decode cX6_isAhead 66 = .ok (.iload_n 2, 1) := by decide +kernel
theorem dX6_isAhead_67 : decode cX6_isAhead 67 = .ok (.iconst 4, 1) := by decide +kernel
theorem dX6_isAhead_68 : decode cX6_isAhead 68 = .ok (.invokestatic 61, 3) := by decide +kernel
theorem dX6_isAhead_71 : decode cX6_isAhead 71 = .ok (.iaload, 1) := by decide +kernel
theorem dX6_isAhead_72 : decode cX6_isAhead 72 = .ok (.if_icmp .eq 34, 3) := by decide +kernel
theorem dX6_isAhead_75 : decode cX6_isAhead 75 = .ok (.aload_n 0, 1) := by decide +kernel
theorem dX6_isAhead_76 : decode cX6_isAhead 76 = .ok (.getfield 7, 3) := by decide +kernel
theorem dX6_isAhead_79 : decode cX6_isAhead 79 = .ok (.iload_n 1, 1) := by decide +kernel
theorem dX6_isAhead_80 : decode cX6_isAhead 80 = .ok (.iconst 4, 1) := by decide +kernel
theorem dX6_isAhead_81 : decode cX6_isAhead 81 = .ok (.invokestatic 61, 3) := by decide +kernel
theorem dX6_isAhead_84 : decode cX6_isAhead 84 = .ok (.iaload, 1) := by decide +kernel
theorem dX6_isAhead_85 : decode cX6_isAhead 85 = .ok (.aload_n 0, 1) := by decide +kernel
theorem dX6_isAhead_86 : decode cX6_isAhead 86 = .ok (.getfield 7, 3) := by decide +kernel
theorem dX6_isAhead_89 : decode cX6_isAhead 89 = .ok (.iload_n 2, 1) := by decide +kernel
theorem dX6_isAhead_90 : decode cX6_isAhead 90 = .ok (.iconst 4, 1) := by decide +kernel
theorem dX6_isAhead_91 : decode cX6_isAhead 91 = .ok (.invokestatic 61, 3) := by decide +kernel
theorem dX6_isAhead_94 : decode cX6_isAhead 94 = .ok (.iaload, 1) := by decide +kernel
theorem dX6_isAhead_95 : decode cX6_isAhead 95 = .ok (.if_icmp .le 7, 3) := by decide +kernel
theorem dX6_isAhead_98 : decode cX6_isAhead 98 = .ok (.iconst 1, 1) := by decide +kernel
theorem dX6_isAhead_99 : decode cX6_isAhead 99 = .ok (.goto 17, 3) := by decide +kernel
theorem dX6_isAhead_102 : decode cX6_isAhead 102 = .ok (.iconst 0, 1) := by decide +kernel
theorem dX6_isAhead_103 : decode cX6_isAhead 103 = .ok (.goto 13, 3) := by decide +kernel
theorem dX6_isAhead_106 : decode cX6_isAhead 106 = .ok (.iload_n 1, 1) := by decide +kernel
theorem dX6_isAhead_107 : decode cX6_isAhead 107 = .ok (.iload_n 2, 1) := by decide +kernel
theorem dX6_isAhead_108 : decode cX6_isAhead 108 = .ok (.if_icmp .ge 7, 3) := by decide +kernel
theorem dX6_isAhead_111 : decode cX6_isAhead 111 = .ok (.iconst 1, 1) := by decide +kernel
theorem dX6_isAhead_112 : decode cX6_isAhead 112 = .ok (.goto 4, 3) := by decide +kernel
theorem dX6_isAhead_115 : decode cX6_isAhead 115 = .ok (.iconst 0, 1) := by decide +kernel
theorem dX6_isAhead_116 : decode cX6_isAhead 116 = .ok (.ireturn, 1) := by decide +kernel
theorem dX6_ranked_0 : decode cX6_ranked 0 = .ok (.aload_n 0, 1) := by decide +kernel
theorem dX6_ranked_1 : decode cX6_ranked 1 = .ok (.iconst 0, 1) := by decide +kernel
theorem dX6_ranked_2 : decode cX6_ranked 2 = .ok (.putfield 43, 3) := by decide +kernel
theorem dX6_ranked_5 : decode cX6_ranked 5 = .ok (.iconst 0, 1) := by decide +kernel
theorem dX6_ranked_6 : decode cX6_ranked 6 = .ok (.istore_n 2, 1) := by decide +kernel
theorem dX6_ranked_7 : decode cX6_ranked 7 = .ok (.iload_n 2, 1) := by decide +kernel
theorem dX6_ranked_8 : decode cX6_ranked 8 = .ok (.aload_n 0, 1) := by decide +kernel
theorem dX6_ranked_9 : decode cX6_ranked 9 = .ok (.getfield 7, 3) := by decide +kernel
theorem dX6_ranked_12 : decode cX6_ranked 12 = .ok (.iconst 0, 1) := by decide +kernel
theorem dX6_ranked_13 : decode cX6_ranked 13 = .ok (.iaload, 1) := by decide +kernel
theorem dX6_ranked_14 : decode cX6_ranked 14 = .ok (.if_icmp .ge 56, 3) := by decide +kernel
theorem dX6_ranked_17 : decode cX6_ranked 17 = .ok (.iconst 0, 1) := by decide +kernel
theorem dX6_ranked_18 : decode cX6_ranked 18 = .ok (.istore_n 3, 1) := by decide +kernel
theorem dX6_ranked_19 : decode cX6_ranked 19 = .ok (.iconst 0, 1) := by decide +kernel
theorem dX6_ranked_20 : decode cX6_ranked 20 = .ok (.istore 4, 2) := by decide +kernel
theorem dX6_ranked_22 : decode cX6_ranked 22 = .ok (.iload 4, 2) := by decide +kernel
theorem dX6_ranked_24 : decode cX6_ranked 24 = .ok (.aload_n 0, 1) := by decide +kernel
theorem dX6_ranked_25 : decode cX6_ranked 25 = .ok (.getfield 7, 3) := by decide +kernel
theorem dX6_ranked_28 : decode cX6_ranked 28 = .ok (.iconst 0, 1) := by decide +kernel
theorem dX6_ranked_29 : decode cX6_ranked 29 = .ok (.iaload, 1) := by decide +kernel
theorem dX6_ranked_30 : decode cX6_ranked 30 = .ok (.if_icmp .ge 27, 3) := by decide +kernel
theorem dX6_ranked_33 : decode cX6_ranked 33 = .ok (.iload_n 3, 1) := by decide +kernel
theorem dX6_ranked_34 : decode cX6_ranked 34 = .ok (.aload_n 0, 1) := by decide +kernel
theorem dX6_ranked_35 : decode cX6_ranked 35 = .ok (.iload 4, 2) := by decide +kernel
theorem dX6_ranked_37 : decode cX6_ranked 37 = .ok (.iload_n 2, 1) := by decide +kernel
theorem dX6_ranked_38 : decode cX6_ranked 38 = .ok (.invokevirtual 160, 3) := by decide +kernel
theorem dX6_ranked_41 : decode cX6_ranked 41 = .ok (.ifCond .eq 7, 3) := by decide +kernel
theorem dX6_ranked_44 : decode cX6_ranked 44 = .ok (.iconst 1, 1) := by decide +kernel
theorem dX6_ranked_45 : decode cX6_ranked 45 = .ok (.goto 4, 3) := by decide +kernel
theorem dX6_ranked_48 : decode cX6_ranked 48 = .ok (.iconst 0, 1) := by decide +kernel
theorem dX6_ranked_49 : decode cX6_ranked 49 = .ok (.iadd, 1) := by decide +kernel
theorem dX6_ranked_50 : decode cX6_ranked 50 = .ok (.istore_n 3, 1) := by decide +kernel
theorem dX6_ranked_51 : decode cX6_ranked 51 = .ok (.iinc 4 1, 3) := by decide +kernel
theorem dX6_ranked_54 : decode cX6_ranked 54 = .ok (.goto (-32), 3) := by decide +kernel
theorem dX6_ranked_57 : decode cX6_ranked 57 = .ok (.iload_n 3, 1) := by decide +kernel
theorem dX6_ranked_58 : decode cX6_ranked 58 = .ok (.iload_n 1, 1) := by decide +kernel
theorem dX6_ranked_59 : decode cX6_ranked 59 = .ok (.if_icmp .ne 5, 3) := by decide +kernel
theorem dX6_ranked_62 : decode cX6_ranked 62 = .ok (.iload_n 2, 1) := by decide +kernel
theorem dX6_ranked_63 : decode cX6_ranked 63 = .ok (.ireturn, 1) := by decide +kernel
theorem dX6_ranked_64 : decode cX6_ranked 64 = .ok (.iinc 2 1, 3) := by decide +kernel
theorem dX6_ranked_67 : decode cX6_ranked 67 = .ok (.goto (-60), 3) := by decide +kernel
theorem dX6_ranked_70 : decode cX6_ranked 70 = .ok (.iconst (-1), 1) := by decide +kernel
theorem dX6_ranked_71 : decode cX6_ranked 71 = .ok (.ireturn, 1) := by decide +kernel
theorem dX6_costOf_0 : decode cX6_costOf 0 = .ok (.iload_n 3, 1) := by decide +kernel
theorem dX6_costOf_1 : decode cX6_costOf 1 = .ok (.ifCond .ne 7, 3) := by decide +kernel
theorem dX6_costOf_4 : decode cX6_costOf 4 = .ok (.iconst 0, 1) := by decide +kernel
theorem dX6_costOf_5 : decode cX6_costOf 5 = .ok (.goto 35, 3) := by decide +kernel
theorem dX6_costOf_8 : decode cX6_costOf 8 = .ok (.iload_n 3, 1) := by decide +kernel
theorem dX6_costOf_9 : decode cX6_costOf 9 = .ok (.iconst 1, 1) := by decide +kernel
theorem dX6_costOf_10 : decode cX6_costOf 10 = .ok (.if_icmp .ne 14, 3) := by decide +kernel
theorem dX6_costOf_13 : decode cX6_costOf 13 = .ok (.iconst 3, 1) := by decide +kernel
theorem dX6_costOf_14 : decode cX6_costOf 14 = .ok (.aload_n 0, 1) := by decide +kernel
theorem dX6_costOf_15 : decode cX6_costOf 15 = .ok (.iload_n 1, 1) := by decide +kernel
theorem dX6_costOf_16 : decode cX6_costOf 16 = .ok (.iload_n 2, 1) := by decide +kernel
theorem dX6_costOf_17 : decode cX6_costOf 17 = .ok (.invokevirtual 93, 3) := by decide +kernel
theorem dX6_costOf_20 : decode cX6_costOf 20 = .ok (.imul, 1) := by decide +kernel
theorem dX6_costOf_21 : decode cX6_costOf 21 = .ok (.goto 19, 3) := by decide +kernel
theorem dX6_costOf_24 : decode cX6_costOf 24 = .ok (.bipush 10, 2) := by decide +kernel
theorem dX6_costOf_26 : decode cX6_costOf 26 = .ok (.aload_n 0, 1) := by decide +kernel
theorem dX6_costOf_27 : decode cX6_costOf 27 = .ok (.iload_n 1, 1) := by decide +kernel
theorem dX6_costOf_28 : decode cX6_costOf 28 = .ok (.iload_n 2, 1) := by decide +kernel
theorem dX6_costOf_29 : decode cX6_costOf 29 = .ok (.invokevirtual 96, 3) := by decide +kernel
theorem dX6_costOf_32 : decode cX6_costOf 32 = .ok (.imul, 1) := by decide +kernel
theorem dX6_costOf_33 : decode cX6_costOf 33 = .ok (.aload_n 0, 1) := by decide +kernel
theorem dX6_costOf_34 : decode cX6_costOf 34 = .ok (.iload_n 1, 1) := by decide +kernel
theorem dX6_costOf_35 : decode cX6_costOf 35 = .ok (.iload_n 2, 1) := by decide +kernel
theorem dX6_costOf_36 : decode cX6_costOf 36 = .ok (.invokevirtual 84, 3) := by decide +kernel
theorem dX6_costOf_39 : decode cX6_costOf 39 = .ok (.iadd, 1) := by decide +kernel
theorem dX6_costOf_40 : decode cX6_costOf 40 = .ok (.ireturn, 1) := by decide +kernel
theorem dX6_bestWay_0 : decode cX6_bestWay 0 = .ok (.aload_n 0, 1) := by decide +kernel
theorem dX6_bestWay_1 : decode cX6_bestWay 1 = .ok (.aload_n 0, 1) := by decide +kernel
theorem dX6_bestWay_2 : decode cX6_bestWay 2 = .ok (.iload_n 1, 1) := by decide +kernel
theorem dX6_bestWay_3 : decode cX6_bestWay 3 = .ok (.iload_n 2, 1) := by decide +kernel
theorem dX6_bestWay_4 : decode cX6_bestWay 4 = .ok (.iload_n 3, 1) := by decide +kernel
theorem dX6_bestWay_5 : decode cX6_bestWay 5 = .ok (.invokevirtual 139, 3) := by decide +kernel
theorem dX6_bestWay_8 : decode cX6_bestWay 8 = .ok (.putfield 43, 3) := by decide +kernel
theorem dX6_bestWay_11 : decode cX6_bestWay 11 = .ok (.aload_n 0, 1) := by decide +kernel
theorem dX6_bestWay_12 : decode cX6_bestWay 12 = .ok (.getfield 43, 3) := by decide +kernel
theorem dX6_bestWay_15 : decode cX6_bestWay 15 = .ok (.ifCond .le 5, 3) := by decide +kernel
theorem dX6_bestWay_18 : decode cX6_bestWay 18 = .ok (.iconst 0, 1) := by decide +kernel
theorem dX6_bestWay_19 : decode cX6_bestWay 19 = .ok (.ireturn, 1) := by decide +kernel
theorem dX6_bestWay_20 : decode cX6_bestWay 20 = .ok (.iconst (-1), 1) := by decide +kernel
theorem dX6_bestWay_21 : decode cX6_bestWay 21 = .ok (.istore 4, 2) := by decide +kernel
theorem dX6_bestWay_23 : decode cX6_bestWay 23 = .ok (.iconst 0, 1) := by decide +kernel
theorem dX6_bestWay_24 : decode cX6_bestWay 24 = .ok (.istore 5, 2) := by decide +kernel
theorem dX6_bestWay_26 : decode cX6_bestWay 26 = .ok (.iload 5, 2) := by decide +kernel
theorem dX6_bestWay_28 : decode cX6_bestWay 28 = .ok (.iconst 2, 1) := by decide +kernel
theorem dX6_bestWay_29 : decode cX6_bestWay 29 = .ok (.if_icmp .gt 53, 3) := by decide +kernel
theorem dX6_bestWay_32 : decode cX6_bestWay 32 = .ok (.aload_n 0, 1) := by decide +kernel
theorem dX6_bestWay_33 : decode cX6_bestWay 33 = .ok (.iload_n 1, 1) := by decide +kernel
theorem dX6_bestWay_34 : decode cX6_bestWay 34 = .ok (.iload_n 2, 1) := by decide +kernel
theorem dX6_bestWay_35 : decode cX6_bestWay 35 = .ok (.iload_n 3, 1) := by decide +kernel
theorem dX6_bestWay_36 : decode cX6_bestWay 36 = .ok (.iload 5, 2) := by decide +kernel
theorem dX6_bestWay_38 : decode cX6_bestWay 38 = .ok (.invokevirtual 143, 3) := by decide +kernel
theorem dX6_bestWay_41 : decode cX6_bestWay 41 = .ok (.ifCond .eq 6, 3) := by decide +kernel
theorem dX6_bestWay_44 : decode cX6_bestWay 44 = .ok (.goto 32, 3) := by decide +kernel
theorem dX6_bestWay_47 : decode cX6_bestWay 47 = .ok (.iload 4, 2) := by decide +kernel
theorem dX6_bestWay_49 : decode cX6_bestWay 49 = .ok (.iconst (-1), 1) := by decide +kernel
theorem dX6_bestWay_50 : decode cX6_bestWay 50 = .ok (.if_icmp .eq 22, 3) := by decide +kernel
theorem dX6_bestWay_53 : decode cX6_bestWay 53 = .ok (.aload_n 0, 1) := by decide +kernel
theorem dX6_bestWay_54 : decode cX6_bestWay 54 = .ok (.iload_n 1, 1) := by decide +kernel
theorem dX6_bestWay_55 : decode cX6_bestWay 55 = .ok (.iload_n 3, 1) := by decide +kernel
theorem dX6_bestWay_56 : decode cX6_bestWay 56 = .ok (.iload 5, 2) := by decide +kernel
theorem dX6_bestWay_58 : decode cX6_bestWay 58 = .ok (.invokevirtual 164, 3) := by decide +kernel
theorem dX6_bestWay_61 : decode cX6_bestWay 61 = .ok (.aload_n 0, 1) := by decide +kernel
theorem dX6_bestWay_62 : decode cX6_bestWay 62 = .ok (.iload_n 1, 1) := by decide +kernel
theorem dX6_bestWay_63 : decode cX6_bestWay 63 = .ok (.iload_n 3, 1) := by decide +kernel
theorem dX6_bestWay_64 : decode cX6_bestWay 64 = .ok (.iload 4, 2) := by decide +kernel
theorem dX6_bestWay_66 : decode cX6_bestWay 66 = .ok (.invokevirtual 164, 3) := by decide +kernel
theorem dX6_bestWay_69 : decode cX6_bestWay 69 = .ok (.if_icmp .ge 7, 3) := by decide +kernel
theorem dX6_bestWay_72 : decode cX6_bestWay 72 = .ok (.iload 5, 2) := by decide +kernel
theorem dX6_bestWay_74 : decode cX6_bestWay 74 = .ok (.istore 4, 2) := by decide +kernel
theorem dX6_bestWay_76 : decode cX6_bestWay 76 = .ok (.iinc 5 1, 3) := by decide +kernel
theorem dX6_bestWay_79 : decode cX6_bestWay 79 = .ok (.goto (-53), 3) := by decide +kernel
theorem dX6_bestWay_82 : decode cX6_bestWay 82 = .ok (.iload 4, 2) := by decide +kernel
theorem dX6_bestWay_84 : decode cX6_bestWay 84 = .ok (.ireturn, 1) := by decide +kernel
theorem dX6_speechIn_0 : decode cX6_speechIn 0 = .ok (.aload_n 0, 1) := by decide +kernel
theorem dX6_speechIn_1 : decode cX6_speechIn 1 = .ok (.iconst 0, 1) := by decide +kernel
theorem dX6_speechIn_2 : decode cX6_speechIn 2 = .ok (.putfield 43, 3) := by decide +kernel
theorem dX6_speechIn_5 : decode cX6_speechIn 5 = .ok (.iconst 0, 1) := by decide +kernel
theorem dX6_speechIn_6 : decode cX6_speechIn 6 = .ok (.istore_n 1, 1) := by decide +kernel
theorem dX6_speechIn_7 : decode cX6_speechIn 7 = .ok (.iload_n 1, 1) := by decide +kernel
theorem dX6_speechIn_8 : decode cX6_speechIn 8 = .ok (.bipush 24, 2) := by decide +kernel
theorem dX6_speechIn_10 : decode cX6_speechIn 10 = .ok (.if_icmp .ge 29, 3) := by decide +kernel
theorem dX6_speechIn_13 : decode cX6_speechIn 13 = .ok (.aload_n 0, 1) := by decide +kernel
theorem dX6_speechIn_14 : decode cX6_speechIn 14 = .ok (.aload_n 0, 1) := by decide +kernel
theorem dX6_speechIn_15 : decode cX6_speechIn 15 = .ok (.getfield 7, 3) := by decide +kernel
theorem dX6_speechIn_18 : decode cX6_speechIn 18 = .ok (.iconst 4, 1) := by decide +kernel
theorem dX6_speechIn_19 : decode cX6_speechIn 19 = .ok (.iaload, 1) := by decide +kernel
theorem dX6_speechIn_20 : decode cX6_speechIn 20 = .ok (.iload_n 1, 1) := by decide +kernel
theorem dX6_speechIn_21 : decode cX6_speechIn 21 = .ok (.iadd, 1) := by decide +kernel
theorem dX6_speechIn_22 : decode cX6_speechIn 22 = .ok (.bipush 24, 2) := by decide +kernel
theorem dX6_speechIn_24 : decode cX6_speechIn 24 = .ok (.irem, 1) := by decide +kernel
theorem dX6_speechIn_25 : decode cX6_speechIn 25 = .ok (.invokevirtual 68, 3) := by decide +kernel
theorem dX6_speechIn_28 : decode cX6_speechIn 28 = .ok (.ifCond .eq 5, 3) := by decide +kernel
theorem dX6_speechIn_31 : decode cX6_speechIn 31 = .ok (.iload_n 1, 1) := by decide +kernel
theorem dX6_speechIn_32 : decode cX6_speechIn 32 = .ok (.ireturn, 1) := by decide +kernel
theorem dX6_speechIn_33 : decode cX6_speechIn 33 = .ok (.iinc 1 1, 3) := by decide +kernel
theorem dX6_speechIn_36 : decode cX6_speechIn 36 = .ok (.goto (-29), 3) := by decide +kernel
theorem dX6_speechIn_39 : decode cX6_speechIn 39 = .ok (.iconst (-1), 1) := by decide +kernel
theorem dX6_speechIn_40 : decode cX6_speechIn 40 = .ok (.ireturn, 1) := by decide +kernel
theorem dX6_fastIn_0 : decode cX6_fastIn 0 = .ok (.aload_n 0, 1) := by decide +kernel
theorem dX6_fastIn_1 : decode cX6_fastIn 1 = .ok (.iload_n 1, 1) := by decide +kernel
theorem dX6_fastIn_2 : decode cX6_fastIn 2 = .ok (.iconst 0, 1) := by decide +kernel
theorem dX6_fastIn_3 : decode cX6_fastIn 3 = .ok (.sipush 999, 3) := by decide +kernel
theorem dX6_fastIn_6 : decode cX6_fastIn 6 = .ok (.invokestatic 53, 3) := by decide +kernel
theorem dX6_fastIn_9 : decode cX6_fastIn 9 = .ok (.ifCond .eq 7, 3) := by decide +kernel
theorem dX6_fastIn_12 : decode cX6_fastIn 12 = .ok (.iconst 0, 1) := by decide +kernel
theorem dX6_fastIn_13 : decode cX6_fastIn 13 = .ok (.goto 4, 3) := by decide +kernel
theorem dX6_fastIn_16 : decode cX6_fastIn 16 = .ok (.iconst 1, 1) := by decide +kernel
theorem dX6_fastIn_17 : decode cX6_fastIn 17 = .ok (.putfield 43, 3) := by decide +kernel
theorem dX6_fastIn_20 : decode cX6_fastIn 20 = .ok (.aload_n 0, 1) := by decide +kernel
theorem dX6_fastIn_21 : decode cX6_fastIn 21 = .ok (.getfield 43, 3) := by decide +kernel
theorem dX6_fastIn_24 : decode cX6_fastIn 24 = .ok (.ifCond .le 5, 3) := by decide +kernel
theorem dX6_fastIn_27 : decode cX6_fastIn 27 = .ok (.iconst 0, 1) := by decide +kernel
theorem dX6_fastIn_28 : decode cX6_fastIn 28 = .ok (.ireturn, 1) := by decide +kernel
theorem dX6_fastIn_29 : decode cX6_fastIn 29 = .ok (.aload_n 0, 1) := by decide +kernel
theorem dX6_fastIn_30 : decode cX6_fastIn 30 = .ok (.getfield 7, 3) := by decide +kernel
theorem dX6_fastIn_33 : decode cX6_fastIn 33 = .ok (.iconst 4, 1) := by decide +kernel
theorem dX6_fastIn_34 : decode cX6_fastIn 34 = .ok (.iaload, 1) := by decide +kernel
theorem dX6_fastIn_35 : decode cX6_fastIn 35 = .ok (.bipush 24, 2) := by decide +kernel
theorem dX6_fastIn_37 : decode cX6_fastIn 37 = .ok (.irem, 1) := by decide +kernel
theorem dX6_fastIn_38 : decode cX6_fastIn 38 = .ok (.iload_n 1, 1) := by decide +kernel
theorem dX6_fastIn_39 : decode cX6_fastIn 39 = .ok (.iadd, 1) := by decide +kernel
theorem dX6_fastIn_40 : decode cX6_fastIn 40 = .ok (.bipush 24, 2) := by decide +kernel
theorem dX6_fastIn_42 : decode cX6_fastIn 42 = .ok (.idiv, 1) := by decide +kernel
theorem dX6_fastIn_43 : decode cX6_fastIn 43 = .ok (.istore_n 2, 1) := by decide +kernel
theorem dX6_fastIn_44 : decode cX6_fastIn 44 = .ok (.iconst 0, 1) := by decide +kernel
theorem dX6_fastIn_45 : decode cX6_fastIn 45 = .ok (.istore_n 3, 1) := by decide +kernel
theorem dX6_fastIn_46 : decode cX6_fastIn 46 = .ok (.iconst 0, 1) := by decide +kernel
theorem dX6_fastIn_47 : decode cX6_fastIn 47 = .ok (.istore 4, 2) := by decide +kernel
theorem dX6_fastIn_49 : decode cX6_fastIn 49 = .ok (.iload 4, 2) := by decide +kernel
theorem dX6_fastIn_51 : decode cX6_fastIn 51 = .ok (.aload_n 0, 1) := by decide +kernel
theorem dX6_fastIn_52 : decode cX6_fastIn 52 = .ok (.getfield 7, 3) := by decide +kernel
theorem dX6_fastIn_55 : decode cX6_fastIn 55 = .ok (.iconst 0, 1) := by decide +kernel
theorem dX6_fastIn_56 : decode cX6_fastIn 56 = .ok (.iaload, 1) := by decide +kernel
theorem dX6_fastIn_57 : decode cX6_fastIn 57 = .ok (.if_icmp .ge 46, 3) := by decide +kernel
theorem dX6_fastIn_60 : decode cX6_fastIn 60 = .ok (.iload_n 3, 1) := by decide +kernel
theorem dX6_fastIn_61 : decode cX6_fastIn 61 = .ok (.iconst 0, 1) := by decide +kernel
theorem dX6_fastIn_62 : decode cX6_fastIn 62 = .ok (.aload_n 0, 1) := by decide +kernel
theorem dX6_fastIn_63 : decode cX6_fastIn 63 = .ok (.getfield 7, 3) := by decide +kernel
theorem dX6_fastIn_66 : decode cX6_fastIn 66 = .ok (.iload 4, 2) := by decide +kernel
theorem dX6_fastIn_68 : decode cX6_fastIn 68 = .ok (.iconst 5, 1) := by decide +kernel
theorem dX6_fastIn_69 : decode cX6_fastIn 69 = .ok (.invokestatic 61, 3) := by decide +kernel
theorem dX6_fastIn_72 : decode cX6_fastIn 72 = .ok (.iaload, 1) := by decide +kernel
theorem dX6_fastIn_73 : decode cX6_fastIn 73 = .ok (.iconst 0, 1) := by decide +kernel
theorem dX6_fastIn_74 : decode cX6_fastIn 74 = .ok (.iload_n 2, 1) := by decide +kernel
theorem dX6_fastIn_75 : decode cX6_fastIn 75 = .ok (.aload_n 0, 1) := by decide +kernel
theorem dX6_fastIn_76 : decode cX6_fastIn 76 = .ok (.getfield 7, 3) := by decide +kernel
theorem dX6_fastIn_79 : decode cX6_fastIn 79 = .ok (.iload 4, 2) := by decide +kernel
theorem dX6_fastIn_81 : decode cX6_fastIn 81 = .ok (.bipush 7, 2) := by decide +kernel
theorem dX6_fastIn_83 : decode cX6_fastIn 83 = .ok (.invokestatic 61, 3) := by decide +kernel
theorem dX6_fastIn_86 : decode cX6_fastIn 86 = .ok (.iaload, 1) := by decide +kernel
theorem dX6_fastIn_87 : decode cX6_fastIn 87 = .ok (.isub, 1) := by decide +kernel
theorem dX6_fastIn_88 : decode cX6_fastIn 88 = .ok (.invokestatic 167, 3) := by decide +kernel
theorem dX6_fastIn_91 : decode cX6_fastIn 91 = .ok (.isub, 1) := by decide +kernel
theorem dX6_fastIn_92 : decode cX6_fastIn 92 = .ok (.invokestatic 167, 3) := by decide +kernel
theorem dX6_fastIn_95 : decode cX6_fastIn 95 = .ok (.iadd, 1) := by decide +kernel
theorem dX6_fastIn_96 : decode cX6_fastIn 96 = .ok (.istore_n 3, 1) := by decide +kernel
theorem dX6_fastIn_97 : decode cX6_fastIn 97 = .ok (.iinc 4 1, 3) := by decide +kernel
theorem dX6_fastIn_100 : decode cX6_fastIn 100 = .ok (.goto (-51), 3) := by decide +kernel
theorem dX6_fastIn_103 : decode cX6_fastIn 103 = .ok (.iload_n 3, 1) := by decide +kernel
theorem dX6_fastIn_104 : decode cX6_fastIn 104 = .ok (.ireturn, 1) := by decide +kernel
theorem dX6_freeIn_0 : decode cX6_freeIn 0 = .ok (.aload_n 0, 1) := by decide +kernel
theorem dX6_freeIn_1 : decode cX6_freeIn 1 = .ok (.aload_n 0, 1) := by decide +kernel
theorem dX6_freeIn_2 : decode cX6_freeIn 2 = .ok (.iload_n 1, 1) := by decide +kernel
theorem dX6_freeIn_3 : decode cX6_freeIn 3 = .ok (.invokevirtual 124, 3) := by decide +kernel
theorem dX6_freeIn_6 : decode cX6_freeIn 6 = .ok (.ifCond .eq 7, 3) := by decide +kernel
theorem dX6_freeIn_9 : decode cX6_freeIn 9 = .ok (.iconst 0, 1) := by decide +kernel
theorem dX6_freeIn_10 : decode cX6_freeIn 10 = .ok (.goto 4, 3) := by decide +kernel
theorem dX6_freeIn_13 : decode cX6_freeIn 13 = .ok (.iconst 1, 1) := by decide +kernel
theorem dX6_freeIn_14 : decode cX6_freeIn 14 = .ok (.putfield 43, 3) := by decide +kernel
theorem dX6_freeIn_17 : decode cX6_freeIn 17 = .ok (.aload_n 0, 1) := by decide +kernel
theorem dX6_freeIn_18 : decode cX6_freeIn 18 = .ok (.getfield 43, 3) := by decide +kernel
theorem dX6_freeIn_21 : decode cX6_freeIn 21 = .ok (.ifCond .gt 16, 3) := by decide +kernel
theorem dX6_freeIn_24 : decode cX6_freeIn 24 = .ok (.aload_n 0, 1) := by decide +kernel
theorem dX6_freeIn_25 : decode cX6_freeIn 25 = .ok (.getfield 7, 3) := by decide +kernel
theorem dX6_freeIn_28 : decode cX6_freeIn 28 = .ok (.iload_n 1, 1) := by decide +kernel
theorem dX6_freeIn_29 : decode cX6_freeIn 29 = .ok (.iconst 5, 1) := by decide +kernel
theorem dX6_freeIn_30 : decode cX6_freeIn 30 = .ok (.invokestatic 61, 3) := by decide +kernel
theorem dX6_freeIn_33 : decode cX6_freeIn 33 = .ok (.iaload, 1) := by decide +kernel
theorem dX6_freeIn_34 : decode cX6_freeIn 34 = .ok (.ifCond .ne 5, 3) := by decide +kernel
theorem dX6_freeIn_37 : decode cX6_freeIn 37 = .ok (.iconst 0, 1) := by decide +kernel
theorem dX6_freeIn_38 : decode cX6_freeIn 38 = .ok (.ireturn, 1) := by decide +kernel
theorem dX6_freeIn_39 : decode cX6_freeIn 39 = .ok (.bipush 24, 2) := by decide +kernel
theorem dX6_freeIn_41 : decode cX6_freeIn 41 = .ok (.aload_n 0, 1) := by decide +kernel
theorem dX6_freeIn_42 : decode cX6_freeIn 42 = .ok (.getfield 7, 3) := by decide +kernel
theorem dX6_freeIn_45 : decode cX6_freeIn 45 = .ok (.iload_n 1, 1) := by decide +kernel
theorem dX6_freeIn_46 : decode cX6_freeIn 46 = .ok (.iconst 5, 1) := by decide +kernel
theorem dX6_freeIn_47 : decode cX6_freeIn 47 = .ok (.invokestatic 61, 3) := by decide +kernel
theorem dX6_freeIn_50 : decode cX6_freeIn 50 = .ok (.iaload, 1) := by decide +kernel
theorem dX6_freeIn_51 : decode cX6_freeIn 51 = .ok (.aload_n 0, 1) := by decide +kernel
theorem dX6_freeIn_52 : decode cX6_freeIn 52 = .ok (.getfield 7, 3) := by decide +kernel
theorem dX6_freeIn_55 : decode cX6_freeIn 55 = .ok (.iload_n 1, 1) := by decide +kernel
theorem dX6_freeIn_56 : decode cX6_freeIn 56 = .ok (.bipush 7, 2) := by decide +kernel
theorem dX6_freeIn_58 : decode cX6_freeIn 58 = .ok (.invokestatic 61, 3) := by decide +kernel
theorem dX6_freeIn_61 : decode cX6_freeIn 61 = .ok (.iaload, 1) := by decide +kernel
theorem dX6_freeIn_62 : decode cX6_freeIn 62 = .ok (.iadd, 1) := by decide +kernel
theorem dX6_freeIn_63 : decode cX6_freeIn 63 = .ok (.imul, 1) := by decide +kernel
theorem dX6_freeIn_64 : decode cX6_freeIn 64 = .ok (.aload_n 0, 1) := by decide +kernel
theorem dX6_freeIn_65 : decode cX6_freeIn 65 = .ok (.getfield 7, 3) := by decide +kernel
theorem dX6_freeIn_68 : decode cX6_freeIn 68 = .ok (.iconst 4, 1) := by decide +kernel
theorem dX6_freeIn_69 : decode cX6_freeIn 69 = .ok (.iaload, 1) := by decide +kernel
theorem dX6_freeIn_70 : decode cX6_freeIn 70 = .ok (.bipush 24, 2) := by decide +kernel
theorem dX6_freeIn_72 : decode cX6_freeIn 72 = .ok (.irem, 1) := by decide +kernel
theorem dX6_freeIn_73 : decode cX6_freeIn 73 = .ok (.isub, 1) := by decide +kernel
theorem dX6_freeIn_74 : decode cX6_freeIn 74 = .ok (.ireturn, 1) := by decide +kernel
theorem dX6_hoursWithBell_0 : decode cX6_hoursWithBell 0 = .ok (.aload_n 0, 1) := by decide +kernel
theorem dX6_hoursWithBell_1 : decode cX6_hoursWithBell 1 = .ok (.getfield 7, 3) := by decide +kernel
theorem dX6_hoursWithBell_4 : decode cX6_hoursWithBell 4 = .ok (.bipush 20, 2) := by decide +kernel
theorem dX6_hoursWithBell_6 : decode cX6_hoursWithBell 6 = .ok (.iload_n 1, 1) := by decide +kernel
theorem dX6_hoursWithBell_7 : decode cX6_hoursWithBell 7 = .ok (.iadd, 1) := by decide +kernel
theorem dX6_hoursWithBell_8 : decode cX6_hoursWithBell 8 = .ok (.iaload, 1) := by decide +kernel
theorem dX6_hoursWithBell_9 : decode cX6_hoursWithBell 9 = .ok (.istore_n 2, 1) := by decide +kernel
theorem dX6_hoursWithBell_10 : decode cX6_hoursWithBell 10 = .ok (.aload_n 0, 1) := by decide +kernel
theorem dX6_hoursWithBell_11 : decode cX6_hoursWithBell 11 = .ok (.getfield 7, 3) := by decide +kernel
theorem dX6_hoursWithBell_14 : decode cX6_hoursWithBell 14 = .ok (.bipush 20, 2) := by decide +kernel
theorem dX6_hoursWithBell_16 : decode cX6_hoursWithBell 16 = .ok (.iload_n 1, 1) := by decide +kernel
theorem dX6_hoursWithBell_17 : decode cX6_hoursWithBell 17 = .ok (.iadd, 1) := by decide +kernel
theorem dX6_hoursWithBell_18 : decode cX6_hoursWithBell 18 = .ok (.iconst 2, 1) := by decide +kernel
theorem dX6_hoursWithBell_19 : decode cX6_hoursWithBell 19 = .ok (.iastore, 1) := by decide +kernel
theorem dX6_hoursWithBell_20 : decode cX6_hoursWithBell 20 = .ok (.aload_n 0, 1) := by decide +kernel
theorem dX6_hoursWithBell_21 : decode cX6_hoursWithBell 21 = .ok (.invokevirtual 115, 3) := by decide +kernel
theorem dX6_hoursWithBell_24 : decode cX6_hoursWithBell 24 = .ok (.istore_n 3, 1) := by decide +kernel
theorem dX6_hoursWithBell_25 : decode cX6_hoursWithBell 25 = .ok (.aload_n 0, 1) := by decide +kernel
theorem dX6_hoursWithBell_26 : decode cX6_hoursWithBell 26 = .ok (.getfield 7, 3) := by decide +kernel
theorem dX6_hoursWithBell_29 : decode cX6_hoursWithBell 29 = .ok (.bipush 20, 2) := by decide +kernel
theorem dX6_hoursWithBell_31 : decode cX6_hoursWithBell 31 = .ok (.iload_n 1, 1) := by decide +kernel
theorem dX6_hoursWithBell_32 : decode cX6_hoursWithBell 32 = .ok (.iadd, 1) := by decide +kernel
theorem dX6_hoursWithBell_33 : decode cX6_hoursWithBell 33 = .ok (.iload_n 2, 1) := by decide +kernel
theorem dX6_hoursWithBell_34 : decode cX6_hoursWithBell 34 = .ok (.iastore, 1) := by decide +kernel
theorem dX6_hoursWithBell_35 : decode cX6_hoursWithBell 35 = .ok (.iload_n 3, 1) := by decide +kernel
theorem dX6_hoursWithBell_36 : decode cX6_hoursWithBell 36 = .ok (.ireturn, 1) := by decide +kernel
theorem dX6_bestBell_0 : decode cX6_bestBell 0 = .ok (.aload_n 0, 1) := by decide +kernel
theorem dX6_bestBell_1 : decode cX6_bestBell 1 = .ok (.iconst 0, 1) := by decide +kernel
theorem dX6_bestBell_2 : decode cX6_bestBell 2 = .ok (.putfield 43, 3) := by decide +kernel
theorem dX6_bestBell_5 : decode cX6_bestBell 5 = .ok (.iconst 0, 1) := by decide +kernel
theorem dX6_bestBell_6 : decode cX6_bestBell 6 = .ok (.istore_n 1, 1) := by decide +kernel
theorem dX6_bestBell_7 : decode cX6_bestBell 7 = .ok (.iconst 1, 1) := by decide +kernel
theorem dX6_bestBell_8 : decode cX6_bestBell 8 = .ok (.istore_n 2, 1) := by decide +kernel
theorem dX6_bestBell_9 : decode cX6_bestBell 9 = .ok (.iload_n 2, 1) := by decide +kernel
theorem dX6_bestBell_10 : decode cX6_bestBell 10 = .ok (.bipush 24, 2) := by decide +kernel
theorem dX6_bestBell_12 : decode cX6_bestBell 12 = .ok (.if_icmp .ge 24, 3) := by decide +kernel
theorem dX6_bestBell_15 : decode cX6_bestBell 15 = .ok (.aload_n 0, 1) := by decide +kernel
theorem dX6_bestBell_16 : decode cX6_bestBell 16 = .ok (.iload_n 2, 1) := by decide +kernel
theorem dX6_bestBell_17 : decode cX6_bestBell 17 = .ok (.invokevirtual 170, 3) := by decide +kernel
theorem dX6_bestBell_20 : decode cX6_bestBell 20 = .ok (.aload_n 0, 1) := by decide +kernel
theorem dX6_bestBell_21 : decode cX6_bestBell 21 = .ok (.iload_n 1, 1) := by decide +kernel
theorem dX6_bestBell_22 : decode cX6_bestBell 22 = .ok (.invokevirtual 170, 3) := by decide +kernel
theorem dX6_bestBell_25 : decode cX6_bestBell 25 = .ok (.if_icmp .le 5, 3) := by decide +kernel
theorem dX6_bestBell_28 : decode cX6_bestBell 28 = .ok (.iload_n 2, 1) := by decide +kernel
theorem dX6_bestBell_29 : decode cX6_bestBell 29 = .ok (.istore_n 1, 1) := by decide +kernel
theorem dX6_bestBell_30 : decode cX6_bestBell 30 = .ok (.iinc 2 1, 3) := by decide +kernel
theorem dX6_bestBell_33 : decode cX6_bestBell 33 = .ok (.goto (-24), 3) := by decide +kernel
theorem dX6_bestBell_36 : decode cX6_bestBell 36 = .ok (.iload_n 1, 1) := by decide +kernel
theorem dX6_bestBell_37 : decode cX6_bestBell 37 = .ok (.ireturn, 1) := by decide +kernel
theorem dX6_metBy_0 : decode cX6_metBy 0 = .ok (.iconst 0, 1) := by decide +kernel
theorem dX6_metBy_1 : decode cX6_metBy 1 = .ok (.istore_n 2, 1) := by decide +kernel
theorem dX6_metBy_2 : decode cX6_metBy 2 = .ok (.iconst 0, 1) := by decide +kernel
theorem dX6_metBy_3 : decode cX6_metBy 3 = .ok (.istore_n 3, 1) := by decide +kernel
theorem dX6_metBy_4 : decode cX6_metBy 4 = .ok (.iload_n 3, 1) := by decide +kernel
theorem dX6_metBy_5 : decode cX6_metBy 5 = .ok (.aload_n 0, 1) := by decide +kernel
theorem dX6_metBy_6 : decode cX6_metBy 6 = .ok (.getfield 7, 3) := by decide +kernel
theorem dX6_metBy_9 : decode cX6_metBy 9 = .ok (.iconst 0, 1) := by decide +kernel
theorem dX6_metBy_10 : decode cX6_metBy 10 = .ok (.iaload, 1) := by decide +kernel
theorem dX6_metBy_11 : decode cX6_metBy 11 = .ok (.if_icmp .ge 78, 3) := by decide +kernel
theorem dX6_metBy_14 : decode cX6_metBy 14 = .ok (.iload_n 3, 1) := by decide +kernel
theorem dX6_metBy_15 : decode cX6_metBy 15 = .ok (.iload_n 1, 1) := by decide +kernel
theorem dX6_metBy_16 : decode cX6_metBy 16 = .ok (.if_icmp .eq 67, 3) := by decide +kernel
theorem dX6_metBy_19 : decode cX6_metBy 19 = .ok (.aload_n 0, 1) := by decide +kernel
theorem dX6_metBy_20 : decode cX6_metBy 20 = .ok (.getfield 7, 3) := by decide +kernel
theorem dX6_metBy_23 : decode cX6_metBy 23 = .ok (.iload_n 3, 1) := by decide +kernel
theorem dX6_metBy_24 : decode cX6_metBy 24 = .ok (.iconst 1, 1) := by decide +kernel
theorem dX6_metBy_25 : decode cX6_metBy 25 = .ok (.invokestatic 61, 3) := by decide +kernel
theorem dX6_metBy_28 : decode cX6_metBy 28 = .ok (.iaload, 1) := by decide +kernel
theorem dX6_metBy_29 : decode cX6_metBy 29 = .ok (.aload_n 0, 1) := by decide +kernel
theorem dX6_metBy_30 : decode cX6_metBy 30 = .ok (.getfield 7, 3) := by decide +kernel
theorem dX6_metBy_33 : decode cX6_metBy 33 = .ok (.iload_n 1, 1) := by decide +kernel
theorem dX6_metBy_34 : decode cX6_metBy 34 = .ok (.iconst 1, 1) := by decide +kernel
theorem dX6_metBy_35 : decode cX6_metBy 35 = .ok (.invokestatic 61, 3) := by decide +kernel
theorem dX6_metBy_38 : decode cX6_metBy 38 = .ok (.iaload, 1) := by decide +kernel
theorem dX6_metBy_39 : decode cX6_metBy 39 = .ok (.if_icmp .le 6, 3) := by decide +kernel
theorem dX6_metBy_42 : decode cX6_metBy 42 = .ok (.goto 41, 3) := by decide +kernel
theorem dX6_metBy_45 : decode cX6_metBy 45 = .ok (.iload_n 2, 1) := by decide +kernel
theorem dX6_metBy_46 : decode cX6_metBy 46 = .ok (.aload_n 0, 1) := by decide +kernel
theorem dX6_metBy_47 : decode cX6_metBy 47 = .ok (.getfield 7, 3) := by decide +kernel
theorem dX6_metBy_50 : decode cX6_metBy 50 = .ok (.iload_n 3, 1) := by decide +kernel
theorem dX6_metBy_51 : decode cX6_metBy 51 = .ok (.iconst 3, 1) := by decide +kernel
theorem dX6_metBy_52 : decode cX6_metBy 52 = .ok (.invokestatic 61, 3) := by decide +kernel
theorem dX6_metBy_55 : decode cX6_metBy 55 = .ok (.iaload, 1) := by decide +kernel
theorem dX6_metBy_56 : decode cX6_metBy 56 = .ok (.aload_n 0, 1) := by decide +kernel
theorem dX6_metBy_57 : decode cX6_metBy 57 = .ok (.getfield 7, 3) := by decide +kernel
theorem dX6_metBy_60 : decode cX6_metBy 60 = .ok (.iload_n 3, 1) := by decide +kernel
theorem dX6_metBy_61 : decode cX6_metBy 61 = .ok (.iconst 2, 1) := by decide +kernel
theorem dX6_metBy_62 : decode cX6_metBy 62 = .ok (.invokestatic 61, 3) := by decide +kernel
theorem dX6_metBy_65 : decode cX6_metBy 65 = .ok (.iaload, 1) := by decide +kernel
theorem dX6_metBy_66 : decode cX6_metBy 66 = .ok (.iand, 1) := by decide +kernel
theorem dX6_metBy_67 : decode cX6_metBy 67 = .ok (.aload_n 0, 1) := by decide +kernel
theorem dX6_metBy_68 : decode cX6_metBy 68 = .ok (.getfield 7, 3) := by decide +kernel
theorem dX6_metBy_71 : decode cX6_metBy 71 = .ok (.iload_n 1, 1) := by decide +kernel
theorem dX6_metBy_72 : decode cX6_metBy 72 = .ok (.iconst 2, 1) := by decide +kernel
theorem dX6_metBy_73 : decode cX6_metBy 73 = .ok (.invokestatic 61, 3) := by decide +kernel
theorem dX6_metBy_76 : decode cX6_metBy 76 = .ok (.iaload, 1) := by decide +kernel
theorem dX6_metBy_77 : decode cX6_metBy 77 = .ok (.iand, 1) := by decide +kernel
theorem dX6_metBy_78 : decode cX6_metBy 78 = .ok (.invokestatic 99, 3) := by decide +kernel
theorem dX6_metBy_81 : decode cX6_metBy 81 = .ok (.iadd, 1) := by decide +kernel
theorem dX6_metBy_82 : decode cX6_metBy 82 = .ok (.istore_n 2, 1) := by decide +kernel
theorem dX6_metBy_83 : decode cX6_metBy 83 = .ok (.iinc 3 1, 3) := by decide +kernel
theorem dX6_metBy_86 : decode cX6_metBy 86 = .ok (.goto (-82), 3) := by decide +kernel
theorem dX6_metBy_89 : decode cX6_metBy 89 = .ok (.iload_n 2, 1) := by decide +kernel
theorem dX6_metBy_90 : decode cX6_metBy 90 = .ok (.ireturn, 1) := by decide +kernel
theorem dX6_bestHearer_0 : decode cX6_bestHearer 0 = .ok (.aload_n 0, 1) := by decide +kernel
theorem dX6_bestHearer_1 : decode cX6_bestHearer 1 = .ok (.iconst 0, 1) := by decide +kernel
theorem dX6_bestHearer_2 : decode cX6_bestHearer 2 = .ok (.putfield 43, 3) := by decide +kernel
theorem dX6_bestHearer_5 : decode cX6_bestHearer 5 = .ok (.iconst 0, 1) := by decide +kernel
theorem dX6_bestHearer_6 : decode cX6_bestHearer 6 = .ok (.istore_n 1, 1) := by decide +kernel
theorem dX6_bestHearer_7 : decode cX6_bestHearer 7 = .ok (.iconst 1, 1) := by decide +kernel
theorem dX6_bestHearer_8 : decode cX6_bestHearer 8 = .ok (.istore_n 2, 1) := by decide +kernel
theorem dX6_bestHearer_9 : decode cX6_bestHearer 9 = .ok (.iload_n 2, 1) := by decide +kernel
theorem dX6_bestHearer_10 : decode cX6_bestHearer 10 = .ok (.aload_n 0, 1) := by decide +kernel
theorem dX6_bestHearer_11 : decode cX6_bestHearer 11 = .ok (.getfield 7, 3) := by decide +kernel
theorem dX6_bestHearer_14 : decode cX6_bestHearer 14 = .ok (.iconst 0, 1) := by decide +kernel
theorem dX6_bestHearer_15 : decode cX6_bestHearer 15 = .ok (.iaload, 1) := by decide +kernel
theorem dX6_bestHearer_16 : decode cX6_bestHearer 16 = .ok (.if_icmp .ge 24, 3) := by decide +kernel
theorem dX6_bestHearer_19 : decode cX6_bestHearer 19 = .ok (.aload_n 0, 1) := by decide +kernel
theorem dX6_bestHearer_20 : decode cX6_bestHearer 20 = .ok (.iload_n 2, 1) := by decide +kernel
theorem dX6_bestHearer_21 : decode cX6_bestHearer 21 = .ok (.invokevirtual 173, 3) := by decide +kernel
theorem dX6_bestHearer_24 : decode cX6_bestHearer 24 = .ok (.aload_n 0, 1) := by decide +kernel
theorem dX6_bestHearer_25 : decode cX6_bestHearer 25 = .ok (.iload_n 1, 1) := by decide +kernel
theorem dX6_bestHearer_26 : decode cX6_bestHearer 26 = .ok (.invokevirtual 173, 3) := by decide +kernel
theorem dX6_bestHearer_29 : decode cX6_bestHearer 29 = .ok (.if_icmp .le 5, 3) := by decide +kernel
theorem dX6_bestHearer_32 : decode cX6_bestHearer 32 = .ok (.iload_n 2, 1) := by decide +kernel
theorem dX6_bestHearer_33 : decode cX6_bestHearer 33 = .ok (.istore_n 1, 1) := by decide +kernel
theorem dX6_bestHearer_34 : decode cX6_bestHearer 34 = .ok (.iinc 2 1, 3) := by decide +kernel
theorem dX6_bestHearer_37 : decode cX6_bestHearer 37 = .ok (.goto (-28), 3) := by decide +kernel
theorem dX6_bestHearer_40 : decode cX6_bestHearer 40 = .ok (.iload_n 1, 1) := by decide +kernel
theorem dX6_bestHearer_41 : decode cX6_bestHearer 41 = .ok (.ireturn, 1) := by decide +kernel
theorem dX6_wants_0 : decode cX6_wants 0 = .ok (.aload_n 0, 1) := by decide +kernel
theorem dX6_wants_1 : decode cX6_wants 1 = .ok (.getfield 7, 3) := by decide +kernel
theorem dX6_wants_4 : decode cX6_wants 4 = .ok (.iload_n 1, 1) := by decide +kernel
theorem dX6_wants_5 : decode cX6_wants 5 = .ok (.iconst 3, 1) := by decide +kernel
theorem dX6_wants_6 : decode cX6_wants 6 = .ok (.invokestatic 61, 3) := by decide +kernel
theorem dX6_wants_9 : decode cX6_wants 9 = .ok (.dup2, 1) := by decide +kernel
theorem dX6_wants_10 : decode cX6_wants 10 = .ok (.iaload, 1) := by decide +kernel
theorem dX6_wants_11 : decode cX6_wants 11 = .ok (.iconst 1, 1) := by decide +kernel
theorem dX6_wants_12 : decode cX6_wants 12 = .ok (.iload_n 2, 1) := by decide +kernel
theorem dX6_wants_13 : decode cX6_wants 13 = .ok (.ishl, 1) := by decide +kernel
theorem dX6_wants_14 : decode cX6_wants 14 = .ok (.ior, 1) := by decide +kernel
theorem dX6_wants_15 : decode cX6_wants 15 = .ok (.iastore, 1) := by decide +kernel
theorem dX6_wants_16 : decode cX6_wants 16 = .ok (.aload_n 0, 1) := by decide +kernel
theorem dX6_wants_17 : decode cX6_wants 17 = .ok (.getfield 7, 3) := by decide +kernel
theorem dX6_wants_20 : decode cX6_wants 20 = .ok (.iload_n 1, 1) := by decide +kernel
theorem dX6_wants_21 : decode cX6_wants 21 = .ok (.iconst 3, 1) := by decide +kernel
theorem dX6_wants_22 : decode cX6_wants 22 = .ok (.invokestatic 61, 3) := by decide +kernel
theorem dX6_wants_25 : decode cX6_wants 25 = .ok (.iaload, 1) := by decide +kernel
theorem dX6_wants_26 : decode cX6_wants 26 = .ok (.invokestatic 99, 3) := by decide +kernel
theorem dX6_wants_29 : decode cX6_wants 29 = .ok (.ireturn, 1) := by decide +kernel
theorem dX6_want_0 : decode cX6_want 0 = .ok (.aload_n 0, 1) := by decide +kernel
theorem dX6_want_1 : decode cX6_want 1 = .ok (.aload_n 0, 1) := by decide +kernel
theorem dX6_want_2 : decode cX6_want 2 = .ok (.iload_n 1, 1) := by decide +kernel
theorem dX6_want_3 : decode cX6_want 3 = .ok (.invokevirtual 124, 3) := by decide +kernel
theorem dX6_want_6 : decode cX6_want 6 = .ok (.ifCond .eq 15, 3) := by decide +kernel
theorem dX6_want_9 : decode cX6_want 9 = .ok (.aload_n 0, 1) := by decide +kernel
theorem dX6_want_10 : decode cX6_want 10 = .ok (.iload_n 2, 1) := by decide +kernel
theorem dX6_want_11 : decode cX6_want 11 = .ok (.invokevirtual 133, 3) := by decide +kernel
theorem dX6_want_14 : decode cX6_want 14 = .ok (.ifCond .eq 7, 3) := by decide +kernel
theorem dX6_want_17 : decode cX6_want 17 = .ok (.iconst 0, 1) := by decide +kernel
theorem dX6_want_18 : decode cX6_want 18 = .ok (.goto 4, 3) := by decide +kernel
theorem dX6_want_21 : decode cX6_want 21 = .ok (.iconst 1, 1) := by decide +kernel
theorem dX6_want_22 : decode cX6_want 22 = .ok (.putfield 43, 3) := by decide +kernel
theorem dX6_want_25 : decode cX6_want 25 = .ok (.aload_n 0, 1) := by decide +kernel
theorem dX6_want_26 : decode cX6_want 26 = .ok (.getfield 43, 3) := by decide +kernel
theorem dX6_want_29 : decode cX6_want 29 = .ok (.ifCond .le 5, 3) := by decide +kernel
theorem dX6_want_32 : decode cX6_want 32 = .ok (.iconst 0, 1) := by decide +kernel
theorem dX6_want_33 : decode cX6_want 33 = .ok (.ireturn, 1) := by decide +kernel
theorem dX6_want_34 : decode cX6_want 34 = .ok (.aload_n 0, 1) := by decide +kernel
theorem dX6_want_35 : decode cX6_want 35 = .ok (.iload_n 1, 1) := by decide +kernel
theorem dX6_want_36 : decode cX6_want 36 = .ok (.iconst 3, 1) := by decide +kernel
theorem dX6_want_37 : decode cX6_want 37 = .ok (.iload_n 2, 1) := by decide +kernel
theorem dX6_want_38 : decode cX6_want 38 = .ok (.invokevirtual 90, 3) := by decide +kernel
theorem dX6_want_41 : decode cX6_want 41 = .ok (.ifCond .eq 6, 3) := by decide +kernel
theorem dX6_want_44 : decode cX6_want 44 = .ok (.bipush (-11), 2) := by decide +kernel
theorem dX6_want_46 : decode cX6_want 46 = .ok (.ireturn, 1) := by decide +kernel
theorem dX6_want_47 : decode cX6_want 47 = .ok (.aload_n 0, 1) := by decide +kernel
theorem dX6_want_48 : decode cX6_want 48 = .ok (.aload_n 0, 1) := by decide +kernel
theorem dX6_want_49 : decode cX6_want 49 = .ok (.getfield 7, 3) := by decide +kernel
theorem dX6_want_52 : decode cX6_want 52 = .ok (.invokevirtual 57, 3) := by decide +kernel
theorem dX6_want_55 : decode cX6_want 55 = .ok (.aload_n 0, 1) := by decide +kernel
theorem dX6_want_56 : decode cX6_want 56 = .ok (.iload_n 1, 1) := by decide +kernel
theorem dX6_want_57 : decode cX6_want 57 = .ok (.iload_n 2, 1) := by decide +kernel
theorem dX6_want_58 : decode cX6_want 58 = .ok (.invokevirtual 176, 3) := by decide +kernel
theorem dX6_want_61 : decode cX6_want 61 = .ok (.ireturn, 1) := by decide +kernel
theorem dX6_tell_0 : decode cX6_tell 0 = .ok (.aload_n 0, 1) := by decide +kernel
theorem dX6_tell_1 : decode cX6_tell 1 = .ok (.aload_n 0, 1) := by decide +kernel
theorem dX6_tell_2 : decode cX6_tell 2 = .ok (.iload_n 1, 1) := by decide +kernel
theorem dX6_tell_3 : decode cX6_tell 3 = .ok (.iload_n 2, 1) := by decide +kernel
theorem dX6_tell_4 : decode cX6_tell 4 = .ok (.iload_n 3, 1) := by decide +kernel
theorem dX6_tell_5 : decode cX6_tell 5 = .ok (.invokevirtual 139, 3) := by decide +kernel
theorem dX6_tell_8 : decode cX6_tell 8 = .ok (.putfield 43, 3) := by decide +kernel
theorem dX6_tell_11 : decode cX6_tell 11 = .ok (.aload_n 0, 1) := by decide +kernel
theorem dX6_tell_12 : decode cX6_tell 12 = .ok (.getfield 43, 3) := by decide +kernel
theorem dX6_tell_15 : decode cX6_tell 15 = .ok (.ifCond .ne 18, 3) := by decide +kernel
theorem dX6_tell_18 : decode cX6_tell 18 = .ok (.iload 4, 2) := by decide +kernel
theorem dX6_tell_20 : decode cX6_tell 20 = .ok (.iconst 0, 1) := by decide +kernel
theorem dX6_tell_21 : decode cX6_tell 21 = .ok (.iconst 2, 1) := by decide +kernel
theorem dX6_tell_22 : decode cX6_tell 22 = .ok (.invokestatic 53, 3) := by decide +kernel
theorem dX6_tell_25 : decode cX6_tell 25 = .ok (.ifCond .ne 8, 3) := by decide +kernel
theorem dX6_tell_28 : decode cX6_tell 28 = .ok (.aload_n 0, 1) := by decide +kernel
theorem dX6_tell_29 : decode cX6_tell 29 = .ok (.iconst 2, 1) := by decide +kernel
theorem dX6_tell_30 : decode cX6_tell 30 = .ok (.putfield 43, 3) := by decide +kernel
theorem dX6_tell_33 : decode cX6_tell 33 = .ok (.aload_n 0, 1) := by decide +kernel
theorem dX6_tell_34 : decode cX6_tell 34 = .ok (.getfield 43, 3) := by decide +kernel
theorem dX6_tell_37 : decode cX6_tell 37 = .ok (.ifCond .le 5, 3) := by decide +kernel
theorem dX6_tell_40 : decode cX6_tell 40 = .ok (.iconst 0, 1) := by decide +kernel
theorem dX6_tell_41 : decode cX6_tell 41 = .ok (.ireturn, 1) := by decide +kernel
theorem dX6_tell_42 : decode cX6_tell 42 = .ok (.aload_n 0, 1) := by decide +kernel
theorem dX6_tell_43 : decode cX6_tell 43 = .ok (.iload_n 1, 1) := by decide +kernel
theorem dX6_tell_44 : decode cX6_tell 44 = .ok (.iload_n 2, 1) := by decide +kernel
theorem dX6_tell_45 : decode cX6_tell 45 = .ok (.iload_n 3, 1) := by decide +kernel
theorem dX6_tell_46 : decode cX6_tell 46 = .ok (.iload 4, 2) := by decide +kernel
theorem dX6_tell_48 : decode cX6_tell 48 = .ok (.invokevirtual 143, 3) := by decide +kernel
theorem dX6_tell_51 : decode cX6_tell 51 = .ok (.istore 5, 2) := by decide +kernel
theorem dX6_tell_53 : decode cX6_tell 53 = .ok (.iload 5, 2) := by decide +kernel
theorem dX6_tell_55 : decode cX6_tell 55 = .ok (.ifCond .eq 9, 3) := by decide +kernel
theorem dX6_tell_58 : decode cX6_tell 58 = .ok (.bipush (-10), 2) := by decide +kernel
theorem dX6_tell_60 : decode cX6_tell 60 = .ok (.iload 5, 2) := by decide +kernel
theorem dX6_tell_62 : decode cX6_tell 62 = .ok (.isub, 1) := by decide +kernel
theorem dX6_tell_63 : decode cX6_tell 63 = .ok (.ireturn, 1) := by decide +kernel
theorem dX6_tell_64 : decode cX6_tell 64 = .ok (.aload_n 0, 1) := by decide +kernel
theorem dX6_tell_65 : decode cX6_tell 65 = .ok (.aload_n 0, 1) := by decide +kernel
theorem dX6_tell_66 : decode cX6_tell 66 = .ok (.getfield 7, 3) := by decide +kernel
theorem dX6_tell_69 : decode cX6_tell 69 = .ok (.invokevirtual 57, 3) := by decide +kernel
theorem dX6_tell_72 : decode cX6_tell 72 = .ok (.aload_n 0, 1) := by decide +kernel
theorem dX6_tell_73 : decode cX6_tell 73 = .ok (.iload_n 1, 1) := by decide +kernel
theorem dX6_tell_74 : decode cX6_tell 74 = .ok (.iload_n 2, 1) := by decide +kernel
theorem dX6_tell_75 : decode cX6_tell 75 = .ok (.iload_n 3, 1) := by decide +kernel
theorem dX6_tell_76 : decode cX6_tell 76 = .ok (.iload 4, 2) := by decide +kernel
theorem dX6_tell_78 : decode cX6_tell 78 = .ok (.invokevirtual 179, 3) := by decide +kernel
theorem dX6_tell_81 : decode cX6_tell 81 = .ok (.ireturn, 1) := by decide +kernel
theorem dX6_give_0 : decode cX6_give 0 = .ok (.aload_n 0, 1) := by decide +kernel
theorem dX6_give_1 : decode cX6_give 1 = .ok (.aload_n 0, 1) := by decide +kernel
theorem dX6_give_2 : decode cX6_give 2 = .ok (.iload_n 1, 1) := by decide +kernel
theorem dX6_give_3 : decode cX6_give 3 = .ok (.invokevirtual 124, 3) := by decide +kernel
theorem dX6_give_6 : decode cX6_give 6 = .ok (.ifCond .eq 11, 3) := by decide +kernel
theorem dX6_give_9 : decode cX6_give 9 = .ok (.aload_n 0, 1) := by decide +kernel
theorem dX6_give_10 : decode cX6_give 10 = .ok (.iload_n 2, 1) := by decide +kernel
theorem dX6_give_11 : decode cX6_give 11 = .ok (.invokevirtual 124, 3) := by decide +kernel
theorem dX6_give_14 : decode cX6_give 14 = .ok (.ifCond .ne 7, 3) := by decide +kernel
theorem dX6_give_17 : decode cX6_give 17 = .ok (.iconst 1, 1) := by decide +kernel
theorem dX6_give_18 : decode cX6_give 18 = .ok (.goto 23, 3) := by decide +kernel
theorem dX6_give_21 : decode cX6_give 21 = .ok (.iload_n 1, 1) := by decide +kernel
theorem dX6_give_22 : decode cX6_give 22 = .ok (.iload_n 2, 1) := by decide +kernel
theorem dX6_give_23 : decode cX6_give 23 = .ok (.if_icmp .eq 17, 3) := by decide +kernel
theorem dX6_give_26 : decode cX6_give 26 = .ok (.iload_n 3, 1) := by decide +kernel
theorem dX6_give_27 : decode cX6_give 27 = .ok (.iconst 1, 1) := by decide +kernel
theorem dX6_give_28 : decode cX6_give 28 = .ok (.bipush 50, 2) := by decide +kernel
theorem dX6_give_30 : decode cX6_give 30 = .ok (.invokestatic 53, 3) := by decide +kernel
theorem dX6_give_33 : decode cX6_give 33 = .ok (.ifCond .eq 7, 3) := by decide +kernel
theorem dX6_give_36 : decode cX6_give 36 = .ok (.iconst 0, 1) := by decide +kernel
theorem dX6_give_37 : decode cX6_give 37 = .ok (.goto 4, 3) := by decide +kernel
theorem dX6_give_40 : decode cX6_give 40 = .ok (.iconst 2, 1) := by decide +kernel
theorem dX6_give_41 : decode cX6_give 41 = .ok (.putfield 43, 3) := by decide +kernel
theorem dX6_give_44 : decode cX6_give 44 = .ok (.aload_n 0, 1) := by decide +kernel
theorem dX6_give_45 : decode cX6_give 45 = .ok (.getfield 43, 3) := by decide +kernel
theorem dX6_give_48 : decode cX6_give 48 = .ok (.ifCond .le 5, 3) := by decide +kernel
theorem dX6_give_51 : decode cX6_give 51 = .ok (.iconst 0, 1) := by decide +kernel
theorem dX6_give_52 : decode cX6_give 52 = .ok (.ireturn, 1) := by decide +kernel
theorem dX6_give_53 : decode cX6_give 53 = .ok (.aload_n 0, 1) := by decide +kernel
theorem dX6_give_54 : decode cX6_give 54 = .ok (.iload_n 1, 1) := by decide +kernel
theorem dX6_give_55 : decode cX6_give 55 = .ok (.iload_n 2, 1) := by decide +kernel
theorem dX6_give_56 : decode cX6_give 56 = .ok (.iload_n 3, 1) := by decide +kernel
theorem dX6_give_57 : decode cX6_give 57 = .ok (.invokevirtual 182, 3) := by decide +kernel
theorem dX6_give_60 : decode cX6_give 60 = .ok (.istore 4, 2) := by decide +kernel
theorem dX6_give_62 : decode cX6_give 62 = .ok (.iload 4, 2) := by decide +kernel
theorem dX6_give_64 : decode cX6_give 64 = .ok (.ifCond .eq 6, 3) := by decide +kernel
theorem dX6_give_67 : decode cX6_give 67 = .ok (.iload 4, 2) := by decide +kernel
theorem dX6_give_69 : decode cX6_give 69 = .ok (.ireturn, 1) := by decide +kernel
theorem dX6_give_70 : decode cX6_give 70 = .ok (.aload_n 0, 1) := by decide +kernel
theorem dX6_give_71 : decode cX6_give 71 = .ok (.aload_n 0, 1) := by decide +kernel
theorem dX6_give_72 : decode cX6_give 72 = .ok (.getfield 7, 3) := by decide +kernel
theorem dX6_give_75 : decode cX6_give 75 = .ok (.invokevirtual 57, 3) := by decide +kernel
theorem dX6_give_78 : decode cX6_give 78 = .ok (.aload_n 0, 1) := by decide +kernel
theorem dX6_give_79 : decode cX6_give 79 = .ok (.iload_n 1, 1) := by decide +kernel
theorem dX6_give_80 : decode cX6_give 80 = .ok (.iload_n 2, 1) := by decide +kernel
theorem dX6_give_81 : decode cX6_give 81 = .ok (.iload_n 3, 1) := by decide +kernel
theorem dX6_give_82 : decode cX6_give 82 = .ok (.invokevirtual 185, 3) := by decide +kernel
theorem dX6_give_85 : decode cX6_give 85 = .ok (.ireturn, 1) := by decide +kernel
theorem dX6_refusalOfHours_0 : decode cX6_refusalOfHours 0 = .ok (.aload_n 0, 1) := by decide +kernel
theorem dX6_refusalOfHours_1 : decode cX6_refusalOfHours 1 = .ok (.getfield 7, 3) := by decide +kernel
theorem dX6_refusalOfHours_4 : decode cX6_refusalOfHours 4 = .ok (.iconst 4, 1) := by decide +kernel
theorem dX6_refusalOfHours_5 : decode cX6_refusalOfHours 5 = .ok (.iaload, 1) := by decide +kernel
theorem dX6_refusalOfHours_6 : decode cX6_refusalOfHours 6 = .ok (.iload_n 1, 1) := by decide +kernel
theorem dX6_refusalOfHours_7 : decode cX6_refusalOfHours 7 = .ok (.iadd, 1) := by decide +kernel
theorem dX6_refusalOfHours_8 : decode cX6_refusalOfHours 8 = .ok (.sipush 9999, 3) := by decide +kernel
theorem dX6_refusalOfHours_11 : decode cX6_refusalOfHours 11 = .ok (.if_icmp .le 8, 3) := by decide +kernel
theorem dX6_refusalOfHours_14 : decode cX6_refusalOfHours 14 = .ok (.bipush (-21), 2) := by decide +kernel
theorem dX6_refusalOfHours_16 : decode cX6_refusalOfHours 16 = .ok (.goto 4, 3) := by decide +kernel
theorem dX6_refusalOfHours_19 : decode cX6_refusalOfHours 19 = .ok (.iconst 0, 1) := by decide +kernel
theorem dX6_refusalOfHours_20 : decode cX6_refusalOfHours 20 = .ok (.ireturn, 1) := by decide +kernel
theorem dX6_pass_0 : decode cX6_pass 0 = .ok (.aload_n 0, 1) := by decide +kernel
theorem dX6_pass_1 : decode cX6_pass 1 = .ok (.iload_n 1, 1) := by decide +kernel
theorem dX6_pass_2 : decode cX6_pass 2 = .ok (.iconst 1, 1) := by decide +kernel
theorem dX6_pass_3 : decode cX6_pass 3 = .ok (.bipush 99, 2) := by decide +kernel
theorem dX6_pass_5 : decode cX6_pass 5 = .ok (.invokestatic 53, 3) := by decide +kernel
theorem dX6_pass_8 : decode cX6_pass 8 = .ok (.ifCond .eq 7, 3) := by decide +kernel
theorem dX6_pass_11 : decode cX6_pass 11 = .ok (.iconst 0, 1) := by decide +kernel
theorem dX6_pass_12 : decode cX6_pass 12 = .ok (.goto 4, 3) := by decide +kernel
theorem dX6_pass_15 : decode cX6_pass 15 = .ok (.iconst 1, 1) := by decide +kernel
theorem dX6_pass_16 : decode cX6_pass 16 = .ok (.putfield 43, 3) := by decide +kernel
theorem dX6_pass_19 : decode cX6_pass 19 = .ok (.aload_n 0, 1) := by decide +kernel
theorem dX6_pass_20 : decode cX6_pass 20 = .ok (.getfield 43, 3) := by decide +kernel
theorem dX6_pass_23 : decode cX6_pass 23 = .ok (.ifCond .le 5, 3) := by decide +kernel
theorem dX6_pass_26 : decode cX6_pass 26 = .ok (.iconst 0, 1) := by decide +kernel
theorem dX6_pass_27 : decode cX6_pass 27 = .ok (.ireturn, 1) := by decide +kernel
theorem dX6_pass_28 : decode cX6_pass 28 = .ok (.aload_n 0, 1) := by decide +kernel
theorem dX6_pass_29 : decode cX6_pass 29 = .ok (.iload_n 1, 1) := by decide +kernel
theorem dX6_pass_30 : decode cX6_pass 30 = .ok (.invokevirtual 188, 3) := by decide +kernel
theorem dX6_pass_33 : decode cX6_pass 33 = .ok (.istore_n 2, 1) := by decide +kernel
theorem dX6_pass_34 : decode cX6_pass 34 = .ok (.iload_n 2, 1) := by decide +kernel
theorem dX6_pass_35 : decode cX6_pass 35 = .ok (.ifCond .eq 5, 3) := by decide +kernel
theorem dX6_pass_38 : decode cX6_pass 38 = .ok (.iload_n 2, 1) := by decide +kernel
theorem dX6_pass_39 : decode cX6_pass 39 = .ok (.ireturn, 1) := by decide +kernel
theorem dX6_pass_40 : decode cX6_pass 40 = .ok (.aload_n 0, 1) := by decide +kernel
theorem dX6_pass_41 : decode cX6_pass 41 = .ok (.aload_n 0, 1) := by decide +kernel
theorem dX6_pass_42 : decode cX6_pass 42 = .ok (.getfield 7, 3) := by decide +kernel
theorem dX6_pass_45 : decode cX6_pass 45 = .ok (.invokevirtual 57, 3) := by decide +kernel
theorem dX6_pass_48 : decode cX6_pass 48 = .ok (.aload_n 0, 1) := by decide +kernel
theorem dX6_pass_49 : decode cX6_pass 49 = .ok (.iload_n 1, 1) := by decide +kernel
theorem dX6_pass_50 : decode cX6_pass 50 = .ok (.invokevirtual 191, 3) := by decide +kernel
theorem dX6_pass_53 : decode cX6_pass 53 = .ok (.ireturn, 1) := by decide +kernel
theorem dX6_setBell_0 : decode cX6_setBell 0 = .ok (.aload_n 0, 1) := by decide +kernel
theorem dX6_setBell_1 : decode cX6_setBell 1 = .ok (.iload_n 1, 1) := by decide +kernel
theorem dX6_setBell_2 : decode cX6_setBell 2 = .ok (.iconst 0, 1) := by decide +kernel
theorem dX6_setBell_3 : decode cX6_setBell 3 = .ok (.bipush 23, 2) := by decide +kernel
theorem dX6_setBell_5 : decode cX6_setBell 5 = .ok (.invokestatic 53, 3) := by decide +kernel
theorem dX6_setBell_8 : decode cX6_setBell 8 = .ok (.ifCond .ne 7, 3) := by decide +kernel
theorem dX6_setBell_11 : decode cX6_setBell 11 = .ok (.iconst 1, 1) := by decide +kernel
theorem dX6_setBell_12 : decode cX6_setBell 12 = .ok (.goto 17, 3) := by decide +kernel
theorem dX6_setBell_15 : decode cX6_setBell 15 = .ok (.iload_n 2, 1) := by decide +kernel
theorem dX6_setBell_16 : decode cX6_setBell 16 = .ok (.iconst 0, 1) := by decide +kernel
theorem dX6_setBell_17 : decode cX6_setBell 17 = .ok (.iconst 2, 1) := by decide +kernel
theorem dX6_setBell_18 : decode cX6_setBell 18 = .ok (.invokestatic 53, 3) := by decide +kernel
theorem dX6_setBell_21 : decode cX6_setBell 21 = .ok (.ifCond .eq 7, 3) := by decide +kernel
theorem dX6_setBell_24 : decode cX6_setBell 24 = .ok (.iconst 0, 1) := by decide +kernel
theorem dX6_setBell_25 : decode cX6_setBell 25 = .ok (.goto 4, 3) := by decide +kernel
theorem dX6_setBell_28 : decode cX6_setBell 28 = .ok (.iconst 2, 1) := by decide +kernel
theorem dX6_setBell_29 : decode cX6_setBell 29 = .ok (.putfield 43, 3) := by decide +kernel
theorem dX6_setBell_32 : decode cX6_setBell 32 = .ok (.aload_n 0, 1) := by decide +kernel
theorem dX6_setBell_33 : decode cX6_setBell 33 = .ok (.getfield 43, 3) := by decide +kernel
theorem dX6_setBell_36 : decode cX6_setBell 36 = .ok (.ifCond .le 5, 3) := by decide +kernel
theorem dX6_setBell_39 : decode cX6_setBell 39 = .ok (.iconst 0, 1) := by decide +kernel
theorem dX6_setBell_40 : decode cX6_setBell 40 = .ok (.ireturn, 1) := by decide +kernel
theorem dX6_setBell_41 : decode cX6_setBell 41 = .ok (.aload_n 0, 1) := by decide +kernel
theorem dX6_setBell_42 : decode cX6_setBell 42 = .ok (.aload_n 0, 1) := by decide +kernel
theorem dX6_setBell_43 : decode cX6_setBell 43 = .ok (.getfield 7, 3) := by decide +kernel
theorem dX6_setBell_46 : decode cX6_setBell 46 = .ok (.invokevirtual 57, 3) := by decide +kernel
theorem dX6_setBell_49 : decode cX6_setBell 49 = .ok (.aload_n 0, 1) := by decide +kernel
theorem dX6_setBell_50 : decode cX6_setBell 50 = .ok (.getfield 7, 3) := by decide +kernel
theorem dX6_setBell_53 : decode cX6_setBell 53 = .ok (.bipush 20, 2) := by decide +kernel
theorem dX6_setBell_55 : decode cX6_setBell 55 = .ok (.iload_n 1, 1) := by decide +kernel
theorem dX6_setBell_56 : decode cX6_setBell 56 = .ok (.iadd, 1) := by decide +kernel
theorem dX6_setBell_57 : decode cX6_setBell 57 = .ok (.iaload, 1) := by decide +kernel
theorem dX6_setBell_58 : decode cX6_setBell 58 = .ok (.istore_n 3, 1) := by decide +kernel
theorem dX6_setBell_59 : decode cX6_setBell 59 = .ok (.aload_n 0, 1) := by decide +kernel
theorem dX6_setBell_60 : decode cX6_setBell 60 = .ok (.getfield 7, 3) := by decide +kernel
theorem dX6_setBell_63 : decode cX6_setBell 63 = .ok (.bipush 20, 2) := by decide +kernel
theorem dX6_setBell_65 : decode cX6_setBell 65 = .ok (.iload_n 1, 1) := by decide +kernel
theorem dX6_setBell_66 : decode cX6_setBell 66 = .ok (.iadd, 1) := by decide +kernel
theorem dX6_setBell_67 : decode cX6_setBell 67 = .ok (.iload_n 2, 1) := by decide +kernel
theorem dX6_setBell_68 : decode cX6_setBell 68 = .ok (.iastore, 1) := by decide +kernel
theorem dX6_setBell_69 : decode cX6_setBell 69 = .ok (.iload_n 3, 1) := by decide +kernel
theorem dX6_setBell_70 : decode cX6_setBell 70 = .ok (.ireturn, 1) := by decide +kernel
theorem dX6_set_0 : decode cX6_set 0 = .ok (.aload_n 0, 1) := by decide +kernel
theorem dX6_set_1 : decode cX6_set 1 = .ok (.iload_n 1, 1) := by decide +kernel
theorem dX6_set_2 : decode cX6_set 2 = .ok (.iconst 2, 1) := by decide +kernel
theorem dX6_set_3 : decode cX6_set 3 = .ok (.if_icmp .ne 13, 3) := by decide +kernel
theorem dX6_set_6 : decode cX6_set 6 = .ok (.iload_n 2, 1) := by decide +kernel
theorem dX6_set_7 : decode cX6_set 7 = .ok (.iconst 0, 1) := by decide +kernel
theorem dX6_set_8 : decode cX6_set 8 = .ok (.bipush 99, 2) := by decide +kernel
theorem dX6_set_10 : decode cX6_set 10 = .ok (.invokestatic 53, 3) := by decide +kernel
theorem dX6_set_13 : decode cX6_set 13 = .ok (.ifCond .ne 18, 3) := by decide +kernel
theorem dX6_set_16 : decode cX6_set 16 = .ok (.iload_n 1, 1) := by decide +kernel
theorem dX6_set_17 : decode cX6_set 17 = .ok (.iconst 3, 1) := by decide +kernel
theorem dX6_set_18 : decode cX6_set 18 = .ok (.if_icmp .ne 17, 3) := by decide +kernel
theorem dX6_set_21 : decode cX6_set 21 = .ok (.iload_n 2, 1) := by decide +kernel
theorem dX6_set_22 : decode cX6_set 22 = .ok (.iconst 0, 1) := by decide +kernel
theorem dX6_set_23 : decode cX6_set 23 = .ok (.bipush 50, 2) := by decide +kernel
theorem dX6_set_25 : decode cX6_set 25 = .ok (.invokestatic 53, 3) := by decide +kernel
theorem dX6_set_28 : decode cX6_set 28 = .ok (.ifCond .eq 7, 3) := by decide +kernel
theorem dX6_set_31 : decode cX6_set 31 = .ok (.iconst 0, 1) := by decide +kernel
theorem dX6_set_32 : decode cX6_set 32 = .ok (.goto 4, 3) := by decide +kernel
theorem dX6_set_35 : decode cX6_set 35 = .ok (.iconst 1, 1) := by decide +kernel
theorem dX6_set_36 : decode cX6_set 36 = .ok (.putfield 43, 3) := by decide +kernel
theorem dX6_set_39 : decode cX6_set 39 = .ok (.aload_n 0, 1) := by decide +kernel
theorem dX6_set_40 : decode cX6_set 40 = .ok (.getfield 43, 3) := by decide +kernel
theorem dX6_set_43 : decode cX6_set 43 = .ok (.ifCond .le 5, 3) := by decide +kernel
theorem dX6_set_46 : decode cX6_set 46 = .ok (.iconst 0, 1) := by decide +kernel
theorem dX6_set_47 : decode cX6_set 47 = .ok (.ireturn, 1) := by decide +kernel
theorem dX6_set_48 : decode cX6_set 48 = .ok (.aload_n 0, 1) := by decide +kernel
theorem dX6_set_49 : decode cX6_set 49 = .ok (.aload_n 0, 1) := by decide +kernel
theorem dX6_set_50 : decode cX6_set 50 = .ok (.getfield 7, 3) := by decide +kernel
theorem dX6_set_53 : decode cX6_set 53 = .ok (.invokevirtual 57, 3) := by decide +kernel
theorem dX6_set_56 : decode cX6_set 56 = .ok (.aload_n 0, 1) := by decide +kernel
theorem dX6_set_57 : decode cX6_set 57 = .ok (.getfield 7, 3) := by decide +kernel
theorem dX6_set_60 : decode cX6_set 60 = .ok (.iload_n 1, 1) := by decide +kernel
theorem dX6_set_61 : decode cX6_set 61 = .ok (.iaload, 1) := by decide +kernel
theorem dX6_set_62 : decode cX6_set 62 = .ok (.istore_n 3, 1) := by decide +kernel
theorem dX6_set_63 : decode cX6_set 63 = .ok (.aload_n 0, 1) := by decide +kernel
theorem dX6_set_64 : decode cX6_set 64 = .ok (.getfield 7, 3) := by decide +kernel
theorem dX6_set_67 : decode cX6_set 67 = .ok (.iload_n 1, 1) := by decide +kernel
theorem dX6_set_68 : decode cX6_set 68 = .ok (.iload_n 2, 1) := by decide +kernel
theorem dX6_set_69 : decode cX6_set 69 = .ok (.iastore, 1) := by decide +kernel
theorem dX6_set_70 : decode cX6_set 70 = .ok (.iload_n 3, 1) := by decide +kernel
theorem dX6_set_71 : decode cX6_set 71 = .ok (.ireturn, 1) := by decide +kernel
theorem dX6_writes_0 : decode cX6_writes 0 = .ok (.aload_n 0, 1) := by decide +kernel
theorem dX6_writes_1 : decode cX6_writes 1 = .ok (.getfield 26, 3) := by decide +kernel
theorem dX6_writes_4 : decode cX6_writes 4 = .ok (.aload_n 0, 1) := by decide +kernel
theorem dX6_writes_5 : decode cX6_writes 5 = .ok (.getfield 194, 3) := by decide +kernel
theorem dX6_writes_8 : decode cX6_writes 8 = .ok (.iload_n 1, 1) := by decide +kernel
theorem dX6_writes_9 : decode cX6_writes 9 = .ok (.iastore, 1) := by decide +kernel
theorem dX6_writes_10 : decode cX6_writes 10 = .ok (.aload_n 0, 1) := by decide +kernel
theorem dX6_writes_11 : decode cX6_writes 11 = .ok (.dup, 1) := by decide +kernel
theorem dX6_writes_12 : decode cX6_writes 12 = .ok (.getfield 194, 3) := by decide +kernel
theorem dX6_writes_15 : decode cX6_writes 15 = .ok (.iconst 1, 1) := by decide +kernel
theorem dX6_writes_16 : decode cX6_writes 16 = .ok (.iadd, 1) := by decide +kernel
theorem dX6_writes_17 : decode cX6_writes 17 = .ok (.putfield 194, 3) := by decide +kernel
theorem dX6_writes_20 : decode cX6_writes 20 = .ok (.return_, 1) := by decide +kernel
theorem dX6_writesName_0 : decode cX6_writesName 0 = .ok (.iload_n 1, 1) := by decide +kernel
theorem dX6_writesName_1 : decode cX6_writesName 1 = .ok (.invokestatic 130, 3) := by decide +kernel
theorem dX6_writesName_4 : decode cX6_writesName 4 = .ok (.iconst 1, 1) := by decide +kernel
theorem dX6_writesName_5 : decode cX6_writesName 5 = .ok (.isub, 1) := by decide +kernel
theorem dX6_writesName_6 : decode cX6_writesName 6 = .ok (.istore_n 2, 1) := by decide +kernel
theorem dX6_writesName_7 : decode cX6_writesName 7 = .ok (.iload_n 2, 1) := by decide +kernel
theorem dX6_writesName_8 : decode cX6_writesName 8 = .ok (.ifCond .lt 44, 3) := by decide +kernel
theorem dX6_writesName_11 : decode cX6_writesName 11 = .ok (.iload_n 1, 1) := by decide +kernel
theorem dX6_writesName_12 : decode cX6_writesName 12 = .ok (.istore_n 3, 1) := by decide +kernel
theorem dX6_writesName_13 : decode cX6_writesName 13 = .ok (.iconst 0, 1) := by decide +kernel
theorem dX6_writesName_14 : decode cX6_writesName 14 = .ok (.istore 4, 2) := by decide +kernel
theorem dX6_writesName_16 : decode cX6_writesName 16 = .ok (.iload 4, 2) := by decide +kernel
theorem dX6_writesName_18 : decode cX6_writesName 18 = .ok (.iload_n 2, 1) := by decide +kernel
theorem dX6_writesName_19 : decode cX6_writesName 19 = .ok (.if_icmp .ge 14, 3) := by decide +kernel
theorem dX6_writesName_22 : decode cX6_writesName 22 = .ok (.iload_n 3, 1) := by decide +kernel
theorem dX6_writesName_23 : decode cX6_writesName 23 = .ok (.bipush 27, 2) := by decide +kernel
theorem dX6_writesName_25 : decode cX6_writesName 25 = .ok (.idiv, 1) := by decide +kernel
theorem dX6_writesName_26 : decode cX6_writesName 26 = .ok (.istore_n 3, 1) := by decide +kernel
theorem dX6_writesName_27 : decode cX6_writesName 27 = .ok (.iinc 4 1, 3) := by decide +kernel
theorem dX6_writesName_30 : decode cX6_writesName 30 = .ok (.goto (-14), 3) := by decide +kernel
theorem dX6_writesName_33 : decode cX6_writesName 33 = .ok (.aload_n 0, 1) := by decide +kernel
theorem dX6_writesName_34 : decode cX6_writesName 34 = .ok (.iload_n 3, 1) := by decide +kernel
theorem dX6_writesName_35 : decode cX6_writesName 35 = .ok (.bipush 27, 2) := by decide +kernel
theorem dX6_writesName_37 : decode cX6_writesName 37 = .ok (.irem, 1) := by decide +kernel
theorem dX6_writesName_38 : decode cX6_writesName 38 = .ok (.iconst 1, 1) := by decide +kernel
theorem dX6_writesName_39 : decode cX6_writesName 39 = .ok (.isub, 1) := by decide +kernel
theorem dX6_writesName_40 : decode cX6_writesName 40 = .ok (.bipush 97, 2) := by decide +kernel
theorem dX6_writesName_42 : decode cX6_writesName 42 = .ok (.iadd, 1) := by decide +kernel
theorem dX6_writesName_43 : decode cX6_writesName 43 = .ok (.invokevirtual 197, 3) := by decide +kernel
theorem dX6_writesName_46 : decode cX6_writesName 46 = .ok (.iinc 2 (-1), 3) := by decide +kernel
theorem dX6_writesName_49 : decode cX6_writesName 49 = .ok (.goto (-42), 3) := by decide +kernel
theorem dX6_writesName_52 : decode cX6_writesName 52 = .ok (.return_, 1) := by decide +kernel
theorem dX6_writesNeeds_0 : decode cX6_writesNeeds 0 = .ok (.iconst 0, 1) := by decide +kernel
theorem dX6_writesNeeds_1 : decode cX6_writesNeeds 1 = .ok (.istore_n 2, 1) := by decide +kernel
theorem dX6_writesNeeds_2 : decode cX6_writesNeeds 2 = .ok (.iconst 0, 1) := by decide +kernel
theorem dX6_writesNeeds_3 : decode cX6_writesNeeds 3 = .ok (.istore_n 3, 1) := by decide +kernel
theorem dX6_writesNeeds_4 : decode cX6_writesNeeds 4 = .ok (.iload_n 3, 1) := by decide +kernel
theorem dX6_writesNeeds_5 : decode cX6_writesNeeds 5 = .ok (.aload_n 0, 1) := by decide +kernel
theorem dX6_writesNeeds_6 : decode cX6_writesNeeds 6 = .ok (.getfield 7, 3) := by decide +kernel
theorem dX6_writesNeeds_9 : decode cX6_writesNeeds 9 = .ok (.iconst 1, 1) := by decide +kernel
theorem dX6_writesNeeds_10 : decode cX6_writesNeeds 10 = .ok (.iaload, 1) := by decide +kernel
theorem dX6_writesNeeds_11 : decode cX6_writesNeeds 11 = .ok (.if_icmp .ge 48, 3) := by decide +kernel
theorem dX6_writesNeeds_14 : decode cX6_writesNeeds 14 = .ok (.iload_n 1, 1) := by decide +kernel
theorem dX6_writesNeeds_15 : decode cX6_writesNeeds 15 = .ok (.iload_n 3, 1) := by decide +kernel
theorem dX6_writesNeeds_16 : decode cX6_writesNeeds 16 = .ok (.ishr, 1) := by decide +kernel
theorem dX6_writesNeeds_17 : decode cX6_writesNeeds 17 = .ok (.iconst 1, 1) := by decide +kernel
theorem dX6_writesNeeds_18 : decode cX6_writesNeeds 18 = .ok (.iand, 1) := by decide +kernel
theorem dX6_writesNeeds_19 : decode cX6_writesNeeds 19 = .ok (.ifCond .ne 6, 3) := by decide +kernel
theorem dX6_writesNeeds_22 : decode cX6_writesNeeds 22 = .ok (.goto 31, 3) := by decide +kernel
theorem dX6_writesNeeds_25 : decode cX6_writesNeeds 25 = .ok (.iload_n 2, 1) := by decide +kernel
theorem dX6_writesNeeds_26 : decode cX6_writesNeeds 26 = .ok (.ifCond .le 9, 3) := by decide +kernel
theorem dX6_writesNeeds_29 : decode cX6_writesNeeds 29 = .ok (.aload_n 0, 1) := by decide +kernel
theorem dX6_writesNeeds_30 : decode cX6_writesNeeds 30 = .ok (.bipush 32, 2) := by decide +kernel
theorem dX6_writesNeeds_32 : decode cX6_writesNeeds 32 = .ok (.invokevirtual 197, 3) := by decide +kernel
theorem dX6_writesNeeds_35 : decode cX6_writesNeeds 35 = .ok (.aload_n 0, 1) := by decide +kernel
theorem dX6_writesNeeds_36 : decode cX6_writesNeeds 36 = .ok (.aload_n 0, 1) := by decide +kernel
theorem dX6_writesNeeds_37 : decode cX6_writesNeeds 37 = .ok (.getfield 7, 3) := by decide +kernel
theorem dX6_writesNeeds_40 : decode cX6_writesNeeds 40 = .ok (.bipush 44, 2) := by decide +kernel
theorem dX6_writesNeeds_42 : decode cX6_writesNeeds 42 = .ok (.iconst 2, 1) := by decide +kernel
theorem dX6_writesNeeds_43 : decode cX6_writesNeeds 43 = .ok (.iload_n 3, 1) := by decide +kernel
theorem dX6_writesNeeds_44 : decode cX6_writesNeeds 44 = .ok (.imul, 1) := by decide +kernel
theorem dX6_writesNeeds_45 : decode cX6_writesNeeds 45 = .ok (.iadd, 1) := by decide +kernel
theorem dX6_writesNeeds_46 : decode cX6_writesNeeds 46 = .ok (.iaload, 1) := by decide +kernel
theorem dX6_writesNeeds_47 : decode cX6_writesNeeds 47 = .ok (.invokevirtual 201, 3) := by decide +kernel
theorem dX6_writesNeeds_50 : decode cX6_writesNeeds 50 = .ok (.iinc 2 1, 3) := by decide +kernel
theorem dX6_writesNeeds_53 : decode cX6_writesNeeds 53 = .ok (.iinc 3 1, 3) := by decide +kernel
theorem dX6_writesNeeds_56 : decode cX6_writesNeeds 56 = .ok (.goto (-52), 3) := by decide +kernel
theorem dX6_writesNeeds_59 : decode cX6_writesNeeds 59 = .ok (.return_, 1) := by decide +kernel
theorem dX6_writeMonk_0 : decode cX6_writeMonk 0 = .ok (.aload_n 0, 1) := by decide +kernel
theorem dX6_writeMonk_1 : decode cX6_writeMonk 1 = .ok (.aload_n 0, 1) := by decide +kernel
theorem dX6_writeMonk_2 : decode cX6_writeMonk 2 = .ok (.iload_n 1, 1) := by decide +kernel
theorem dX6_writeMonk_3 : decode cX6_writeMonk 3 = .ok (.invokevirtual 124, 3) := by decide +kernel
theorem dX6_writeMonk_6 : decode cX6_writeMonk 6 = .ok (.ifCond .eq 7, 3) := by decide +kernel
theorem dX6_writeMonk_9 : decode cX6_writeMonk 9 = .ok (.iconst 0, 1) := by decide +kernel
theorem dX6_writeMonk_10 : decode cX6_writeMonk 10 = .ok (.goto 4, 3) := by decide +kernel
theorem dX6_writeMonk_13 : decode cX6_writeMonk 13 = .ok (.iconst 1, 1) := by decide +kernel
theorem dX6_writeMonk_14 : decode cX6_writeMonk 14 = .ok (.putfield 43, 3) := by decide +kernel
theorem dX6_writeMonk_17 : decode cX6_writeMonk 17 = .ok (.aload_n 0, 1) := by decide +kernel
theorem dX6_writeMonk_18 : decode cX6_writeMonk 18 = .ok (.getfield 43, 3) := by decide +kernel
theorem dX6_writeMonk_21 : decode cX6_writeMonk 21 = .ok (.ifCond .le 5, 3) := by decide +kernel
theorem dX6_writeMonk_24 : decode cX6_writeMonk 24 = .ok (.iconst 0, 1) := by decide +kernel
theorem dX6_writeMonk_25 : decode cX6_writeMonk 25 = .ok (.ireturn, 1) := by decide +kernel
theorem dX6_writeMonk_26 : decode cX6_writeMonk 26 = .ok (.aload_n 0, 1) := by decide +kernel
theorem dX6_writeMonk_27 : decode cX6_writeMonk 27 = .ok (.iconst 0, 1) := by decide +kernel
theorem dX6_writeMonk_28 : decode cX6_writeMonk 28 = .ok (.putfield 194, 3) := by decide +kernel
theorem dX6_writeMonk_31 : decode cX6_writeMonk 31 = .ok (.aload_n 0, 1) := by decide +kernel
theorem dX6_writeMonk_32 : decode cX6_writeMonk 32 = .ok (.aload_n 0, 1) := by decide +kernel
theorem dX6_writeMonk_33 : decode cX6_writeMonk 33 = .ok (.getfield 7, 3) := by decide +kernel
theorem dX6_writeMonk_36 : decode cX6_writeMonk 36 = .ok (.iload_n 1, 1) := by decide +kernel
theorem dX6_writeMonk_37 : decode cX6_writeMonk 37 = .ok (.iconst 0, 1) := by decide +kernel
theorem dX6_writeMonk_38 : decode cX6_writeMonk 38 = .ok (.invokestatic 61, 3) := by decide +kernel
theorem dX6_writeMonk_41 : decode cX6_writeMonk 41 = .ok (.iaload, 1) := by decide +kernel
theorem dX6_writeMonk_42 : decode cX6_writeMonk 42 = .ok (.invokevirtual 201, 3) := by decide +kernel
theorem dX6_writeMonk_45 : decode cX6_writeMonk 45 = .ok (.aload_n 0, 1) := by decide +kernel
theorem dX6_writeMonk_46 : decode cX6_writeMonk 46 = .ok (.bipush 58, 2) := by decide +kernel
theorem dX6_writeMonk_48 : decode cX6_writeMonk 48 = .ok (.invokevirtual 197, 3) := by decide +kernel
theorem dX6_writeMonk_51 : decode cX6_writeMonk 51 = .ok (.aload_n 0, 1) := by decide +kernel
theorem dX6_writeMonk_52 : decode cX6_writeMonk 52 = .ok (.aload_n 0, 1) := by decide +kernel
theorem dX6_writeMonk_53 : decode cX6_writeMonk 53 = .ok (.getfield 7, 3) := by decide +kernel
theorem dX6_writeMonk_56 : decode cX6_writeMonk 56 = .ok (.iload_n 1, 1) := by decide +kernel
theorem dX6_writeMonk_57 : decode cX6_writeMonk 57 = .ok (.iconst 2, 1) := by decide +kernel
theorem dX6_writeMonk_58 : decode cX6_writeMonk 58 = .ok (.invokestatic 61, 3) := by decide +kernel
theorem dX6_writeMonk_61 : decode cX6_writeMonk 61 = .ok (.iaload, 1) := by decide +kernel
theorem dX6_writeMonk_62 : decode cX6_writeMonk 62 = .ok (.invokevirtual 204, 3) := by decide +kernel
theorem dX6_writeMonk_65 : decode cX6_writeMonk 65 = .ok (.aload_n 0, 1) := by decide +kernel
theorem dX6_writeMonk_66 : decode cX6_writeMonk 66 = .ok (.bipush 47, 2) := by decide +kernel
theorem dX6_writeMonk_68 : decode cX6_writeMonk 68 = .ok (.invokevirtual 197, 3) := by decide +kernel
theorem dX6_writeMonk_71 : decode cX6_writeMonk 71 = .ok (.aload_n 0, 1) := by decide +kernel
theorem dX6_writeMonk_72 : decode cX6_writeMonk 72 = .ok (.aload_n 0, 1) := by decide +kernel
theorem dX6_writeMonk_73 : decode cX6_writeMonk 73 = .ok (.getfield 7, 3) := by decide +kernel
theorem dX6_writeMonk_76 : decode cX6_writeMonk 76 = .ok (.iload_n 1, 1) := by decide +kernel
theorem dX6_writeMonk_77 : decode cX6_writeMonk 77 = .ok (.iconst 3, 1) := by decide +kernel
theorem dX6_writeMonk_78 : decode cX6_writeMonk 78 = .ok (.invokestatic 61, 3) := by decide +kernel
theorem dX6_writeMonk_81 : decode cX6_writeMonk 81 = .ok (.iaload, 1) := by decide +kernel
theorem dX6_writeMonk_82 : decode cX6_writeMonk 82 = .ok (.invokevirtual 204, 3) := by decide +kernel
theorem dX6_writeMonk_85 : decode cX6_writeMonk 85 = .ok (.aload_n 0, 1) := by decide +kernel
theorem dX6_writeMonk_86 : decode cX6_writeMonk 86 = .ok (.getfield 194, 3) := by decide +kernel
theorem dX6_writeMonk_89 : decode cX6_writeMonk 89 = .ok (.ireturn, 1) := by decide +kernel
theorem dX6_writeDay_0 : decode cX6_writeDay 0 = .ok (.aload_n 0, 1) := by decide +kernel
theorem dX6_writeDay_1 : decode cX6_writeDay 1 = .ok (.iconst 0, 1) := by decide +kernel
theorem dX6_writeDay_2 : decode cX6_writeDay 2 = .ok (.putfield 43, 3) := by decide +kernel
theorem dX6_writeDay_5 : decode cX6_writeDay 5 = .ok (.aload_n 0, 1) := by decide +kernel
theorem dX6_writeDay_6 : decode cX6_writeDay 6 = .ok (.iconst 0, 1) := by decide +kernel
theorem dX6_writeDay_7 : decode cX6_writeDay 7 = .ok (.putfield 194, 3) := by decide +kernel
theorem dX6_writeDay_10 : decode cX6_writeDay 10 = .ok (.iconst 0, 1) := by decide +kernel
theorem dX6_writeDay_11 : decode cX6_writeDay 11 = .ok (.istore_n 1, 1) := by decide +kernel
theorem dX6_writeDay_12 : decode cX6_writeDay 12 = .ok (.iload_n 1, 1) := by decide +kernel
theorem dX6_writeDay_13 : decode cX6_writeDay 13 = .ok (.bipush 24, 2) := by decide +kernel
theorem dX6_writeDay_15 : decode cX6_writeDay 15 = .ok (.if_icmp .ge 28, 3) := by decide +kernel
theorem dX6_writeDay_18 : decode cX6_writeDay 18 = .ok (.aload_n 0, 1) := by decide +kernel
theorem dX6_writeDay_19 : decode cX6_writeDay 19 = .ok (.aload_n 0, 1) := by decide +kernel
theorem dX6_writeDay_20 : decode cX6_writeDay 20 = .ok (.iload_n 1, 1) := by decide +kernel
theorem dX6_writeDay_21 : decode cX6_writeDay 21 = .ok (.invokevirtual 68, 3) := by decide +kernel
theorem dX6_writeDay_24 : decode cX6_writeDay 24 = .ok (.ifCond .eq 8, 3) := by decide +kernel
theorem dX6_writeDay_27 : decode cX6_writeDay 27 = .ok (.bipush 115, 2) := by decide +kernel
theorem dX6_writeDay_29 : decode cX6_writeDay 29 = .ok (.goto 5, 3) := by decide +kernel
theorem dX6_writeDay_32 : decode cX6_writeDay 32 = .ok (.bipush 46, 2) := by decide +kernel
theorem dX6_writeDay_34 : decode cX6_writeDay 34 = .ok (.invokevirtual 197, 3) := by decide +kernel
theorem dX6_writeDay_37 : decode cX6_writeDay 37 = .ok (.iinc 1 1, 3) := by decide +kernel
theorem dX6_writeDay_40 : decode cX6_writeDay 40 = .ok (.goto (-28), 3) := by decide +kernel
theorem dX6_writeDay_43 : decode cX6_writeDay 43 = .ok (.aload_n 0, 1) := by decide +kernel
theorem dX6_writeDay_44 : decode cX6_writeDay 44 = .ok (.bipush 47, 2) := by decide +kernel
theorem dX6_writeDay_46 : decode cX6_writeDay 46 = .ok (.invokevirtual 197, 3) := by decide +kernel
theorem dX6_writeDay_49 : decode cX6_writeDay 49 = .ok (.sipush 1000, 3) := by decide +kernel
theorem dX6_writeDay_52 : decode cX6_writeDay 52 = .ok (.istore_n 1, 1) := by decide +kernel
theorem dX6_writeDay_53 : decode cX6_writeDay 53 = .ok (.iload_n 1, 1) := by decide +kernel
theorem dX6_writeDay_54 : decode cX6_writeDay 54 = .ok (.iconst 1, 1) := by decide +kernel
theorem dX6_writeDay_55 : decode cX6_writeDay 55 = .ok (.if_icmp .le 21, 3) := by decide +kernel
theorem dX6_writeDay_58 : decode cX6_writeDay 58 = .ok (.aload_n 0, 1) := by decide +kernel
theorem dX6_writeDay_59 : decode cX6_writeDay 59 = .ok (.getfield 7, 3) := by decide +kernel
theorem dX6_writeDay_62 : decode cX6_writeDay 62 = .ok (.iconst 4, 1) := by decide +kernel
theorem dX6_writeDay_63 : decode cX6_writeDay 63 = .ok (.iaload, 1) := by decide +kernel
theorem dX6_writeDay_64 : decode cX6_writeDay 64 = .ok (.iload_n 1, 1) := by decide +kernel
theorem dX6_writeDay_65 : decode cX6_writeDay 65 = .ok (.if_icmp .ge 11, 3) := by decide +kernel
theorem dX6_writeDay_68 : decode cX6_writeDay 68 = .ok (.iload_n 1, 1) := by decide +kernel
theorem dX6_writeDay_69 : decode cX6_writeDay 69 = .ok (.bipush 10, 2) := by decide +kernel
theorem dX6_writeDay_71 : decode cX6_writeDay 71 = .ok (.idiv, 1) := by decide +kernel
theorem dX6_writeDay_72 : decode cX6_writeDay 72 = .ok (.istore_n 1, 1) := by decide +kernel
theorem dX6_writeDay_73 : decode cX6_writeDay 73 = .ok (.goto (-20), 3) := by decide +kernel
theorem dX6_writeDay_76 : decode cX6_writeDay 76 = .ok (.iload_n 1, 1) := by decide +kernel
theorem dX6_writeDay_77 : decode cX6_writeDay 77 = .ok (.ifCond .le 29, 3) := by decide +kernel
theorem dX6_writeDay_80 : decode cX6_writeDay 80 = .ok (.aload_n 0, 1) := by decide +kernel
theorem dX6_writeDay_81 : decode cX6_writeDay 81 = .ok (.bipush 48, 2) := by decide +kernel
theorem dX6_writeDay_83 : decode cX6_writeDay 83 = .ok (.aload_n 0, 1) := by decide +kernel
theorem dX6_writeDay_84 : decode cX6_writeDay 84 = .ok (.getfield 7, 3) := by decide +kernel
theorem dX6_writeDay_87 : decode cX6_writeDay 87 = .ok (.iconst 4, 1) := by decide +kernel
theorem dX6_writeDay_88 : decode cX6_writeDay 88 = .ok (.iaload, 1) := by decide +kernel
theorem dX6_writeDay_89 : decode cX6_writeDay 89 = .ok (.iload_n 1, 1) := by decide +kernel
theorem dX6_writeDay_90 : decode cX6_writeDay 90 = .ok (.idiv, 1) := by decide +kernel
theorem dX6_writeDay_91 : decode cX6_writeDay 91 = .ok (.bipush 10, 2) := by decide +kernel
theorem dX6_writeDay_93 : decode cX6_writeDay 93 = .ok (.irem, 1) := by decide +kernel
theorem dX6_writeDay_94 : decode cX6_writeDay 94 = .ok (.iadd, 1) := by decide +kernel
theorem dX6_writeDay_95 : decode cX6_writeDay 95 = .ok (.invokevirtual 197, 3) := by decide +kernel
theorem dX6_writeDay_98 : decode cX6_writeDay 98 = .ok (.iload_n 1, 1) := by decide +kernel
theorem dX6_writeDay_99 : decode cX6_writeDay 99 = .ok (.bipush 10, 2) := by decide +kernel
theorem dX6_writeDay_101 : decode cX6_writeDay 101 = .ok (.idiv, 1) := by decide +kernel
theorem dX6_writeDay_102 : decode cX6_writeDay 102 = .ok (.istore_n 1, 1) := by decide +kernel
theorem dX6_writeDay_103 : decode cX6_writeDay 103 = .ok (.goto (-27), 3) := by decide +kernel
theorem dX6_writeDay_106 : decode cX6_writeDay 106 = .ok (.aload_n 0, 1) := by decide +kernel
theorem dX6_writeDay_107 : decode cX6_writeDay 107 = .ok (.getfield 194, 3) := by decide +kernel
theorem dX6_writeDay_110 : decode cX6_writeDay 110 = .ok (.ireturn, 1) := by decide +kernel
theorem dX6_writtenByte_0 : decode cX6_writtenByte 0 = .ok (.aload_n 0, 1) := by decide +kernel
theorem dX6_writtenByte_1 : decode cX6_writtenByte 1 = .ok (.iload_n 1, 1) := by decide +kernel
theorem dX6_writtenByte_2 : decode cX6_writtenByte 2 = .ok (.iconst 0, 1) := by decide +kernel
theorem dX6_writtenByte_3 : decode cX6_writtenByte 3 = .ok (.aload_n 0, 1) := by decide +kernel
theorem dX6_writtenByte_4 : decode cX6_writtenByte 4 = .ok (.getfield 194, 3) := by decide +kernel
theorem dX6_writtenByte_7 : decode cX6_writtenByte 7 = .ok (.iconst 1, 1) := by decide +kernel
theorem dX6_writtenByte_8 : decode cX6_writtenByte 8 = .ok (.isub, 1) := by decide +kernel
theorem dX6_writtenByte_9 : decode cX6_writtenByte 9 = .ok (.invokestatic 53, 3) := by decide +kernel
theorem dX6_writtenByte_12 : decode cX6_writtenByte 12 = .ok (.ifCond .eq 7, 3) := by decide +kernel
theorem dX6_writtenByte_15 : decode cX6_writtenByte 15 = .ok (.iconst 0, 1) := by decide +kernel
theorem dX6_writtenByte_16 : decode cX6_writtenByte 16 = .ok (.goto 4, 3) := by decide +kernel
theorem dX6_writtenByte_19 : decode cX6_writtenByte 19 = .ok (.iconst 1, 1) := by decide +kernel
theorem dX6_writtenByte_20 : decode cX6_writtenByte 20 = .ok (.putfield 43, 3) := by decide +kernel
theorem dX6_writtenByte_23 : decode cX6_writtenByte 23 = .ok (.aload_n 0, 1) := by decide +kernel
theorem dX6_writtenByte_24 : decode cX6_writtenByte 24 = .ok (.getfield 43, 3) := by decide +kernel
theorem dX6_writtenByte_27 : decode cX6_writtenByte 27 = .ok (.ifCond .le 7, 3) := by decide +kernel
theorem dX6_writtenByte_30 : decode cX6_writtenByte 30 = .ok (.iconst 0, 1) := by decide +kernel
theorem dX6_writtenByte_31 : decode cX6_writtenByte 31 = .ok (.goto 9, 3) := by decide +kernel
theorem dX6_writtenByte_34 : decode cX6_writtenByte 34 = .ok (.aload_n 0, 1) := by decide +kernel
theorem dX6_writtenByte_35 : decode cX6_writtenByte 35 = .ok (.getfield 26, 3) := by decide +kernel
theorem dX6_writtenByte_38 : decode cX6_writtenByte 38 = .ok (.iload_n 1, 1) := by decide +kernel
theorem dX6_writtenByte_39 : decode cX6_writtenByte 39 = .ok (.iaload, 1) := by decide +kernel
theorem dX6_writtenByte_40 : decode cX6_writtenByte 40 = .ok (.ireturn, 1) := by decide +kernel
theorem dX6_byteOf_0 : decode cX6_byteOf 0 = .ok (.iload_n 0, 1) := by decide +kernel
theorem dX6_byteOf_1 : decode cX6_byteOf 1 = .ok (.iconst 4, 1) := by decide +kernel
theorem dX6_byteOf_2 : decode cX6_byteOf 2 = .ok (.if_icmp .ge 7, 3) := by decide +kernel
theorem dX6_byteOf_5 : decode cX6_byteOf 5 = .ok (.iload_n 1, 1) := by decide +kernel
theorem dX6_byteOf_6 : decode cX6_byteOf 6 = .ok (.goto 36, 3) := by decide +kernel
theorem dX6_byteOf_9 : decode cX6_byteOf 9 = .ok (.iload_n 0, 1) := by decide +kernel
theorem dX6_byteOf_10 : decode cX6_byteOf 10 = .ok (.bipush 8, 2) := by decide +kernel
theorem dX6_byteOf_12 : decode cX6_byteOf 12 = .ok (.if_icmp .ge 7, 3) := by decide +kernel
theorem dX6_byteOf_15 : decode cX6_byteOf 15 = .ok (.iload_n 2, 1) := by decide +kernel
theorem dX6_byteOf_16 : decode cX6_byteOf 16 = .ok (.goto 26, 3) := by decide +kernel
theorem dX6_byteOf_19 : decode cX6_byteOf 19 = .ok (.iload_n 0, 1) := by decide +kernel
theorem dX6_byteOf_20 : decode cX6_byteOf 20 = .ok (.bipush 12, 2) := by decide +kernel
theorem dX6_byteOf_22 : decode cX6_byteOf 22 = .ok (.if_icmp .ge 7, 3) := by decide +kernel
theorem dX6_byteOf_25 : decode cX6_byteOf 25 = .ok (.iload_n 3, 1) := by decide +kernel
theorem dX6_byteOf_26 : decode cX6_byteOf 26 = .ok (.goto 16, 3) := by decide +kernel
theorem dX6_byteOf_29 : decode cX6_byteOf 29 = .ok (.iload_n 0, 1) := by decide +kernel
theorem dX6_byteOf_30 : decode cX6_byteOf 30 = .ok (.bipush 16, 2) := by decide +kernel
theorem dX6_byteOf_32 : decode cX6_byteOf 32 = .ok (.if_icmp .ge 8, 3) := by decide +kernel
theorem dX6_byteOf_35 : decode cX6_byteOf 35 = .ok (.iload 4, 2) := by decide +kernel
theorem dX6_byteOf_37 : decode cX6_byteOf 37 = .ok (.goto 5, 3) := by decide +kernel
theorem dX6_byteOf_40 : decode cX6_byteOf 40 = .ok (.iload 5, 2) := by decide +kernel
theorem dX6_byteOf_42 : decode cX6_byteOf 42 = .ok (.istore 6, 2) := by decide +kernel
theorem dX6_byteOf_44 : decode cX6_byteOf 44 = .ok (.iload 6, 2) := by decide +kernel
theorem dX6_byteOf_46 : decode cX6_byteOf 46 = .ok (.bipush 24, 2) := by decide +kernel
theorem dX6_byteOf_48 : decode cX6_byteOf 48 = .ok (.bipush 8, 2) := by decide +kernel
theorem dX6_byteOf_50 : decode cX6_byteOf 50 = .ok (.iload_n 0, 1) := by decide +kernel
theorem dX6_byteOf_51 : decode cX6_byteOf 51 = .ok (.iconst 4, 1) := by decide +kernel
theorem dX6_byteOf_52 : decode cX6_byteOf 52 = .ok (.irem, 1) := by decide +kernel
theorem dX6_byteOf_53 : decode cX6_byteOf 53 = .ok (.imul, 1) := by decide +kernel
theorem dX6_byteOf_54 : decode cX6_byteOf 54 = .ok (.isub, 1) := by decide +kernel
theorem dX6_byteOf_55 : decode cX6_byteOf 55 = .ok (.ishr, 1) := by decide +kernel
theorem dX6_byteOf_56 : decode cX6_byteOf 56 = .ok (.sipush 255, 3) := by decide +kernel
theorem dX6_byteOf_59 : decode cX6_byteOf 59 = .ok (.iand, 1) := by decide +kernel
theorem dX6_byteOf_60 : decode cX6_byteOf 60 = .ok (.ireturn, 1) := by decide +kernel
theorem dX6_append_0 : decode cX6_append 0 = .ok (.iconst 0, 1) := by decide +kernel
theorem dX6_append_1 : decode cX6_append 1 = .ok (.istore 6, 2) := by decide +kernel
theorem dX6_append_3 : decode cX6_append 3 = .ok (.iconst 0, 1) := by decide +kernel
theorem dX6_append_4 : decode cX6_append 4 = .ok (.istore 7, 2) := by decide +kernel
theorem dX6_append_6 : decode cX6_append 6 = .ok (.iload 7, 2) := by decide +kernel
theorem dX6_append_8 : decode cX6_append 8 = .ok (.bipush 20, 2) := by decide +kernel
theorem dX6_append_10 : decode cX6_append 10 = .ok (.if_icmp .ge 34, 3) := by decide +kernel
theorem dX6_append_13 : decode cX6_append 13 = .ok (.iload 6, 2) := by decide +kernel
theorem dX6_append_15 : decode cX6_append 15 = .ok (.iload 7, 2) := by decide +kernel
theorem dX6_append_17 : decode cX6_append 17 = .ok (.iload_n 1, 1) := by decide +kernel
theorem dX6_append_18 : decode cX6_append 18 = .ok (.iload_n 2, 1) := by decide +kernel
theorem dX6_append_19 : decode cX6_append 19 = .ok (.iload_n 3, 1) := by decide +kernel
theorem dX6_append_20 : decode cX6_append 20 = .ok (.iload 4, 2) := by decide +kernel
theorem dX6_append_22 : decode cX6_append 22 = .ok (.iload 5, 2) := by decide +kernel
theorem dX6_append_24 : decode cX6_append 24 = .ok (.invokestatic 207, 3) := by decide +kernel
theorem dX6_append_27 : decode cX6_append 27 = .ok (.ifCond .ne 7, 3) := by decide +kernel
theorem dX6_append_30 : decode cX6_append 30 = .ok (.iconst 0, 1) := by decide +kernel
theorem dX6_append_31 : decode cX6_append 31 = .ok (.goto 4, 3) := by decide +kernel
theorem dX6_append_34 : decode cX6_append 34 = .ok (.iconst 1, 1) := by decide +kernel
theorem dX6_append_35 : decode cX6_append 35 = .ok (.iadd, 1) := by decide +kernel
theorem dX6_append_36 : decode cX6_append 36 = .ok (.istore 6, 2) := by decide +kernel
theorem dX6_append_38 : decode cX6_append 38 = .ok (.iinc 7 1, 3) := by decide +kernel
theorem dX6_append_41 : decode cX6_append 41 = .ok (.goto (-35), 3) := by decide +kernel
theorem dX6_append_44 : decode cX6_append 44 = .ok (.aload_n 0, 1) := by decide +kernel
theorem dX6_append_45 : decode cX6_append 45 = .ok (.aload_n 0, 1) := by decide +kernel
theorem dX6_append_46 : decode cX6_append 46 = .ok (.getfield 211, 3) := by decide +kernel
theorem dX6_append_49 : decode cX6_append 49 = .ok (.iload 6, 2) := by decide +kernel
theorem dX6_append_51 : decode cX6_append 51 = .ok (.iadd, 1) := by decide +kernel
theorem dX6_append_52 : decode cX6_append 52 = .ok (.sipush 800, 3) := by decide +kernel
theorem dX6_append_55 : decode cX6_append 55 = .ok (.if_icmp .le 7, 3) := by decide +kernel
theorem dX6_append_58 : decode cX6_append 58 = .ok (.iconst 1, 1) := by decide +kernel
theorem dX6_append_59 : decode cX6_append 59 = .ok (.goto 4, 3) := by decide +kernel
theorem dX6_append_62 : decode cX6_append 62 = .ok (.iconst 0, 1) := by decide +kernel
theorem dX6_append_63 : decode cX6_append 63 = .ok (.putfield 43, 3) := by decide +kernel
theorem dX6_append_66 : decode cX6_append 66 = .ok (.aload_n 0, 1) := by decide +kernel
theorem dX6_append_67 : decode cX6_append 67 = .ok (.getfield 43, 3) := by decide +kernel
theorem dX6_append_70 : decode cX6_append 70 = .ok (.ifCond .le 5, 3) := by decide +kernel
theorem dX6_append_73 : decode cX6_append 73 = .ok (.iconst 0, 1) := by decide +kernel
theorem dX6_append_74 : decode cX6_append 74 = .ok (.ireturn, 1) := by decide +kernel
theorem dX6_append_75 : decode cX6_append 75 = .ok (.iconst 0, 1) := by decide +kernel
theorem dX6_append_76 : decode cX6_append 76 = .ok (.istore 7, 2) := by decide +kernel
theorem dX6_append_78 : decode cX6_append 78 = .ok (.iload 7, 2) := by decide +kernel
theorem dX6_append_80 : decode cX6_append 80 = .ok (.bipush 20, 2) := by decide +kernel
theorem dX6_append_82 : decode cX6_append 82 = .ok (.if_icmp .ge 52, 3) := by decide +kernel
theorem dX6_append_85 : decode cX6_append 85 = .ok (.iload 7, 2) := by decide +kernel
theorem dX6_append_87 : decode cX6_append 87 = .ok (.iload_n 1, 1) := by decide +kernel
theorem dX6_append_88 : decode cX6_append 88 = .ok (.iload_n 2, 1) := by decide +kernel
theorem dX6_append_89 : decode cX6_append 89 = .ok (.iload_n 3, 1) := by decide +kernel
theorem dX6_append_90 : decode cX6_append 90 = .ok (.iload 4, 2) := by decide +kernel
theorem dX6_append_92 : decode cX6_append 92 = .ok (.iload 5, 2) := by decide +kernel
theorem dX6_append_94 : decode cX6_append 94 = .ok (.invokestatic 207, 3) := by decide +kernel
theorem dX6_append_97 : decode cX6_append 97 = .ok (.istore 8, 2) := by decide +kernel
theorem dX6_append_99 : decode cX6_append 99 = .ok (.iload 8, 2) := by decide +kernel
theorem dX6_append_101 : decode cX6_append 101 = .ok (.ifCond .ne 6, 3) := by decide +kernel
theorem dX6_append_104 : decode cX6_append 104 = .ok (.goto 24, 3) := by decide +kernel
theorem dX6_append_107 : decode cX6_append 107 = .ok (.aload_n 0, 1) := by decide +kernel
theorem dX6_append_108 : decode cX6_append 108 = .ok (.getfield 29, 3) := by decide +kernel
theorem dX6_append_111 : decode cX6_append 111 = .ok (.aload_n 0, 1) := by decide +kernel
theorem dX6_append_112 : decode cX6_append 112 = .ok (.getfield 211, 3) := by decide +kernel
theorem dX6_append_115 : decode cX6_append 115 = .ok (.iload 8, 2) := by decide +kernel
theorem dX6_append_117 : decode cX6_append 117 = .ok (.iastore, 1) := by decide +kernel
theorem dX6_append_118 : decode cX6_append 118 = .ok (.aload_n 0, 1) := by decide +kernel
theorem dX6_append_119 : decode cX6_append 119 = .ok (.dup, 1) := by decide +kernel
theorem dX6_append_120 : decode cX6_append 120 = .ok (.getfield 211, 3) := by decide +kernel
theorem dX6_append_123 : decode cX6_append 123 = .ok (.iconst 1, 1) := by decide +kernel
theorem dX6_append_124 : decode cX6_append 124 = .ok (.iadd, 1) := by decide +kernel
theorem dX6_append_125 : decode cX6_append 125 = .ok (.putfield 211, 3) := by decide +kernel
theorem dX6_append_128 : decode cX6_append 128 = .ok (.iinc 7 1, 3) := by decide +kernel
theorem dX6_append_131 : decode cX6_append 131 = .ok (.goto (-53), 3) := by decide +kernel
theorem dX6_append_134 : decode cX6_append 134 = .ok (.aload_n 0, 1) := by decide +kernel
theorem dX6_append_135 : decode cX6_append 135 = .ok (.getfield 211, 3) := by decide +kernel
theorem dX6_append_138 : decode cX6_append 138 = .ok (.ireturn, 1) := by decide +kernel
theorem dX6_look_0 : decode cX6_look 0 = .ok (.iload_n 1, 1) := by decide +kernel
theorem dX6_look_1 : decode cX6_look 1 = .ok (.aload_n 0, 1) := by decide +kernel
theorem dX6_look_2 : decode cX6_look 2 = .ok (.getfield 211, 3) := by decide +kernel
theorem dX6_look_5 : decode cX6_look 5 = .ok (.if_icmp .ge 12, 3) := by decide +kernel
theorem dX6_look_8 : decode cX6_look 8 = .ok (.aload_n 0, 1) := by decide +kernel
theorem dX6_look_9 : decode cX6_look 9 = .ok (.getfield 29, 3) := by decide +kernel
theorem dX6_look_12 : decode cX6_look 12 = .ok (.iload_n 1, 1) := by decide +kernel
theorem dX6_look_13 : decode cX6_look 13 = .ok (.iaload, 1) := by decide +kernel
theorem dX6_look_14 : decode cX6_look 14 = .ok (.goto 4, 3) := by decide +kernel
theorem dX6_look_17 : decode cX6_look 17 = .ok (.iconst (-1), 1) := by decide +kernel
theorem dX6_look_18 : decode cX6_look 18 = .ok (.ireturn, 1) := by decide +kernel
theorem dX6_isLetter_0 : decode cX6_isLetter 0 = .ok (.aload_n 0, 1) := by decide +kernel
theorem dX6_isLetter_1 : decode cX6_isLetter 1 = .ok (.iload_n 1, 1) := by decide +kernel
theorem dX6_isLetter_2 : decode cX6_isLetter 2 = .ok (.invokevirtual 214, 3) := by decide +kernel
theorem dX6_isLetter_5 : decode cX6_isLetter 5 = .ok (.bipush 97, 2) := by decide +kernel
theorem dX6_isLetter_7 : decode cX6_isLetter 7 = .ok (.bipush 122, 2) := by decide +kernel
theorem dX6_isLetter_9 : decode cX6_isLetter 9 = .ok (.invokestatic 53, 3) := by decide +kernel
theorem dX6_isLetter_12 : decode cX6_isLetter 12 = .ok (.ireturn, 1) := by decide +kernel
theorem dX6_isDigit_0 : decode cX6_isDigit 0 = .ok (.aload_n 0, 1) := by decide +kernel
theorem dX6_isDigit_1 : decode cX6_isDigit 1 = .ok (.iload_n 1, 1) := by decide +kernel
theorem dX6_isDigit_2 : decode cX6_isDigit 2 = .ok (.invokevirtual 214, 3) := by decide +kernel
theorem dX6_isDigit_5 : decode cX6_isDigit 5 = .ok (.bipush 48, 2) := by decide +kernel
theorem dX6_isDigit_7 : decode cX6_isDigit 7 = .ok (.bipush 57, 2) := by decide +kernel
theorem dX6_isDigit_9 : decode cX6_isDigit 9 = .ok (.invokestatic 53, 3) := by decide +kernel
theorem dX6_isDigit_12 : decode cX6_isDigit 12 = .ok (.ireturn, 1) := by decide +kernel
theorem dX6_next_0 : decode cX6_next 0 = .ok (.aload_n 0, 1) := by decide +kernel
theorem dX6_next_1 : decode cX6_next 1 = .ok (.aload_n 0, 1) := by decide +kernel
theorem dX6_next_2 : decode cX6_next 2 = .ok (.getfield 217, 3) := by decide +kernel
theorem dX6_next_5 : decode cX6_next 5 = .ok (.putfield 220, 3) := by decide +kernel
theorem dX6_next_8 : decode cX6_next 8 = .ok (.aload_n 0, 1) := by decide +kernel
theorem dX6_next_9 : decode cX6_next 9 = .ok (.aload_n 0, 1) := by decide +kernel
theorem dX6_next_10 : decode cX6_next 10 = .ok (.getfield 220, 3) := by decide +kernel
theorem dX6_next_13 : decode cX6_next 13 = .ok (.invokevirtual 214, 3) := by decide +kernel
theorem dX6_next_16 : decode cX6_next 16 = .ok (.bipush 32, 2) := by decide +kernel
theorem dX6_next_18 : decode cX6_next 18 = .ok (.if_icmp .ne 16, 3) := by decide +kernel
theorem dX6_next_21 : decode cX6_next 21 = .ok (.aload_n 0, 1) := by decide +kernel
theorem dX6_next_22 : decode cX6_next 22 = .ok (.dup, 1) := by decide +kernel
theorem dX6_next_23 : decode cX6_next 23 = .ok (.getfield 220, 3) := by decide +kernel
theorem dX6_next_26 : decode cX6_next 26 = .ok (.iconst 1, 1) := by decide +kernel
theorem dX6_next_27 : decode cX6_next 27 = .ok (.iadd, 1) := by decide +kernel
theorem dX6_next_28 : decode cX6_next 28 = .ok (.putfield 220, 3) := by decide +kernel
theorem dX6_next_31 : decode cX6_next 31 = .ok (.goto (-23), 3) := by decide +kernel
theorem dX6_next_34 : decode cX6_next 34 = .ok (.aload_n 0, 1) := by decide +kernel
theorem dX6_next_35 : decode cX6_next 35 = .ok (.aload_n 0, 1) := by decide +kernel
theorem dX6_next_36 : decode cX6_next 36 = .ok (.getfield 220, 3) := by decide +kernel
theorem dX6_next_39 : decode cX6_next 39 = .ok (.putfield 217, 3) := by decide +kernel
theorem dX6_next_42 : decode cX6_next 42 = .ok (.aload_n 0, 1) := by decide +kernel
theorem dX6_next_43 : decode cX6_next 43 = .ok (.iconst 0, 1) := by decide +kernel
theorem dX6_next_44 : decode cX6_next 44 = .ok (.putfield 223, 3) := by decide +kernel
theorem dX6_next_47 : decode cX6_next 47 = .ok (.aload_n 0, 1) := by decide +kernel
theorem dX6_next_48 : decode cX6_next 48 = .ok (.getfield 220, 3) := by decide +kernel
theorem dX6_next_51 : decode cX6_next 51 = .ok (.aload_n 0, 1) := by decide +kernel
theorem dX6_next_52 : decode cX6_next 52 = .ok (.getfield 211, 3) := by decide +kernel
theorem dX6_next_55 : decode cX6_next 55 = .ok (.if_icmp .lt 11, 3) := by decide +kernel
theorem dX6_next_58 : decode cX6_next 58 = .ok (.aload_n 0, 1) := by decide +kernel
theorem dX6_next_59 : decode cX6_next 59 = .ok (.iconst 3, 1) := by decide +kernel
theorem dX6_next_60 : decode cX6_next 60 = .ok (.putfield 226, 3) := by decide +kernel
theorem dX6_next_63 : decode cX6_next 63 = .ok (.goto 133, 3) := by decide +kernel
theorem dX6_next_66 : decode cX6_next 66 = .ok (.aload_n 0, 1) := by decide +kernel
theorem dX6_next_67 : decode cX6_next 67 = .ok (.aload_n 0, 1) := by decide +kernel
theorem dX6_next_68 : decode cX6_next 68 = .ok (.getfield 220, 3) := by decide +kernel
theorem dX6_next_71 : decode cX6_next 71 = .ok (.invokevirtual 229, 3) := by decide +kernel
theorem dX6_next_74 : decode cX6_next 74 = .ok (.ifCond .eq 35, 3) := by decide +kernel
theorem dX6_next_77 : decode cX6_next 77 = .ok (.aload_n 0, 1) := by decide +kernel
theorem dX6_next_78 : decode cX6_next 78 = .ok (.aload_n 0, 1) := by decide +kernel
theorem dX6_next_79 : decode cX6_next 79 = .ok (.getfield 217, 3) := by decide +kernel
theorem dX6_next_82 : decode cX6_next 82 = .ok (.invokevirtual 229, 3) := by decide +kernel
theorem dX6_next_85 : decode cX6_next 85 = .ok (.ifCond .eq 16, 3) := by decide +kernel
theorem dX6_next_88 : decode cX6_next 88 = .ok (.aload_n 0, 1) := by decide +kernel
theorem dX6_next_89 : decode cX6_next 89 = .ok (.dup, 1) := by decide +kernel
theorem dX6_next_90 : decode cX6_next 90 = .ok (.getfield 217, 3) := by decide +kernel
theorem dX6_next_93 : decode cX6_next 93 = .ok (.iconst 1, 1) := by decide +kernel
theorem dX6_next_94 : decode cX6_next 94 = .ok (.iadd, 1) := by decide +kernel
theorem dX6_next_95 : decode cX6_next 95 = .ok (.putfield 217, 3) := by decide +kernel
theorem dX6_next_98 : decode cX6_next 98 = .ok (.goto (-21), 3) := by decide +kernel
theorem dX6_next_101 : decode cX6_next 101 = .ok (.aload_n 0, 1) := by decide +kernel
theorem dX6_next_102 : decode cX6_next 102 = .ok (.iconst 0, 1) := by decide +kernel
theorem dX6_next_103 : decode cX6_next 103 = .ok (.putfield 226, 3) := by decide +kernel
theorem dX6_next_106 : decode cX6_next 106 = .ok (.goto 90, 3) := by decide +kernel
theorem dX6_next_109 : decode cX6_next 109 = .ok (.aload_n 0, 1) := by decide +kernel
theorem dX6_next_110 : decode cX6_next 110 = .ok (.aload_n 0, 1) := by decide +kernel
theorem dX6_next_111 : decode cX6_next 111 = .ok (.getfield 220, 3) := by decide +kernel
theorem dX6_next_114 : decode cX6_next 114 = .ok (.invokevirtual 232, 3) := by decide +kernel
theorem dX6_next_117 : decode cX6_next 117 = .ok (.ifCond .eq 64, 3) := by decide +kernel
theorem dX6_next_120 : decode cX6_next 120 = .ok (.aload_n 0, 1) := by decide +kernel
theorem dX6_next_121 : decode cX6_next 121 = .ok (.aload_n 0, 1) := by decide +kernel
theorem dX6_next_122 : decode cX6_next 122 = .ok (.getfield 217, 3) := by decide +kernel
theorem dX6_next_125 : decode cX6_next 125 = .ok (.invokevirtual 232, 3) := by decide +kernel
theorem dX6_next_128 : decode cX6_next 128 = .ok (.ifCond .eq 45, 3) := by decide +kernel
theorem dX6_next_131 : decode cX6_next 131 = .ok (.aload_n 0, 1) := by decide +kernel
theorem dX6_next_132 : decode cX6_next 132 = .ok (.sipush 10000, 3) := by decide +kernel
theorem dX6_next_135 : decode cX6_next 135 = .ok (.bipush 10, 2) := by decide +kernel
theorem dX6_next_137 : decode cX6_next 137 = .ok (.aload_n 0, 1) := by decide +kernel
theorem dX6_next_138 : decode cX6_next 138 = .ok (.getfield 223, 3) := by decide +kernel
theorem dX6_next_141 : decode cX6_next 141 = .ok (.imul, 1) := by decide +kernel
theorem dX6_next_142 : decode cX6_next 142 = .ok (.aload_n 0, 1) := by decide +kernel
theorem dX6_next_143 : decode cX6_next 143 = .ok (.aload_n 0, 1) := by decide +kernel
theorem dX6_next_144 : decode cX6_next 144 = .ok (.getfield 217, 3) := by decide +kernel
theorem dX6_next_147 : decode cX6_next 147 = .ok (.invokevirtual 214, 3) := by decide +kernel
theorem dX6_next_150 : decode cX6_next 150 = .ok (.iadd, 1) := by decide +kernel
theorem dX6_next_151 : decode cX6_next 151 = .ok (.bipush 48, 2) := by decide +kernel
theorem dX6_next_153 : decode cX6_next 153 = .ok (.isub, 1) := by decide +kernel
theorem dX6_next_154 : decode cX6_next 154 = .ok (.invokestatic 79, 3) := by decide +kernel
theorem dX6_next_157 : decode cX6_next 157 = .ok (.putfield 223, 3) := by decide +kernel
theorem dX6_next_160 : decode cX6_next 160 = .ok (.aload_n 0, 1) := by decide +kernel
theorem dX6_next_161 : decode cX6_next 161 = .ok (.dup, 1) := by decide +kernel
theorem dX6_next_162 : decode cX6_next 162 = .ok (.getfield 217, 3) := by decide +kernel
theorem dX6_next_165 : decode cX6_next 165 = .ok (.iconst 1, 1) := by decide +kernel
theorem dX6_next_166 : decode cX6_next 166 = .ok (.iadd, 1) := by decide +kernel
theorem dX6_next_167 : decode cX6_next 167 = .ok (.putfield 217, 3) := by decide +kernel
theorem dX6_next_170 : decode cX6_next 170 = .ok (.goto (-50), 3) := by decide +kernel
theorem dX6_next_173 : decode cX6_next 173 = .ok (.aload_n 0, 1) := by decide +kernel
theorem dX6_next_174 : decode cX6_next 174 = .ok (.iconst 1, 1) := by decide +kernel
theorem dX6_next_175 : decode cX6_next 175 = .ok (.putfield 226, 3) := by decide +kernel
theorem dX6_next_178 : decode cX6_next 178 = .ok (.goto 18, 3) := by decide +kernel
theorem dX6_next_181 : decode cX6_next 181 = .ok (.aload_n 0, 1) := by decide +kernel
theorem dX6_next_182 : decode cX6_next 182 = .ok (.dup, 1) := by decide +kernel
theorem dX6_next_183 : decode cX6_next 183 = .ok (.getfield 217, 3) := by decide +kernel
theorem dX6_next_186 : decode cX6_next 186 = .ok (.iconst 1, 1) := by decide +kernel
theorem dX6_next_187 : decode cX6_next 187 = .ok (.iadd, 1) := by decide +kernel
theorem dX6_next_188 : decode cX6_next 188 = .ok (.putfield 217, 3) := by decide +kernel
theorem dX6_next_191 : decode cX6_next 191 = .ok (.aload_n 0, 1) := by decide +kernel
theorem dX6_next_192 : decode cX6_next 192 = .ok (.iconst 2, 1) := by decide +kernel
theorem dX6_next_193 : decode cX6_next 193 = .ok (.putfield 226, 3) := by decide +kernel
theorem dX6_next_196 : decode cX6_next 196 = .ok (.return_, 1) := by decide +kernel
theorem dX6_isWord_0 : decode cX6_isWord 0 = .ok (.aload_n 0, 1) := by decide +kernel
theorem dX6_isWord_1 : decode cX6_isWord 1 = .ok (.getfield 235, 3) := by decide +kernel
theorem dX6_isWord_4 : decode cX6_isWord 4 = .ok (.ifCond .ne 26, 3) := by decide +kernel
theorem dX6_isWord_7 : decode cX6_isWord 7 = .ok (.aload_n 0, 1) := by decide +kernel
theorem dX6_isWord_8 : decode cX6_isWord 8 = .ok (.getfield 226, 3) := by decide +kernel
theorem dX6_isWord_11 : decode cX6_isWord 11 = .ok (.ifCond .ne 19, 3) := by decide +kernel
theorem dX6_isWord_14 : decode cX6_isWord 14 = .ok (.aload_n 0, 1) := by decide +kernel
theorem dX6_isWord_15 : decode cX6_isWord 15 = .ok (.getfield 217, 3) := by decide +kernel
theorem dX6_isWord_18 : decode cX6_isWord 18 = .ok (.aload_n 0, 1) := by decide +kernel
theorem dX6_isWord_19 : decode cX6_isWord 19 = .ok (.getfield 220, 3) := by decide +kernel
theorem dX6_isWord_22 : decode cX6_isWord 22 = .ok (.isub, 1) := by decide +kernel
theorem dX6_isWord_23 : decode cX6_isWord 23 = .ok (.aload_n 1, 1) := by decide +kernel
theorem dX6_isWord_24 : decode cX6_isWord 24 = .ok (.invokevirtual 238, 3) := by decide +kernel
theorem dX6_isWord_27 : decode cX6_isWord 27 = .ok (.if_icmp .eq 5, 3) := by decide +kernel
theorem dX6_isWord_30 : decode cX6_isWord 30 = .ok (.iconst 0, 1) := by decide +kernel
theorem dX6_isWord_31 : decode cX6_isWord 31 = .ok (.ireturn, 1) := by decide +kernel
theorem dX6_isWord_32 : decode cX6_isWord 32 = .ok (.iconst 0, 1) := by decide +kernel
theorem dX6_isWord_33 : decode cX6_isWord 33 = .ok (.istore_n 2, 1) := by decide +kernel
theorem dX6_isWord_34 : decode cX6_isWord 34 = .ok (.iload_n 2, 1) := by decide +kernel
theorem dX6_isWord_35 : decode cX6_isWord 35 = .ok (.aload_n 1, 1) := by decide +kernel
theorem dX6_isWord_36 : decode cX6_isWord 36 = .ok (.invokevirtual 238, 3) := by decide +kernel
theorem dX6_isWord_39 : decode cX6_isWord 39 = .ok (.if_icmp .ge 30, 3) := by decide +kernel
theorem dX6_isWord_42 : decode cX6_isWord 42 = .ok (.aload_n 0, 1) := by decide +kernel
theorem dX6_isWord_43 : decode cX6_isWord 43 = .ok (.getfield 29, 3) := by decide +kernel
theorem dX6_isWord_46 : decode cX6_isWord 46 = .ok (.aload_n 0, 1) := by decide +kernel
theorem dX6_isWord_47 : decode cX6_isWord 47 = .ok (.getfield 220, 3) := by decide +kernel
theorem dX6_isWord_50 : decode cX6_isWord 50 = .ok (.iload_n 2, 1) := by decide +kernel
theorem dX6_isWord_51 : decode cX6_isWord 51 = .ok (.iadd, 1) := by decide +kernel
theorem dX6_isWord_52 : decode cX6_isWord 52 = .ok (.iaload, 1) := by decide +kernel
theorem dX6_isWord_53 : decode cX6_isWord 53 = .ok (.aload_n 1, 1) := by decide +kernel
theorem dX6_isWord_54 : decode cX6_isWord 54 = .ok (.iload_n 2, 1) := by decide +kernel
theorem dX6_isWord_55 : decode cX6_isWord 55 = .ok (.invokevirtual 243, 3) := by decide +kernel
theorem dX6_isWord_58 : decode cX6_isWord 58 = .ok (.if_icmp .eq 5, 3) := by decide +kernel
theorem dX6_isWord_61 : decode cX6_isWord 61 = .ok (.iconst 0, 1) := by decide +kernel
theorem dX6_isWord_62 : decode cX6_isWord 62 = .ok (.ireturn, 1) := by decide +kernel
theorem dX6_isWord_63 : decode cX6_isWord 63 = .ok (.iinc 2 1, 3) := by decide +kernel
theorem dX6_isWord_66 : decode cX6_isWord 66 = .ok (.goto (-32), 3) := by decide +kernel
theorem dX6_isWord_69 : decode cX6_isWord 69 = .ok (.iconst 1, 1) := by decide +kernel
theorem dX6_isWord_70 : decode cX6_isWord 70 = .ok (.ireturn, 1) := by decide +kernel
theorem dX6_errs_0 : decode cX6_errs 0 = .ok (.aload_n 0, 1) := by decide +kernel
theorem dX6_errs_1 : decode cX6_errs 1 = .ok (.getfield 235, 3) := by decide +kernel
theorem dX6_errs_4 : decode cX6_errs 4 = .ok (.ifCond .eq 4, 3) := by decide +kernel
theorem dX6_errs_7 : decode cX6_errs 7 = .ok (.return_, 1) := by decide +kernel
theorem dX6_errs_8 : decode cX6_errs 8 = .ok (.aload_n 0, 1) := by decide +kernel
theorem dX6_errs_9 : decode cX6_errs 9 = .ok (.iload_n 1, 1) := by decide +kernel
theorem dX6_errs_10 : decode cX6_errs 10 = .ok (.putfield 235, 3) := by decide +kernel
theorem dX6_errs_13 : decode cX6_errs 13 = .ok (.aload_n 0, 1) := by decide +kernel
theorem dX6_errs_14 : decode cX6_errs 14 = .ok (.aload_n 0, 1) := by decide +kernel
theorem dX6_errs_15 : decode cX6_errs 15 = .ok (.getfield 220, 3) := by decide +kernel
theorem dX6_errs_18 : decode cX6_errs 18 = .ok (.putfield 247, 3) := by decide +kernel
theorem dX6_errs_21 : decode cX6_errs 21 = .ok (.return_, 1) := by decide +kernel
theorem dX6_must_0 : decode cX6_must 0 = .ok (.iload_n 1, 1) := by decide +kernel
theorem dX6_must_1 : decode cX6_must 1 = .ok (.ifCond .ne 9, 3) := by decide +kernel
theorem dX6_must_4 : decode cX6_must 4 = .ok (.aload_n 0, 1) := by decide +kernel
theorem dX6_must_5 : decode cX6_must 5 = .ok (.bipush (-2), 2) := by decide +kernel
theorem dX6_must_7 : decode cX6_must 7 = .ok (.invokevirtual 250, 3) := by decide +kernel
theorem dX6_must_10 : decode cX6_must 10 = .ok (.aload_n 0, 1) := by decide +kernel
theorem dX6_must_11 : decode cX6_must 11 = .ok (.getfield 235, 3) := by decide +kernel
theorem dX6_must_14 : decode cX6_must 14 = .ok (.ifCond .ne 7, 3) := by decide +kernel
theorem dX6_must_17 : decode cX6_must 17 = .ok (.aload_n 0, 1) := by decide +kernel
theorem dX6_must_18 : decode cX6_must 18 = .ok (.invokevirtual 253, 3) := by decide +kernel
theorem dX6_must_21 : decode cX6_must 21 = .ok (.return_, 1) := by decide +kernel
theorem dX6_isEnd_0 : decode cX6_isEnd 0 = .ok (.aload_n 0, 1) := by decide +kernel
theorem dX6_isEnd_1 : decode cX6_isEnd 1 = .ok (.getfield 235, 3) := by decide +kernel
theorem dX6_isEnd_4 : decode cX6_isEnd 4 = .ok (.ifCond .ne 28, 3) := by decide +kernel
theorem dX6_isEnd_7 : decode cX6_isEnd 7 = .ok (.aload_n 0, 1) := by decide +kernel
theorem dX6_isEnd_8 : decode cX6_isEnd 8 = .ok (.getfield 226, 3) := by decide +kernel
theorem dX6_isEnd_11 : decode cX6_isEnd 11 = .ok (.iconst 2, 1) := by decide +kernel
theorem dX6_isEnd_12 : decode cX6_isEnd 12 = .ok (.if_icmp .ne 20, 3) := by decide +kernel
theorem dX6_isEnd_15 : decode cX6_isEnd 15 = .ok (.aload_n 0, 1) := by decide +kernel
theorem dX6_isEnd_16 : decode cX6_isEnd 16 = .ok (.aload_n 0, 1) := by decide +kernel
theorem dX6_isEnd_17 : decode cX6_isEnd 17 = .ok (.getfield 220, 3) := by decide +kernel
theorem dX6_isEnd_20 : decode cX6_isEnd 20 = .ok (.invokevirtual 214, 3) := by decide +kernel
theorem dX6_isEnd_23 : decode cX6_isEnd 23 = .ok (.bipush 59, 2) := by decide +kernel
theorem dX6_isEnd_25 : decode cX6_isEnd 25 = .ok (.if_icmp .ne 7, 3) := by decide +kernel
theorem dX6_isEnd_28 : decode cX6_isEnd 28 = .ok (.iconst 1, 1) := by decide +kernel
theorem dX6_isEnd_29 : decode cX6_isEnd 29 = .ok (.goto 4, 3) := by decide +kernel
theorem dX6_isEnd_32 : decode cX6_isEnd 32 = .ok (.iconst 0, 1) := by decide +kernel
theorem dX6_isEnd_33 : decode cX6_isEnd 33 = .ok (.ireturn, 1) := by decide +kernel
theorem dX6_takes_0 : decode cX6_takes 0 = .ok (.aload_n 0, 1) := by decide +kernel
theorem dX6_takes_1 : decode cX6_takes 1 = .ok (.getfield 235, 3) := by decide +kernel
theorem dX6_takes_4 : decode cX6_takes 4 = .ok (.ifCond .ne 17, 3) := by decide +kernel
theorem dX6_takes_7 : decode cX6_takes 7 = .ok (.aload_n 0, 1) := by decide +kernel
theorem dX6_takes_8 : decode cX6_takes 8 = .ok (.getfield 226, 3) := by decide +kernel
theorem dX6_takes_11 : decode cX6_takes 11 = .ok (.iconst 1, 1) := by decide +kernel
theorem dX6_takes_12 : decode cX6_takes 12 = .ok (.if_icmp .eq 9, 3) := by decide +kernel
theorem dX6_takes_15 : decode cX6_takes 15 = .ok (.aload_n 0, 1) := by decide +kernel
theorem dX6_takes_16 : decode cX6_takes 16 = .ok (.bipush (-2), 2) := by decide +kernel
theorem dX6_takes_18 : decode cX6_takes 18 = .ok (.invokevirtual 250, 3) := by decide +kernel
theorem dX6_takes_21 : decode cX6_takes 21 = .ok (.aload_n 0, 1) := by decide +kernel
theorem dX6_takes_22 : decode cX6_takes 22 = .ok (.getfield 235, 3) := by decide +kernel
theorem dX6_takes_25 : decode cX6_takes 25 = .ok (.ifCond .ne 21, 3) := by decide +kernel
theorem dX6_takes_28 : decode cX6_takes 28 = .ok (.aload_n 0, 1) := by decide +kernel
theorem dX6_takes_29 : decode cX6_takes 29 = .ok (.getfield 223, 3) := by decide +kernel
theorem dX6_takes_32 : decode cX6_takes 32 = .ok (.iload_n 1, 1) := by decide +kernel
theorem dX6_takes_33 : decode cX6_takes 33 = .ok (.iload_n 2, 1) := by decide +kernel
theorem dX6_takes_34 : decode cX6_takes 34 = .ok (.invokestatic 53, 3) := by decide +kernel
theorem dX6_takes_37 : decode cX6_takes 37 = .ok (.ifCond .ne 9, 3) := by decide +kernel
theorem dX6_takes_40 : decode cX6_takes 40 = .ok (.aload_n 0, 1) := by decide +kernel
theorem dX6_takes_41 : decode cX6_takes 41 = .ok (.bipush (-3), 2) := by decide +kernel
theorem dX6_takes_43 : decode cX6_takes 43 = .ok (.invokevirtual 250, 3) := by decide +kernel
theorem dX6_takes_46 : decode cX6_takes 46 = .ok (.aload_n 0, 1) := by decide +kernel
theorem dX6_takes_47 : decode cX6_takes 47 = .ok (.getfield 223, 3) := by decide +kernel
theorem dX6_takes_50 : decode cX6_takes 50 = .ok (.istore_n 3, 1) := by decide +kernel
theorem dX6_takes_51 : decode cX6_takes 51 = .ok (.aload_n 0, 1) := by decide +kernel
theorem dX6_takes_52 : decode cX6_takes 52 = .ok (.iconst 1, 1) := by decide +kernel
theorem dX6_takes_53 : decode cX6_takes 53 = .ok (.invokevirtual 256, 3) := by decide +kernel
theorem dX6_takes_56 : decode cX6_takes 56 = .ok (.iload_n 3, 1) := by decide +kernel
theorem dX6_takes_57 : decode cX6_takes 57 = .ok (.ireturn, 1) := by decide +kernel
theorem dX6_nameHere_0 : decode cX6_nameHere 0 = .ok (.aload_n 0, 1) := by decide +kernel
theorem dX6_nameHere_1 : decode cX6_nameHere 1 = .ok (.getfield 235, 3) := by decide +kernel
theorem dX6_nameHere_4 : decode cX6_nameHere 4 = .ok (.ifCond .ne 30, 3) := by decide +kernel
theorem dX6_nameHere_7 : decode cX6_nameHere 7 = .ok (.aload_n 0, 1) := by decide +kernel
theorem dX6_nameHere_8 : decode cX6_nameHere 8 = .ok (.getfield 226, 3) := by decide +kernel
theorem dX6_nameHere_11 : decode cX6_nameHere 11 = .ok (.ifCond .ne 17, 3) := by decide +kernel
theorem dX6_nameHere_14 : decode cX6_nameHere 14 = .ok (.aload_n 0, 1) := by decide +kernel
theorem dX6_nameHere_15 : decode cX6_nameHere 15 = .ok (.getfield 217, 3) := by decide +kernel
theorem dX6_nameHere_18 : decode cX6_nameHere 18 = .ok (.aload_n 0, 1) := by decide +kernel
theorem dX6_nameHere_19 : decode cX6_nameHere 19 = .ok (.getfield 220, 3) := by decide +kernel
theorem dX6_nameHere_22 : decode cX6_nameHere 22 = .ok (.isub, 1) := by decide +kernel
theorem dX6_nameHere_23 : decode cX6_nameHere 23 = .ok (.bipush 6, 2) := by decide +kernel
theorem dX6_nameHere_25 : decode cX6_nameHere 25 = .ok (.if_icmp .le 9, 3) := by decide +kernel
theorem dX6_nameHere_28 : decode cX6_nameHere 28 = .ok (.aload_n 0, 1) := by decide +kernel
theorem dX6_nameHere_29 : decode cX6_nameHere 29 = .ok (.bipush (-2), 2) := by decide +kernel
theorem dX6_nameHere_31 : decode cX6_nameHere 31 = .ok (.invokevirtual 250, 3) := by decide +kernel
theorem dX6_nameHere_34 : decode cX6_nameHere 34 = .ok (.iconst 0, 1) := by decide +kernel
theorem dX6_nameHere_35 : decode cX6_nameHere 35 = .ok (.istore_n 1, 1) := by decide +kernel
theorem dX6_nameHere_36 : decode cX6_nameHere 36 = .ok (.aload_n 0, 1) := by decide +kernel
theorem dX6_nameHere_37 : decode cX6_nameHere 37 = .ok (.getfield 220, 3) := by decide +kernel
theorem dX6_nameHere_40 : decode cX6_nameHere 40 = .ok (.istore_n 2, 1) := by decide +kernel
theorem dX6_nameHere_41 : decode cX6_nameHere 41 = .ok (.iload_n 2, 1) := by decide +kernel
theorem dX6_nameHere_42 : decode cX6_nameHere 42 = .ok (.aload_n 0, 1) := by decide +kernel
theorem dX6_nameHere_43 : decode cX6_nameHere 43 = .ok (.getfield 217, 3) := by decide +kernel
theorem dX6_nameHere_46 : decode cX6_nameHere 46 = .ok (.if_icmp .ge 33, 3) := by decide +kernel
theorem dX6_nameHere_49 : decode cX6_nameHere 49 = .ok (.aload_n 0, 1) := by decide +kernel
theorem dX6_nameHere_50 : decode cX6_nameHere 50 = .ok (.getfield 235, 3) := by decide +kernel
theorem dX6_nameHere_53 : decode cX6_nameHere 53 = .ok (.ifCond .ne 26, 3) := by decide +kernel
theorem dX6_nameHere_56 : decode cX6_nameHere 56 = .ok (.bipush 27, 2) := by decide +kernel
theorem dX6_nameHere_58 : decode cX6_nameHere 58 = .ok (.iload_n 1, 1) := by decide +kernel
theorem dX6_nameHere_59 : decode cX6_nameHere 59 = .ok (.imul, 1) := by decide +kernel
theorem dX6_nameHere_60 : decode cX6_nameHere 60 = .ok (.aload_n 0, 1) := by decide +kernel
theorem dX6_nameHere_61 : decode cX6_nameHere 61 = .ok (.getfield 29, 3) := by decide +kernel
theorem dX6_nameHere_64 : decode cX6_nameHere 64 = .ok (.iload_n 2, 1) := by decide +kernel
theorem dX6_nameHere_65 : decode cX6_nameHere 65 = .ok (.iaload, 1) := by decide +kernel
theorem dX6_nameHere_66 : decode cX6_nameHere 66 = .ok (.bipush 97, 2) := by decide +kernel
theorem dX6_nameHere_68 : decode cX6_nameHere 68 = .ok (.isub, 1) := by decide +kernel
theorem dX6_nameHere_69 : decode cX6_nameHere 69 = .ok (.iconst 1, 1) := by decide +kernel
theorem dX6_nameHere_70 : decode cX6_nameHere 70 = .ok (.iadd, 1) := by decide +kernel
theorem dX6_nameHere_71 : decode cX6_nameHere 71 = .ok (.iadd, 1) := by decide +kernel
theorem dX6_nameHere_72 : decode cX6_nameHere 72 = .ok (.istore_n 1, 1) := by decide +kernel
theorem dX6_nameHere_73 : decode cX6_nameHere 73 = .ok (.iinc 2 1, 3) := by decide +kernel
theorem dX6_nameHere_76 : decode cX6_nameHere 76 = .ok (.goto (-35), 3) := by decide +kernel
theorem dX6_nameHere_79 : decode cX6_nameHere 79 = .ok (.iload_n 1, 1) := by decide +kernel
theorem dX6_nameHere_80 : decode cX6_nameHere 80 = .ok (.ireturn, 1) := by decide +kernel
theorem dX6_needNamed_0 : decode cX6_needNamed 0 = .ok (.iconst 0, 1) := by decide +kernel
theorem dX6_needNamed_1 : decode cX6_needNamed 1 = .ok (.istore_n 2, 1) := by decide +kernel
theorem dX6_needNamed_2 : decode cX6_needNamed 2 = .ok (.iload_n 2, 1) := by decide +kernel
theorem dX6_needNamed_3 : decode cX6_needNamed 3 = .ok (.aload_n 0, 1) := by decide +kernel
theorem dX6_needNamed_4 : decode cX6_needNamed 4 = .ok (.getfield 7, 3) := by decide +kernel
theorem dX6_needNamed_7 : decode cX6_needNamed 7 = .ok (.iconst 1, 1) := by decide +kernel
theorem dX6_needNamed_8 : decode cX6_needNamed 8 = .ok (.iaload, 1) := by decide +kernel
theorem dX6_needNamed_9 : decode cX6_needNamed 9 = .ok (.if_icmp .ge 26, 3) := by decide +kernel
theorem dX6_needNamed_12 : decode cX6_needNamed 12 = .ok (.aload_n 0, 1) := by decide +kernel
theorem dX6_needNamed_13 : decode cX6_needNamed 13 = .ok (.getfield 7, 3) := by decide +kernel
theorem dX6_needNamed_16 : decode cX6_needNamed 16 = .ok (.bipush 44, 2) := by decide +kernel
theorem dX6_needNamed_18 : decode cX6_needNamed 18 = .ok (.iconst 2, 1) := by decide +kernel
theorem dX6_needNamed_19 : decode cX6_needNamed 19 = .ok (.iload_n 2, 1) := by decide +kernel
theorem dX6_needNamed_20 : decode cX6_needNamed 20 = .ok (.imul, 1) := by decide +kernel
theorem dX6_needNamed_21 : decode cX6_needNamed 21 = .ok (.iadd, 1) := by decide +kernel
theorem dX6_needNamed_22 : decode cX6_needNamed 22 = .ok (.iaload, 1) := by decide +kernel
theorem dX6_needNamed_23 : decode cX6_needNamed 23 = .ok (.iload_n 1, 1) := by decide +kernel
theorem dX6_needNamed_24 : decode cX6_needNamed 24 = .ok (.if_icmp .ne 5, 3) := by decide +kernel
theorem dX6_needNamed_27 : decode cX6_needNamed 27 = .ok (.iload_n 2, 1) := by decide +kernel
theorem dX6_needNamed_28 : decode cX6_needNamed 28 = .ok (.ireturn, 1) := by decide +kernel
theorem dX6_needNamed_29 : decode cX6_needNamed 29 = .ok (.iinc 2 1, 3) := by decide +kernel
theorem dX6_needNamed_32 : decode cX6_needNamed 32 = .ok (.goto (-30), 3) := by decide +kernel
theorem dX6_needNamed_35 : decode cX6_needNamed 35 = .ok (.iconst (-1), 1) := by decide +kernel
theorem dX6_needNamed_36 : decode cX6_needNamed 36 = .ok (.ireturn, 1) := by decide +kernel
theorem dX6_monkNamed_0 : decode cX6_monkNamed 0 = .ok (.iconst 0, 1) := by decide +kernel
theorem dX6_monkNamed_1 : decode cX6_monkNamed 1 = .ok (.istore_n 2, 1) := by decide +kernel
theorem dX6_monkNamed_2 : decode cX6_monkNamed 2 = .ok (.iload_n 2, 1) := by decide +kernel
theorem dX6_monkNamed_3 : decode cX6_monkNamed 3 = .ok (.aload_n 0, 1) := by decide +kernel
theorem dX6_monkNamed_4 : decode cX6_monkNamed 4 = .ok (.getfield 7, 3) := by decide +kernel
theorem dX6_monkNamed_7 : decode cX6_monkNamed 7 = .ok (.iconst 0, 1) := by decide +kernel
theorem dX6_monkNamed_8 : decode cX6_monkNamed 8 = .ok (.iaload, 1) := by decide +kernel
theorem dX6_monkNamed_9 : decode cX6_monkNamed 9 = .ok (.if_icmp .ge 25, 3) := by decide +kernel
theorem dX6_monkNamed_12 : decode cX6_monkNamed 12 = .ok (.aload_n 0, 1) := by decide +kernel
theorem dX6_monkNamed_13 : decode cX6_monkNamed 13 = .ok (.getfield 7, 3) := by decide +kernel
theorem dX6_monkNamed_16 : decode cX6_monkNamed 16 = .ok (.iload_n 2, 1) := by decide +kernel
theorem dX6_monkNamed_17 : decode cX6_monkNamed 17 = .ok (.iconst 0, 1) := by decide +kernel
theorem dX6_monkNamed_18 : decode cX6_monkNamed 18 = .ok (.invokestatic 61, 3) := by decide +kernel
theorem dX6_monkNamed_21 : decode cX6_monkNamed 21 = .ok (.iaload, 1) := by decide +kernel
theorem dX6_monkNamed_22 : decode cX6_monkNamed 22 = .ok (.iload_n 1, 1) := by decide +kernel
theorem dX6_monkNamed_23 : decode cX6_monkNamed 23 = .ok (.if_icmp .ne 5, 3) := by decide +kernel
theorem dX6_monkNamed_26 : decode cX6_monkNamed 26 = .ok (.iload_n 2, 1) := by decide +kernel
theorem dX6_monkNamed_27 : decode cX6_monkNamed 27 = .ok (.ireturn, 1) := by decide +kernel
theorem dX6_monkNamed_28 : decode cX6_monkNamed 28 = .ok (.iinc 2 1, 3) := by decide +kernel
theorem dX6_monkNamed_31 : decode cX6_monkNamed 31 = .ok (.goto (-29), 3) := by decide +kernel
theorem dX6_monkNamed_34 : decode cX6_monkNamed 34 = .ok (.iconst (-1), 1) := by decide +kernel
theorem dX6_monkNamed_35 : decode cX6_monkNamed 35 = .ok (.ireturn, 1) := by decide +kernel
theorem dX6_needHere_0 : decode cX6_needHere 0 = .ok (.aload_n 0, 1) := by decide +kernel
theorem dX6_needHere_1 : decode cX6_needHere 1 = .ok (.aload_n 0, 1) := by decide +kernel
theorem dX6_needHere_2 : decode cX6_needHere 2 = .ok (.invokevirtual 260, 3) := by decide +kernel
theorem dX6_needHere_5 : decode cX6_needHere 5 = .ok (.invokevirtual 263, 3) := by decide +kernel
theorem dX6_needHere_8 : decode cX6_needHere 8 = .ok (.istore_n 1, 1) := by decide +kernel
theorem dX6_needHere_9 : decode cX6_needHere 9 = .ok (.iload_n 1, 1) := by decide +kernel
theorem dX6_needHere_10 : decode cX6_needHere 10 = .ok (.iconst (-1), 1) := by decide +kernel
theorem dX6_needHere_11 : decode cX6_needHere 11 = .ok (.if_icmp .ne 9, 3) := by decide +kernel
theorem dX6_needHere_14 : decode cX6_needHere 14 = .ok (.aload_n 0, 1) := by decide +kernel
theorem dX6_needHere_15 : decode cX6_needHere 15 = .ok (.bipush (-4), 2) := by decide +kernel
theorem dX6_needHere_17 : decode cX6_needHere 17 = .ok (.invokevirtual 250, 3) := by decide +kernel
theorem dX6_needHere_20 : decode cX6_needHere 20 = .ok (.iload_n 1, 1) := by decide +kernel
theorem dX6_needHere_21 : decode cX6_needHere 21 = .ok (.ireturn, 1) := by decide +kernel
theorem dX6_takesMonk_0 : decode cX6_takesMonk 0 = .ok (.aload_n 0, 1) := by decide +kernel
theorem dX6_takesMonk_1 : decode cX6_takesMonk 1 = .ok (.aload_n 0, 1) := by decide +kernel
theorem dX6_takesMonk_2 : decode cX6_takesMonk 2 = .ok (.invokevirtual 260, 3) := by decide +kernel
theorem dX6_takesMonk_5 : decode cX6_takesMonk 5 = .ok (.invokevirtual 266, 3) := by decide +kernel
theorem dX6_takesMonk_8 : decode cX6_takesMonk 8 = .ok (.istore_n 2, 1) := by decide +kernel
theorem dX6_takesMonk_9 : decode cX6_takesMonk 9 = .ok (.iload_n 2, 1) := by decide +kernel
theorem dX6_takesMonk_10 : decode cX6_takesMonk 10 = .ok (.iconst (-1), 1) := by decide +kernel
theorem dX6_takesMonk_11 : decode cX6_takesMonk 11 = .ok (.if_icmp .ne 9, 3) := by decide +kernel
theorem dX6_takesMonk_14 : decode cX6_takesMonk 14 = .ok (.aload_n 0, 1) := by decide +kernel
theorem dX6_takesMonk_15 : decode cX6_takesMonk 15 = .ok (.bipush (-4), 2) := by decide +kernel
theorem dX6_takesMonk_17 : decode cX6_takesMonk 17 = .ok (.invokevirtual 250, 3) := by decide +kernel
theorem dX6_takesMonk_20 : decode cX6_takesMonk 20 = .ok (.aload_n 0, 1) := by decide +kernel
theorem dX6_takesMonk_21 : decode cX6_takesMonk 21 = .ok (.getfield 235, 3) := by decide +kernel
theorem dX6_takesMonk_24 : decode cX6_takesMonk 24 = .ok (.ifCond .ne 14, 3) := by decide +kernel
theorem dX6_takesMonk_27 : decode cX6_takesMonk 27 = .ok (.iload_n 2, 1) := by decide +kernel
theorem dX6_takesMonk_28 : decode cX6_takesMonk 28 = .ok (.iload_n 1, 1) := by decide +kernel
theorem dX6_takesMonk_29 : decode cX6_takesMonk 29 = .ok (.if_icmp .ne 9, 3) := by decide +kernel
theorem dX6_takesMonk_32 : decode cX6_takesMonk 32 = .ok (.aload_n 0, 1) := by decide +kernel
theorem dX6_takesMonk_33 : decode cX6_takesMonk 33 = .ok (.bipush (-5), 2) := by decide +kernel
theorem dX6_takesMonk_35 : decode cX6_takesMonk 35 = .ok (.invokevirtual 250, 3) := by decide +kernel
theorem dX6_takesMonk_38 : decode cX6_takesMonk 38 = .ok (.aload_n 0, 1) := by decide +kernel
theorem dX6_takesMonk_39 : decode cX6_takesMonk 39 = .ok (.iconst 1, 1) := by decide +kernel
theorem dX6_takesMonk_40 : decode cX6_takesMonk 40 = .ok (.invokevirtual 256, 3) := by decide +kernel
theorem dX6_takesMonk_43 : decode cX6_takesMonk 43 = .ok (.iload_n 2, 1) := by decide +kernel
theorem dX6_takesMonk_44 : decode cX6_takesMonk 44 = .ok (.ireturn, 1) := by decide +kernel
theorem dX6_mayDo_0 : decode cX6_mayDo 0 = .ok (.aload_n 0, 1) := by decide +kernel
theorem dX6_mayDo_1 : decode cX6_mayDo 1 = .ok (.invokevirtual 269, 3) := by decide +kernel
theorem dX6_mayDo_4 : decode cX6_mayDo 4 = .ok (.ifCond .eq 13, 3) := by decide +kernel
theorem dX6_mayDo_7 : decode cX6_mayDo 7 = .ok (.iload_n 1, 1) := by decide +kernel
theorem dX6_mayDo_8 : decode cX6_mayDo 8 = .ok (.ifCond .eq 9, 3) := by decide +kernel
theorem dX6_mayDo_11 : decode cX6_mayDo 11 = .ok (.aload_n 0, 1) := by decide +kernel
theorem dX6_mayDo_12 : decode cX6_mayDo 12 = .ok (.bipush (-7), 2) := by decide +kernel
theorem dX6_mayDo_14 : decode cX6_mayDo 14 = .ok (.invokevirtual 250, 3) := by decide +kernel
theorem dX6_mayDo_17 : decode cX6_mayDo 17 = .ok (.aload_n 0, 1) := by decide +kernel
theorem dX6_mayDo_18 : decode cX6_mayDo 18 = .ok (.aload_n 0, 1) := by decide +kernel
theorem dX6_mayDo_19 : decode cX6_mayDo 19 = .ok (.invokevirtual 269, 3) := by decide +kernel
theorem dX6_mayDo_22 : decode cX6_mayDo 22 = .ok (.invokevirtual 256, 3) := by decide +kernel
theorem dX6_mayDo_25 : decode cX6_mayDo 25 = .ok (.aload_n 0, 1) := by decide +kernel
theorem dX6_mayDo_26 : decode cX6_mayDo 26 = .ok (.getfield 235, 3) := by decide +kernel
theorem dX6_mayDo_29 : decode cX6_mayDo 29 = .ok (.ifCond .ne 7, 3) := by decide +kernel
theorem dX6_mayDo_32 : decode cX6_mayDo 32 = .ok (.iconst 1, 1) := by decide +kernel
theorem dX6_mayDo_33 : decode cX6_mayDo 33 = .ok (.goto 4, 3) := by decide +kernel
theorem dX6_mayDo_36 : decode cX6_mayDo 36 = .ok (.iconst 0, 1) := by decide +kernel
theorem dX6_mayDo_37 : decode cX6_mayDo 37 = .ok (.ireturn, 1) := by decide +kernel
theorem dX6_readsSetting_0 : decode cX6_readsSetting 0 = .ok (.aload_n 0, 1) := by decide +kernel
theorem dX6_readsSetting_1 : decode cX6_readsSetting 1 = .ok (.aload_n 1, 1) := by decide +kernel
theorem dX6_readsSetting_2 : decode cX6_readsSetting 2 = .ok (.invokevirtual 272, 3) := by decide +kernel
theorem dX6_readsSetting_5 : decode cX6_readsSetting 5 = .ok (.ifCond .ne 4, 3) := by decide +kernel
theorem dX6_readsSetting_8 : decode cX6_readsSetting 8 = .ok (.return_, 1) := by decide +kernel
theorem dX6_readsSetting_9 : decode cX6_readsSetting 9 = .ok (.aload_n 0, 1) := by decide +kernel
theorem dX6_readsSetting_10 : decode cX6_readsSetting 10 = .ok (.iconst 1, 1) := by decide +kernel
theorem dX6_readsSetting_11 : decode cX6_readsSetting 11 = .ok (.invokevirtual 256, 3) := by decide +kernel
theorem dX6_readsSetting_14 : decode cX6_readsSetting 14 = .ok (.aload_n 0, 1) := by decide +kernel
theorem dX6_readsSetting_15 : decode cX6_readsSetting 15 = .ok (.iconst 0, 1) := by decide +kernel
theorem dX6_readsSetting_16 : decode cX6_readsSetting 16 = .ok (.iload_n 3, 1) := by decide +kernel
theorem dX6_readsSetting_17 : decode cX6_readsSetting 17 = .ok (.invokevirtual 276, 3) := by decide +kernel
theorem dX6_readsSetting_20 : decode cX6_readsSetting 20 = .ok (.istore 4, 2) := by decide +kernel
theorem dX6_readsSetting_22 : decode cX6_readsSetting 22 = .ok (.aload_n 0, 1) := by decide +kernel
theorem dX6_readsSetting_23 : decode cX6_readsSetting 23 = .ok (.aload_n 0, 1) := by decide +kernel
theorem dX6_readsSetting_24 : decode cX6_readsSetting 24 = .ok (.invokevirtual 269, 3) := by decide +kernel
theorem dX6_readsSetting_27 : decode cX6_readsSetting 27 = .ok (.invokevirtual 256, 3) := by decide +kernel
theorem dX6_readsSetting_30 : decode cX6_readsSetting 30 = .ok (.aload_n 0, 1) := by decide +kernel
theorem dX6_readsSetting_31 : decode cX6_readsSetting 31 = .ok (.getfield 235, 3) := by decide +kernel
theorem dX6_readsSetting_34 : decode cX6_readsSetting 34 = .ok (.ifCond .ne 11, 3) := by decide +kernel
theorem dX6_readsSetting_37 : decode cX6_readsSetting 37 = .ok (.aload_n 0, 1) := by decide +kernel
theorem dX6_readsSetting_38 : decode cX6_readsSetting 38 = .ok (.getfield 7, 3) := by decide +kernel
theorem dX6_readsSetting_41 : decode cX6_readsSetting 41 = .ok (.iload_n 2, 1) := by decide +kernel
theorem dX6_readsSetting_42 : decode cX6_readsSetting 42 = .ok (.iload 4, 2) := by decide +kernel
theorem dX6_readsSetting_44 : decode cX6_readsSetting 44 = .ok (.iastore, 1) := by decide +kernel
theorem dX6_readsSetting_45 : decode cX6_readsSetting 45 = .ok (.return_, 1) := by decide +kernel
theorem dX6_readsNeed_0 : decode cX6_readsNeed 0 = .ok (.aload_n 0, 1) := by decide +kernel
theorem dX6_readsNeed_1 : decode cX6_readsNeed 1 = .ok (.ldc_w 279, 3) := by decide +kernel
theorem dX6_readsNeed_4 : decode cX6_readsNeed 4 = .ok (.invokevirtual 272, 3) := by decide +kernel
theorem dX6_readsNeed_7 : decode cX6_readsNeed 7 = .ok (.ifCond .ne 5, 3) := by decide +kernel
theorem dX6_readsNeed_10 : decode cX6_readsNeed 10 = .ok (.iconst 0, 1) := by decide +kernel
theorem dX6_readsNeed_11 : decode cX6_readsNeed 11 = .ok (.ireturn, 1) := by decide +kernel
theorem dX6_readsNeed_12 : decode cX6_readsNeed 12 = .ok (.aload_n 0, 1) := by decide +kernel
theorem dX6_readsNeed_13 : decode cX6_readsNeed 13 = .ok (.getfield 7, 3) := by decide +kernel
theorem dX6_readsNeed_16 : decode cX6_readsNeed 16 = .ok (.iconst 1, 1) := by decide +kernel
theorem dX6_readsNeed_17 : decode cX6_readsNeed 17 = .ok (.iaload, 1) := by decide +kernel
theorem dX6_readsNeed_18 : decode cX6_readsNeed 18 = .ok (.bipush 8, 2) := by decide +kernel
theorem dX6_readsNeed_20 : decode cX6_readsNeed 20 = .ok (.if_icmp .ne 9, 3) := by decide +kernel
theorem dX6_readsNeed_23 : decode cX6_readsNeed 23 = .ok (.aload_n 0, 1) := by decide +kernel
theorem dX6_readsNeed_24 : decode cX6_readsNeed 24 = .ok (.bipush (-6), 2) := by decide +kernel
theorem dX6_readsNeed_26 : decode cX6_readsNeed 26 = .ok (.invokevirtual 250, 3) := by decide +kernel
theorem dX6_readsNeed_29 : decode cX6_readsNeed 29 = .ok (.aload_n 0, 1) := by decide +kernel
theorem dX6_readsNeed_30 : decode cX6_readsNeed 30 = .ok (.iconst 1, 1) := by decide +kernel
theorem dX6_readsNeed_31 : decode cX6_readsNeed 31 = .ok (.invokevirtual 256, 3) := by decide +kernel
theorem dX6_readsNeed_34 : decode cX6_readsNeed 34 = .ok (.aload_n 0, 1) := by decide +kernel
theorem dX6_readsNeed_35 : decode cX6_readsNeed 35 = .ok (.invokevirtual 260, 3) := by decide +kernel
theorem dX6_readsNeed_38 : decode cX6_readsNeed 38 = .ok (.istore_n 1, 1) := by decide +kernel
theorem dX6_readsNeed_39 : decode cX6_readsNeed 39 = .ok (.aload_n 0, 1) := by decide +kernel
theorem dX6_readsNeed_40 : decode cX6_readsNeed 40 = .ok (.getfield 235, 3) := by decide +kernel
theorem dX6_readsNeed_43 : decode cX6_readsNeed 43 = .ok (.ifCond .ne 18, 3) := by decide +kernel
theorem dX6_readsNeed_46 : decode cX6_readsNeed 46 = .ok (.aload_n 0, 1) := by decide +kernel
theorem dX6_readsNeed_47 : decode cX6_readsNeed 47 = .ok (.iload_n 1, 1) := by decide +kernel
theorem dX6_readsNeed_48 : decode cX6_readsNeed 48 = .ok (.invokevirtual 263, 3) := by decide +kernel
theorem dX6_readsNeed_51 : decode cX6_readsNeed 51 = .ok (.iconst (-1), 1) := by decide +kernel
theorem dX6_readsNeed_52 : decode cX6_readsNeed 52 = .ok (.if_icmp .eq 9, 3) := by decide +kernel
theorem dX6_readsNeed_55 : decode cX6_readsNeed 55 = .ok (.aload_n 0, 1) := by decide +kernel
theorem dX6_readsNeed_56 : decode cX6_readsNeed 56 = .ok (.bipush (-5), 2) := by decide +kernel
theorem dX6_readsNeed_58 : decode cX6_readsNeed 58 = .ok (.invokevirtual 250, 3) := by decide +kernel
theorem dX6_readsNeed_61 : decode cX6_readsNeed 61 = .ok (.aload_n 0, 1) := by decide +kernel
theorem dX6_readsNeed_62 : decode cX6_readsNeed 62 = .ok (.iconst 1, 1) := by decide +kernel
theorem dX6_readsNeed_63 : decode cX6_readsNeed 63 = .ok (.invokevirtual 256, 3) := by decide +kernel
theorem dX6_readsNeed_66 : decode cX6_readsNeed 66 = .ok (.aload_n 0, 1) := by decide +kernel
theorem dX6_readsNeed_67 : decode cX6_readsNeed 67 = .ok (.iconst 1, 1) := by decide +kernel
theorem dX6_readsNeed_68 : decode cX6_readsNeed 68 = .ok (.bipush 20, 2) := by decide +kernel
theorem dX6_readsNeed_70 : decode cX6_readsNeed 70 = .ok (.invokevirtual 276, 3) := by decide +kernel
theorem dX6_readsNeed_73 : decode cX6_readsNeed 73 = .ok (.istore_n 2, 1) := by decide +kernel
theorem dX6_readsNeed_74 : decode cX6_readsNeed 74 = .ok (.aload_n 0, 1) := by decide +kernel
theorem dX6_readsNeed_75 : decode cX6_readsNeed 75 = .ok (.aload_n 0, 1) := by decide +kernel
theorem dX6_readsNeed_76 : decode cX6_readsNeed 76 = .ok (.invokevirtual 269, 3) := by decide +kernel
theorem dX6_readsNeed_79 : decode cX6_readsNeed 79 = .ok (.invokevirtual 256, 3) := by decide +kernel
theorem dX6_readsNeed_82 : decode cX6_readsNeed 82 = .ok (.aload_n 0, 1) := by decide +kernel
theorem dX6_readsNeed_83 : decode cX6_readsNeed 83 = .ok (.getfield 235, 3) := by decide +kernel
theorem dX6_readsNeed_86 : decode cX6_readsNeed 86 = .ok (.ifCond .eq 5, 3) := by decide +kernel
theorem dX6_readsNeed_89 : decode cX6_readsNeed 89 = .ok (.iconst 0, 1) := by decide +kernel
theorem dX6_readsNeed_90 : decode cX6_readsNeed 90 = .ok (.ireturn, 1) := by decide +kernel
theorem dX6_readsNeed_91 : decode cX6_readsNeed 91 = .ok (.aload_n 0, 1) := by decide +kernel
theorem dX6_readsNeed_92 : decode cX6_readsNeed 92 = .ok (.getfield 7, 3) := by decide +kernel
theorem dX6_readsNeed_95 : decode cX6_readsNeed 95 = .ok (.bipush 44, 2) := by decide +kernel
theorem dX6_readsNeed_97 : decode cX6_readsNeed 97 = .ok (.iconst 2, 1) := by decide +kernel
theorem dX6_readsNeed_98 : decode cX6_readsNeed 98 = .ok (.aload_n 0, 1) := by decide +kernel
theorem dX6_readsNeed_99 : decode cX6_readsNeed 99 = .ok (.getfield 7, 3) := by decide +kernel
theorem dX6_readsNeed_102 : decode cX6_readsNeed 102 = .ok (.iconst 1, 1) := by decide +kernel
theorem dX6_readsNeed_103 : decode cX6_readsNeed 103 = .ok (.iaload, 1) := by decide +kernel
theorem dX6_readsNeed_104 : decode cX6_readsNeed 104 = .ok (.imul, 1) := by decide +kernel
theorem dX6_readsNeed_105 : decode cX6_readsNeed 105 = .ok (.iadd, 1) := by decide +kernel
theorem dX6_readsNeed_106 : decode cX6_readsNeed 106 = .ok (.iload_n 1, 1) := by decide +kernel
theorem dX6_readsNeed_107 : decode cX6_readsNeed 107 = .ok (.iastore, 1) := by decide +kernel
theorem dX6_readsNeed_108 : decode cX6_readsNeed 108 = .ok (.aload_n 0, 1) := by decide +kernel
theorem dX6_readsNeed_109 : decode cX6_readsNeed 109 = .ok (.getfield 7, 3) := by decide +kernel
theorem dX6_readsNeed_112 : decode cX6_readsNeed 112 = .ok (.bipush 44, 2) := by decide +kernel
theorem dX6_readsNeed_114 : decode cX6_readsNeed 114 = .ok (.iconst 2, 1) := by decide +kernel
theorem dX6_readsNeed_115 : decode cX6_readsNeed 115 = .ok (.aload_n 0, 1) := by decide +kernel
theorem dX6_readsNeed_116 : decode cX6_readsNeed 116 = .ok (.getfield 7, 3) := by decide +kernel
theorem dX6_readsNeed_119 : decode cX6_readsNeed 119 = .ok (.iconst 1, 1) := by decide +kernel
theorem dX6_readsNeed_120 : decode cX6_readsNeed 120 = .ok (.iaload, 1) := by decide +kernel
theorem dX6_readsNeed_121 : decode cX6_readsNeed 121 = .ok (.imul, 1) := by decide +kernel
theorem dX6_readsNeed_122 : decode cX6_readsNeed 122 = .ok (.iadd, 1) := by decide +kernel
theorem dX6_readsNeed_123 : decode cX6_readsNeed 123 = .ok (.iconst 1, 1) := by decide +kernel
theorem dX6_readsNeed_124 : decode cX6_readsNeed 124 = .ok (.iadd, 1) := by decide +kernel
theorem dX6_readsNeed_125 : decode cX6_readsNeed 125 = .ok (.iload_n 2, 1) := by decide +kernel
theorem dX6_readsNeed_126 : decode cX6_readsNeed 126 = .ok (.iastore, 1) := by decide +kernel
theorem dX6_readsNeed_127 : decode cX6_readsNeed 127 = .ok (.aload_n 0, 1) := by decide +kernel
theorem dX6_readsNeed_128 : decode cX6_readsNeed 128 = .ok (.getfield 7, 3) := by decide +kernel
theorem dX6_readsNeed_131 : decode cX6_readsNeed 131 = .ok (.iconst 1, 1) := by decide +kernel
theorem dX6_readsNeed_132 : decode cX6_readsNeed 132 = .ok (.dup2, 1) := by decide +kernel
theorem dX6_readsNeed_133 : decode cX6_readsNeed 133 = .ok (.iaload, 1) := by decide +kernel
theorem dX6_readsNeed_134 : decode cX6_readsNeed 134 = .ok (.iconst 1, 1) := by decide +kernel
theorem dX6_readsNeed_135 : decode cX6_readsNeed 135 = .ok (.iadd, 1) := by decide +kernel
theorem dX6_readsNeed_136 : decode cX6_readsNeed 136 = .ok (.iastore, 1) := by decide +kernel
theorem dX6_readsNeed_137 : decode cX6_readsNeed 137 = .ok (.iconst 1, 1) := by decide +kernel
theorem dX6_readsNeed_138 : decode cX6_readsNeed 138 = .ok (.ireturn, 1) := by decide +kernel
theorem dX6_rankHere_0 : decode cX6_rankHere 0 = .ok (.aload_n 0, 1) := by decide +kernel
theorem dX6_rankHere_1 : decode cX6_rankHere 1 = .ok (.ldc_w 281, 3) := by decide +kernel
theorem dX6_rankHere_4 : decode cX6_rankHere 4 = .ok (.invokevirtual 272, 3) := by decide +kernel
theorem dX6_rankHere_7 : decode cX6_rankHere 7 = .ok (.ifCond .eq 7, 3) := by decide +kernel
theorem dX6_rankHere_10 : decode cX6_rankHere 10 = .ok (.iconst 0, 1) := by decide +kernel
theorem dX6_rankHere_11 : decode cX6_rankHere 11 = .ok (.goto 32, 3) := by decide +kernel
theorem dX6_rankHere_14 : decode cX6_rankHere 14 = .ok (.aload_n 0, 1) := by decide +kernel
theorem dX6_rankHere_15 : decode cX6_rankHere 15 = .ok (.ldc_w 283, 3) := by decide +kernel
theorem dX6_rankHere_18 : decode cX6_rankHere 18 = .ok (.invokevirtual 272, 3) := by decide +kernel
theorem dX6_rankHere_21 : decode cX6_rankHere 21 = .ok (.ifCond .eq 7, 3) := by decide +kernel
theorem dX6_rankHere_24 : decode cX6_rankHere 24 = .ok (.iconst 1, 1) := by decide +kernel
theorem dX6_rankHere_25 : decode cX6_rankHere 25 = .ok (.goto 18, 3) := by decide +kernel
theorem dX6_rankHere_28 : decode cX6_rankHere 28 = .ok (.aload_n 0, 1) := by decide +kernel
theorem dX6_rankHere_29 : decode cX6_rankHere 29 = .ok (.ldc_w 285, 3) := by decide +kernel
theorem dX6_rankHere_32 : decode cX6_rankHere 32 = .ok (.invokevirtual 272, 3) := by decide +kernel
theorem dX6_rankHere_35 : decode cX6_rankHere 35 = .ok (.ifCond .eq 7, 3) := by decide +kernel
theorem dX6_rankHere_38 : decode cX6_rankHere 38 = .ok (.iconst 2, 1) := by decide +kernel
theorem dX6_rankHere_39 : decode cX6_rankHere 39 = .ok (.goto 4, 3) := by decide +kernel
theorem dX6_rankHere_42 : decode cX6_rankHere 42 = .ok (.iconst (-1), 1) := by decide +kernel
theorem dX6_rankHere_43 : decode cX6_rankHere 43 = .ok (.ireturn, 1) := by decide +kernel
theorem dX6_readsMonk_0 : decode cX6_readsMonk 0 = .ok (.aload_n 0, 1) := by decide +kernel
theorem dX6_readsMonk_1 : decode cX6_readsMonk 1 = .ok (.invokevirtual 287, 3) := by decide +kernel
theorem dX6_readsMonk_4 : decode cX6_readsMonk 4 = .ok (.istore_n 1, 1) := by decide +kernel
theorem dX6_readsMonk_5 : decode cX6_readsMonk 5 = .ok (.iload_n 1, 1) := by decide +kernel
theorem dX6_readsMonk_6 : decode cX6_readsMonk 6 = .ok (.iconst (-1), 1) := by decide +kernel
theorem dX6_readsMonk_7 : decode cX6_readsMonk 7 = .ok (.if_icmp .ne 5, 3) := by decide +kernel
theorem dX6_readsMonk_10 : decode cX6_readsMonk 10 = .ok (.iconst 0, 1) := by decide +kernel
theorem dX6_readsMonk_11 : decode cX6_readsMonk 11 = .ok (.ireturn, 1) := by decide +kernel
theorem dX6_readsMonk_12 : decode cX6_readsMonk 12 = .ok (.aload_n 0, 1) := by decide +kernel
theorem dX6_readsMonk_13 : decode cX6_readsMonk 13 = .ok (.getfield 7, 3) := by decide +kernel
theorem dX6_readsMonk_16 : decode cX6_readsMonk 16 = .ok (.iconst 0, 1) := by decide +kernel
theorem dX6_readsMonk_17 : decode cX6_readsMonk 17 = .ok (.iaload, 1) := by decide +kernel
theorem dX6_readsMonk_18 : decode cX6_readsMonk 18 = .ok (.bipush 12, 2) := by decide +kernel
theorem dX6_readsMonk_20 : decode cX6_readsMonk 20 = .ok (.if_icmp .ne 9, 3) := by decide +kernel
theorem dX6_readsMonk_23 : decode cX6_readsMonk 23 = .ok (.aload_n 0, 1) := by decide +kernel
theorem dX6_readsMonk_24 : decode cX6_readsMonk 24 = .ok (.bipush (-6), 2) := by decide +kernel
theorem dX6_readsMonk_26 : decode cX6_readsMonk 26 = .ok (.invokevirtual 250, 3) := by decide +kernel
theorem dX6_readsMonk_29 : decode cX6_readsMonk 29 = .ok (.aload_n 0, 1) := by decide +kernel
theorem dX6_readsMonk_30 : decode cX6_readsMonk 30 = .ok (.iconst 1, 1) := by decide +kernel
theorem dX6_readsMonk_31 : decode cX6_readsMonk 31 = .ok (.invokevirtual 256, 3) := by decide +kernel
theorem dX6_readsMonk_34 : decode cX6_readsMonk 34 = .ok (.aload_n 0, 1) := by decide +kernel
theorem dX6_readsMonk_35 : decode cX6_readsMonk 35 = .ok (.invokevirtual 260, 3) := by decide +kernel
theorem dX6_readsMonk_38 : decode cX6_readsMonk 38 = .ok (.istore_n 2, 1) := by decide +kernel
theorem dX6_readsMonk_39 : decode cX6_readsMonk 39 = .ok (.aload_n 0, 1) := by decide +kernel
theorem dX6_readsMonk_40 : decode cX6_readsMonk 40 = .ok (.getfield 235, 3) := by decide +kernel
theorem dX6_readsMonk_43 : decode cX6_readsMonk 43 = .ok (.ifCond .ne 18, 3) := by decide +kernel
theorem dX6_readsMonk_46 : decode cX6_readsMonk 46 = .ok (.aload_n 0, 1) := by decide +kernel
theorem dX6_readsMonk_47 : decode cX6_readsMonk 47 = .ok (.iload_n 2, 1) := by decide +kernel
theorem dX6_readsMonk_48 : decode cX6_readsMonk 48 = .ok (.invokevirtual 266, 3) := by decide +kernel
theorem dX6_readsMonk_51 : decode cX6_readsMonk 51 = .ok (.iconst (-1), 1) := by decide +kernel
theorem dX6_readsMonk_52 : decode cX6_readsMonk 52 = .ok (.if_icmp .eq 9, 3) := by decide +kernel
theorem dX6_readsMonk_55 : decode cX6_readsMonk 55 = .ok (.aload_n 0, 1) := by decide +kernel
theorem dX6_readsMonk_56 : decode cX6_readsMonk 56 = .ok (.bipush (-5), 2) := by decide +kernel
theorem dX6_readsMonk_58 : decode cX6_readsMonk 58 = .ok (.invokevirtual 250, 3) := by decide +kernel
theorem dX6_readsMonk_61 : decode cX6_readsMonk 61 = .ok (.aload_n 0, 1) := by decide +kernel
theorem dX6_readsMonk_62 : decode cX6_readsMonk 62 = .ok (.iconst 1, 1) := by decide +kernel
theorem dX6_readsMonk_63 : decode cX6_readsMonk 63 = .ok (.invokevirtual 256, 3) := by decide +kernel
theorem dX6_readsMonk_66 : decode cX6_readsMonk 66 = .ok (.iconst 0, 1) := by decide +kernel
theorem dX6_readsMonk_67 : decode cX6_readsMonk 67 = .ok (.istore_n 3, 1) := by decide +kernel
theorem dX6_readsMonk_68 : decode cX6_readsMonk 68 = .ok (.aload_n 0, 1) := by decide +kernel
theorem dX6_readsMonk_69 : decode cX6_readsMonk 69 = .ok (.getfield 235, 3) := by decide +kernel
theorem dX6_readsMonk_72 : decode cX6_readsMonk 72 = .ok (.ifCond .ne 61, 3) := by decide +kernel
theorem dX6_readsMonk_75 : decode cX6_readsMonk 75 = .ok (.aload_n 0, 1) := by decide +kernel
theorem dX6_readsMonk_76 : decode cX6_readsMonk 76 = .ok (.getfield 226, 3) := by decide +kernel
theorem dX6_readsMonk_79 : decode cX6_readsMonk 79 = .ok (.ifCond .ne 54, 3) := by decide +kernel
theorem dX6_readsMonk_82 : decode cX6_readsMonk 82 = .ok (.aload_n 0, 1) := by decide +kernel
theorem dX6_readsMonk_83 : decode cX6_readsMonk 83 = .ok (.invokevirtual 290, 3) := by decide +kernel
theorem dX6_readsMonk_86 : decode cX6_readsMonk 86 = .ok (.istore 4, 2) := by decide +kernel
theorem dX6_readsMonk_88 : decode cX6_readsMonk 88 = .ok (.aload_n 0, 1) := by decide +kernel
theorem dX6_readsMonk_89 : decode cX6_readsMonk 89 = .ok (.getfield 235, 3) := by decide +kernel
theorem dX6_readsMonk_92 : decode cX6_readsMonk 92 = .ok (.ifCond .ne 19, 3) := by decide +kernel
theorem dX6_readsMonk_95 : decode cX6_readsMonk 95 = .ok (.iload_n 3, 1) := by decide +kernel
theorem dX6_readsMonk_96 : decode cX6_readsMonk 96 = .ok (.iload 4, 2) := by decide +kernel
theorem dX6_readsMonk_98 : decode cX6_readsMonk 98 = .ok (.ishr, 1) := by decide +kernel
theorem dX6_readsMonk_99 : decode cX6_readsMonk 99 = .ok (.iconst 1, 1) := by decide +kernel
theorem dX6_readsMonk_100 : decode cX6_readsMonk 100 = .ok (.iand, 1) := by decide +kernel
theorem dX6_readsMonk_101 : decode cX6_readsMonk 101 = .ok (.iconst 1, 1) := by decide +kernel
theorem dX6_readsMonk_102 : decode cX6_readsMonk 102 = .ok (.if_icmp .ne 9, 3) := by decide +kernel
theorem dX6_readsMonk_105 : decode cX6_readsMonk 105 = .ok (.aload_n 0, 1) := by decide +kernel
theorem dX6_readsMonk_106 : decode cX6_readsMonk 106 = .ok (.bipush (-5), 2) := by decide +kernel
theorem dX6_readsMonk_108 : decode cX6_readsMonk 108 = .ok (.invokevirtual 250, 3) := by decide +kernel
theorem dX6_readsMonk_111 : decode cX6_readsMonk 111 = .ok (.aload_n 0, 1) := by decide +kernel
theorem dX6_readsMonk_112 : decode cX6_readsMonk 112 = .ok (.getfield 235, 3) := by decide +kernel
theorem dX6_readsMonk_115 : decode cX6_readsMonk 115 = .ok (.ifCond .ne 10, 3) := by decide +kernel
theorem dX6_readsMonk_118 : decode cX6_readsMonk 118 = .ok (.iload_n 3, 1) := by decide +kernel
theorem dX6_readsMonk_119 : decode cX6_readsMonk 119 = .ok (.iconst 1, 1) := by decide +kernel
theorem dX6_readsMonk_120 : decode cX6_readsMonk 120 = .ok (.iload 4, 2) := by decide +kernel
theorem dX6_readsMonk_122 : decode cX6_readsMonk 122 = .ok (.ishl, 1) := by decide +kernel
theorem dX6_readsMonk_123 : decode cX6_readsMonk 123 = .ok (.ior, 1) := by decide +kernel
theorem dX6_readsMonk_124 : decode cX6_readsMonk 124 = .ok (.istore_n 3, 1) := by decide +kernel
theorem dX6_readsMonk_125 : decode cX6_readsMonk 125 = .ok (.aload_n 0, 1) := by decide +kernel
theorem dX6_readsMonk_126 : decode cX6_readsMonk 126 = .ok (.iconst 1, 1) := by decide +kernel
theorem dX6_readsMonk_127 : decode cX6_readsMonk 127 = .ok (.invokevirtual 256, 3) := by decide +kernel
theorem dX6_readsMonk_130 : decode cX6_readsMonk 130 = .ok (.goto (-62), 3) := by decide +kernel
theorem dX6_readsMonk_133 : decode cX6_readsMonk 133 = .ok (.aload_n 0, 1) := by decide +kernel
theorem dX6_readsMonk_134 : decode cX6_readsMonk 134 = .ok (.aload_n 0, 1) := by decide +kernel
theorem dX6_readsMonk_135 : decode cX6_readsMonk 135 = .ok (.invokevirtual 269, 3) := by decide +kernel
theorem dX6_readsMonk_138 : decode cX6_readsMonk 138 = .ok (.invokevirtual 256, 3) := by decide +kernel
theorem dX6_readsMonk_141 : decode cX6_readsMonk 141 = .ok (.aload_n 0, 1) := by decide +kernel
theorem dX6_readsMonk_142 : decode cX6_readsMonk 142 = .ok (.getfield 235, 3) := by decide +kernel
theorem dX6_readsMonk_145 : decode cX6_readsMonk 145 = .ok (.ifCond .eq 5, 3) := by decide +kernel
theorem dX6_readsMonk_148 : decode cX6_readsMonk 148 = .ok (.iconst 0, 1) := by decide +kernel
theorem dX6_readsMonk_149 : decode cX6_readsMonk 149 = .ok (.ireturn, 1) := by decide +kernel
theorem dX6_readsMonk_150 : decode cX6_readsMonk 150 = .ok (.aload_n 0, 1) := by decide +kernel
theorem dX6_readsMonk_151 : decode cX6_readsMonk 151 = .ok (.getfield 7, 3) := by decide +kernel
theorem dX6_readsMonk_154 : decode cX6_readsMonk 154 = .ok (.aload_n 0, 1) := by decide +kernel
theorem dX6_readsMonk_155 : decode cX6_readsMonk 155 = .ok (.iload_n 2, 1) := by decide +kernel
theorem dX6_readsMonk_156 : decode cX6_readsMonk 156 = .ok (.iload_n 1, 1) := by decide +kernel
theorem dX6_readsMonk_157 : decode cX6_readsMonk 157 = .ok (.invokevirtual 39, 3) := by decide +kernel
theorem dX6_readsMonk_160 : decode cX6_readsMonk 160 = .ok (.iconst 2, 1) := by decide +kernel
theorem dX6_readsMonk_161 : decode cX6_readsMonk 161 = .ok (.invokestatic 61, 3) := by decide +kernel
theorem dX6_readsMonk_164 : decode cX6_readsMonk 164 = .ok (.iload_n 3, 1) := by decide +kernel
theorem dX6_readsMonk_165 : decode cX6_readsMonk 165 = .ok (.iastore, 1) := by decide +kernel
theorem dX6_readsMonk_166 : decode cX6_readsMonk 166 = .ok (.iconst 1, 1) := by decide +kernel
theorem dX6_readsMonk_167 : decode cX6_readsMonk 167 = .ok (.ireturn, 1) := by decide +kernel
theorem dX6_readsBell_0 : decode cX6_readsBell 0 = .ok (.aload_n 0, 1) := by decide +kernel
theorem dX6_readsBell_1 : decode cX6_readsBell 1 = .ok (.ldc_w 293, 3) := by decide +kernel
theorem dX6_readsBell_4 : decode cX6_readsBell 4 = .ok (.invokevirtual 272, 3) := by decide +kernel
theorem dX6_readsBell_7 : decode cX6_readsBell 7 = .ok (.ifCond .ne 5, 3) := by decide +kernel
theorem dX6_readsBell_10 : decode cX6_readsBell 10 = .ok (.iconst 0, 1) := by decide +kernel
theorem dX6_readsBell_11 : decode cX6_readsBell 11 = .ok (.ireturn, 1) := by decide +kernel
theorem dX6_readsBell_12 : decode cX6_readsBell 12 = .ok (.aload_n 0, 1) := by decide +kernel
theorem dX6_readsBell_13 : decode cX6_readsBell 13 = .ok (.iconst 1, 1) := by decide +kernel
theorem dX6_readsBell_14 : decode cX6_readsBell 14 = .ok (.invokevirtual 256, 3) := by decide +kernel
theorem dX6_readsBell_17 : decode cX6_readsBell 17 = .ok (.aload_n 0, 1) := by decide +kernel
theorem dX6_readsBell_18 : decode cX6_readsBell 18 = .ok (.iconst 0, 1) := by decide +kernel
theorem dX6_readsBell_19 : decode cX6_readsBell 19 = .ok (.bipush 23, 2) := by decide +kernel
theorem dX6_readsBell_21 : decode cX6_readsBell 21 = .ok (.invokevirtual 276, 3) := by decide +kernel
theorem dX6_readsBell_24 : decode cX6_readsBell 24 = .ok (.istore_n 1, 1) := by decide +kernel
theorem dX6_readsBell_25 : decode cX6_readsBell 25 = .ok (.aload_n 0, 1) := by decide +kernel
theorem dX6_readsBell_26 : decode cX6_readsBell 26 = .ok (.ldc_w 295, 3) := by decide +kernel
theorem dX6_readsBell_29 : decode cX6_readsBell 29 = .ok (.invokevirtual 272, 3) := by decide +kernel
theorem dX6_readsBell_32 : decode cX6_readsBell 32 = .ok (.ifCond .eq 7, 3) := by decide +kernel
theorem dX6_readsBell_35 : decode cX6_readsBell 35 = .ok (.iconst 2, 1) := by decide +kernel
theorem dX6_readsBell_36 : decode cX6_readsBell 36 = .ok (.goto 4, 3) := by decide +kernel
theorem dX6_readsBell_39 : decode cX6_readsBell 39 = .ok (.iconst 1, 1) := by decide +kernel
theorem dX6_readsBell_40 : decode cX6_readsBell 40 = .ok (.istore_n 2, 1) := by decide +kernel
theorem dX6_readsBell_41 : decode cX6_readsBell 41 = .ok (.aload_n 0, 1) := by decide +kernel
theorem dX6_readsBell_42 : decode cX6_readsBell 42 = .ok (.iload_n 2, 1) := by decide +kernel
theorem dX6_readsBell_43 : decode cX6_readsBell 43 = .ok (.iconst 2, 1) := by decide +kernel
theorem dX6_readsBell_44 : decode cX6_readsBell 44 = .ok (.if_icmp .eq 13, 3) := by decide +kernel
theorem dX6_readsBell_47 : decode cX6_readsBell 47 = .ok (.aload_n 0, 1) := by decide +kernel
theorem dX6_readsBell_48 : decode cX6_readsBell 48 = .ok (.ldc_w 297, 3) := by decide +kernel
theorem dX6_readsBell_51 : decode cX6_readsBell 51 = .ok (.invokevirtual 272, 3) := by decide +kernel
theorem dX6_readsBell_54 : decode cX6_readsBell 54 = .ok (.ifCond .eq 7, 3) := by decide +kernel
theorem dX6_readsBell_57 : decode cX6_readsBell 57 = .ok (.iconst 1, 1) := by decide +kernel
theorem dX6_readsBell_58 : decode cX6_readsBell 58 = .ok (.goto 4, 3) := by decide +kernel
theorem dX6_readsBell_61 : decode cX6_readsBell 61 = .ok (.iconst 0, 1) := by decide +kernel
theorem dX6_readsBell_62 : decode cX6_readsBell 62 = .ok (.invokevirtual 256, 3) := by decide +kernel
theorem dX6_readsBell_65 : decode cX6_readsBell 65 = .ok (.aload_n 0, 1) := by decide +kernel
theorem dX6_readsBell_66 : decode cX6_readsBell 66 = .ok (.aload_n 0, 1) := by decide +kernel
theorem dX6_readsBell_67 : decode cX6_readsBell 67 = .ok (.invokevirtual 269, 3) := by decide +kernel
theorem dX6_readsBell_70 : decode cX6_readsBell 70 = .ok (.invokevirtual 256, 3) := by decide +kernel
theorem dX6_readsBell_73 : decode cX6_readsBell 73 = .ok (.aload_n 0, 1) := by decide +kernel
theorem dX6_readsBell_74 : decode cX6_readsBell 74 = .ok (.getfield 235, 3) := by decide +kernel
theorem dX6_readsBell_77 : decode cX6_readsBell 77 = .ok (.ifCond .ne 13, 3) := by decide +kernel
theorem dX6_readsBell_80 : decode cX6_readsBell 80 = .ok (.aload_n 0, 1) := by decide +kernel
theorem dX6_readsBell_81 : decode cX6_readsBell 81 = .ok (.getfield 7, 3) := by decide +kernel
theorem dX6_readsBell_84 : decode cX6_readsBell 84 = .ok (.bipush 20, 2) := by decide +kernel
theorem dX6_readsBell_86 : decode cX6_readsBell 86 = .ok (.iload_n 1, 1) := by decide +kernel
theorem dX6_readsBell_87 : decode cX6_readsBell 87 = .ok (.iadd, 1) := by decide +kernel
theorem dX6_readsBell_88 : decode cX6_readsBell 88 = .ok (.iload_n 2, 1) := by decide +kernel
theorem dX6_readsBell_89 : decode cX6_readsBell 89 = .ok (.iastore, 1) := by decide +kernel
theorem dX6_readsBell_90 : decode cX6_readsBell 90 = .ok (.aload_n 0, 1) := by decide +kernel
theorem dX6_readsBell_91 : decode cX6_readsBell 91 = .ok (.getfield 235, 3) := by decide +kernel
theorem dX6_readsBell_94 : decode cX6_readsBell 94 = .ok (.ifCond .ne 7, 3) := by decide +kernel
theorem dX6_readsBell_97 : decode cX6_readsBell 97 = .ok (.iconst 1, 1) := by decide +kernel
theorem dX6_readsBell_98 : decode cX6_readsBell 98 = .ok (.goto 4, 3) := by decide +kernel
theorem dX6_readsBell_101 : decode cX6_readsBell 101 = .ok (.iconst 0, 1) := by decide +kernel
theorem dX6_readsBell_102 : decode cX6_readsBell 102 = .ok (.ireturn, 1) := by decide +kernel
theorem dX6_readsWant_0 : decode cX6_readsWant 0 = .ok (.aload_n 0, 1) := by decide +kernel
theorem dX6_readsWant_1 : decode cX6_readsWant 1 = .ok (.iconst (-1), 1) := by decide +kernel
theorem dX6_readsWant_2 : decode cX6_readsWant 2 = .ok (.invokevirtual 299, 3) := by decide +kernel
theorem dX6_readsWant_5 : decode cX6_readsWant 5 = .ok (.istore_n 1, 1) := by decide +kernel
theorem dX6_readsWant_6 : decode cX6_readsWant 6 = .ok (.aload_n 0, 1) := by decide +kernel
theorem dX6_readsWant_7 : decode cX6_readsWant 7 = .ok (.invokevirtual 290, 3) := by decide +kernel
theorem dX6_readsWant_10 : decode cX6_readsWant 10 = .ok (.istore_n 2, 1) := by decide +kernel
theorem dX6_readsWant_11 : decode cX6_readsWant 11 = .ok (.aload_n 0, 1) := by decide +kernel
theorem dX6_readsWant_12 : decode cX6_readsWant 12 = .ok (.iconst 1, 1) := by decide +kernel
theorem dX6_readsWant_13 : decode cX6_readsWant 13 = .ok (.invokevirtual 256, 3) := by decide +kernel
theorem dX6_readsWant_16 : decode cX6_readsWant 16 = .ok (.aload_n 0, 1) := by decide +kernel
theorem dX6_readsWant_17 : decode cX6_readsWant 17 = .ok (.getfield 235, 3) := by decide +kernel
theorem dX6_readsWant_20 : decode cX6_readsWant 20 = .ok (.ifCond .eq 4, 3) := by decide +kernel
theorem dX6_readsWant_23 : decode cX6_readsWant 23 = .ok (.return_, 1) := by decide +kernel
theorem dX6_readsWant_24 : decode cX6_readsWant 24 = .ok (.aload_n 0, 1) := by decide +kernel
theorem dX6_readsWant_25 : decode cX6_readsWant 25 = .ok (.aload_n 0, 1) := by decide +kernel
theorem dX6_readsWant_26 : decode cX6_readsWant 26 = .ok (.iload_n 1, 1) := by decide +kernel
theorem dX6_readsWant_27 : decode cX6_readsWant 27 = .ok (.iconst 3, 1) := by decide +kernel
theorem dX6_readsWant_28 : decode cX6_readsWant 28 = .ok (.iload_n 2, 1) := by decide +kernel
theorem dX6_readsWant_29 : decode cX6_readsWant 29 = .ok (.invokevirtual 90, 3) := by decide +kernel
theorem dX6_readsWant_32 : decode cX6_readsWant 32 = .ok (.ifCond .eq 8, 3) := by decide +kernel
theorem dX6_readsWant_35 : decode cX6_readsWant 35 = .ok (.bipush (-11), 2) := by decide +kernel
theorem dX6_readsWant_37 : decode cX6_readsWant 37 = .ok (.goto 4, 3) := by decide +kernel
theorem dX6_readsWant_40 : decode cX6_readsWant 40 = .ok (.iconst 0, 1) := by decide +kernel
theorem dX6_readsWant_41 : decode cX6_readsWant 41 = .ok (.invokevirtual 302, 3) := by decide +kernel
theorem dX6_readsWant_44 : decode cX6_readsWant 44 = .ok (.ifCond .eq 13, 3) := by decide +kernel
theorem dX6_readsWant_47 : decode cX6_readsWant 47 = .ok (.aload_n 0, 1) := by decide +kernel
theorem dX6_readsWant_48 : decode cX6_readsWant 48 = .ok (.aload_n 0, 1) := by decide +kernel
theorem dX6_readsWant_49 : decode cX6_readsWant 49 = .ok (.iload_n 1, 1) := by decide +kernel
theorem dX6_readsWant_50 : decode cX6_readsWant 50 = .ok (.iload_n 2, 1) := by decide +kernel
theorem dX6_readsWant_51 : decode cX6_readsWant 51 = .ok (.invokevirtual 176, 3) := by decide +kernel
theorem dX6_readsWant_54 : decode cX6_readsWant 54 = .ok (.putfield 305, 3) := by decide +kernel
theorem dX6_readsWant_57 : decode cX6_readsWant 57 = .ok (.return_, 1) := by decide +kernel
theorem dX6_readsTelling_0 : decode cX6_readsTelling 0 = .ok (.aload_n 0, 1) := by decide +kernel
theorem dX6_readsTelling_1 : decode cX6_readsTelling 1 = .ok (.iconst (-1), 1) := by decide +kernel
theorem dX6_readsTelling_2 : decode cX6_readsTelling 2 = .ok (.invokevirtual 299, 3) := by decide +kernel
theorem dX6_readsTelling_5 : decode cX6_readsTelling 5 = .ok (.istore_n 1, 1) := by decide +kernel
theorem dX6_readsTelling_6 : decode cX6_readsTelling 6 = .ok (.aload_n 0, 1) := by decide +kernel
theorem dX6_readsTelling_7 : decode cX6_readsTelling 7 = .ok (.iload_n 1, 1) := by decide +kernel
theorem dX6_readsTelling_8 : decode cX6_readsTelling 8 = .ok (.invokevirtual 299, 3) := by decide +kernel
theorem dX6_readsTelling_11 : decode cX6_readsTelling 11 = .ok (.istore_n 2, 1) := by decide +kernel
theorem dX6_readsTelling_12 : decode cX6_readsTelling 12 = .ok (.aload_n 0, 1) := by decide +kernel
theorem dX6_readsTelling_13 : decode cX6_readsTelling 13 = .ok (.invokevirtual 290, 3) := by decide +kernel
theorem dX6_readsTelling_16 : decode cX6_readsTelling 16 = .ok (.istore_n 3, 1) := by decide +kernel
theorem dX6_readsTelling_17 : decode cX6_readsTelling 17 = .ok (.aload_n 0, 1) := by decide +kernel
theorem dX6_readsTelling_18 : decode cX6_readsTelling 18 = .ok (.iconst 1, 1) := by decide +kernel
theorem dX6_readsTelling_19 : decode cX6_readsTelling 19 = .ok (.invokevirtual 256, 3) := by decide +kernel
theorem dX6_readsTelling_22 : decode cX6_readsTelling 22 = .ok (.aload_n 0, 1) := by decide +kernel
theorem dX6_readsTelling_23 : decode cX6_readsTelling 23 = .ok (.ldc_w 308, 3) := by decide +kernel
theorem dX6_readsTelling_26 : decode cX6_readsTelling 26 = .ok (.invokevirtual 272, 3) := by decide +kernel
theorem dX6_readsTelling_29 : decode cX6_readsTelling 29 = .ok (.ifCond .eq 7, 3) := by decide +kernel
theorem dX6_readsTelling_32 : decode cX6_readsTelling 32 = .ok (.iconst 0, 1) := by decide +kernel
theorem dX6_readsTelling_33 : decode cX6_readsTelling 33 = .ok (.goto 18, 3) := by decide +kernel
theorem dX6_readsTelling_36 : decode cX6_readsTelling 36 = .ok (.aload_n 0, 1) := by decide +kernel
theorem dX6_readsTelling_37 : decode cX6_readsTelling 37 = .ok (.ldc_w 310, 3) := by decide +kernel
theorem dX6_readsTelling_40 : decode cX6_readsTelling 40 = .ok (.invokevirtual 272, 3) := by decide +kernel
theorem dX6_readsTelling_43 : decode cX6_readsTelling 43 = .ok (.ifCond .eq 7, 3) := by decide +kernel
theorem dX6_readsTelling_46 : decode cX6_readsTelling 46 = .ok (.iconst 1, 1) := by decide +kernel
theorem dX6_readsTelling_47 : decode cX6_readsTelling 47 = .ok (.goto 4, 3) := by decide +kernel
theorem dX6_readsTelling_50 : decode cX6_readsTelling 50 = .ok (.iconst 2, 1) := by decide +kernel
theorem dX6_readsTelling_51 : decode cX6_readsTelling 51 = .ok (.istore 4, 2) := by decide +kernel
theorem dX6_readsTelling_53 : decode cX6_readsTelling 53 = .ok (.aload_n 0, 1) := by decide +kernel
theorem dX6_readsTelling_54 : decode cX6_readsTelling 54 = .ok (.iload 4, 2) := by decide +kernel
theorem dX6_readsTelling_56 : decode cX6_readsTelling 56 = .ok (.iconst 2, 1) := by decide +kernel
theorem dX6_readsTelling_57 : decode cX6_readsTelling 57 = .ok (.if_icmp .ne 13, 3) := by decide +kernel
theorem dX6_readsTelling_60 : decode cX6_readsTelling 60 = .ok (.aload_n 0, 1) := by decide +kernel
theorem dX6_readsTelling_61 : decode cX6_readsTelling 61 = .ok (.ldc_w 312, 3) := by decide +kernel
theorem dX6_readsTelling_64 : decode cX6_readsTelling 64 = .ok (.invokevirtual 272, 3) := by decide +kernel
theorem dX6_readsTelling_67 : decode cX6_readsTelling 67 = .ok (.ifCond .eq 7, 3) := by decide +kernel
theorem dX6_readsTelling_70 : decode cX6_readsTelling 70 = .ok (.iconst 1, 1) := by decide +kernel
theorem dX6_readsTelling_71 : decode cX6_readsTelling 71 = .ok (.goto 4, 3) := by decide +kernel
theorem dX6_readsTelling_74 : decode cX6_readsTelling 74 = .ok (.iconst 0, 1) := by decide +kernel
theorem dX6_readsTelling_75 : decode cX6_readsTelling 75 = .ok (.invokevirtual 256, 3) := by decide +kernel
theorem dX6_readsTelling_78 : decode cX6_readsTelling 78 = .ok (.aload_n 0, 1) := by decide +kernel
theorem dX6_readsTelling_79 : decode cX6_readsTelling 79 = .ok (.getfield 235, 3) := by decide +kernel
theorem dX6_readsTelling_82 : decode cX6_readsTelling 82 = .ok (.ifCond .eq 4, 3) := by decide +kernel
theorem dX6_readsTelling_85 : decode cX6_readsTelling 85 = .ok (.return_, 1) := by decide +kernel
theorem dX6_readsTelling_86 : decode cX6_readsTelling 86 = .ok (.aload_n 0, 1) := by decide +kernel
theorem dX6_readsTelling_87 : decode cX6_readsTelling 87 = .ok (.aload_n 0, 1) := by decide +kernel
theorem dX6_readsTelling_88 : decode cX6_readsTelling 88 = .ok (.iload_n 1, 1) := by decide +kernel
theorem dX6_readsTelling_89 : decode cX6_readsTelling 89 = .ok (.iload_n 2, 1) := by decide +kernel
theorem dX6_readsTelling_90 : decode cX6_readsTelling 90 = .ok (.iload_n 3, 1) := by decide +kernel
theorem dX6_readsTelling_91 : decode cX6_readsTelling 91 = .ok (.iload 4, 2) := by decide +kernel
theorem dX6_readsTelling_93 : decode cX6_readsTelling 93 = .ok (.invokevirtual 143, 3) := by decide +kernel
theorem dX6_readsTelling_96 : decode cX6_readsTelling 96 = .ok (.invokevirtual 302, 3) := by decide +kernel
theorem dX6_readsTelling_99 : decode cX6_readsTelling 99 = .ok (.ifCond .eq 16, 3) := by decide +kernel
theorem dX6_readsTelling_102 : decode cX6_readsTelling 102 = .ok (.aload_n 0, 1) := by decide +kernel
theorem dX6_readsTelling_103 : decode cX6_readsTelling 103 = .ok (.aload_n 0, 1) := by decide +kernel
theorem dX6_readsTelling_104 : decode cX6_readsTelling 104 = .ok (.iload_n 1, 1) := by decide +kernel
theorem dX6_readsTelling_105 : decode cX6_readsTelling 105 = .ok (.iload_n 2, 1) := by decide +kernel
theorem dX6_readsTelling_106 : decode cX6_readsTelling 106 = .ok (.iload_n 3, 1) := by decide +kernel
theorem dX6_readsTelling_107 : decode cX6_readsTelling 107 = .ok (.iload 4, 2) := by decide +kernel
theorem dX6_readsTelling_109 : decode cX6_readsTelling 109 = .ok (.invokevirtual 179, 3) := by decide +kernel
theorem dX6_readsTelling_112 : decode cX6_readsTelling 112 = .ok (.putfield 305, 3) := by decide +kernel
theorem dX6_readsTelling_115 : decode cX6_readsTelling 115 = .ok (.return_, 1) := by decide +kernel
theorem dX6_readsGift_0 : decode cX6_readsGift 0 = .ok (.aload_n 0, 1) := by decide +kernel
theorem dX6_readsGift_1 : decode cX6_readsGift 1 = .ok (.iconst (-1), 1) := by decide +kernel
theorem dX6_readsGift_2 : decode cX6_readsGift 2 = .ok (.invokevirtual 299, 3) := by decide +kernel
theorem dX6_readsGift_5 : decode cX6_readsGift 5 = .ok (.istore_n 1, 1) := by decide +kernel
theorem dX6_readsGift_6 : decode cX6_readsGift 6 = .ok (.aload_n 0, 1) := by decide +kernel
theorem dX6_readsGift_7 : decode cX6_readsGift 7 = .ok (.iload_n 1, 1) := by decide +kernel
theorem dX6_readsGift_8 : decode cX6_readsGift 8 = .ok (.invokevirtual 299, 3) := by decide +kernel
theorem dX6_readsGift_11 : decode cX6_readsGift 11 = .ok (.istore_n 2, 1) := by decide +kernel
theorem dX6_readsGift_12 : decode cX6_readsGift 12 = .ok (.aload_n 0, 1) := by decide +kernel
theorem dX6_readsGift_13 : decode cX6_readsGift 13 = .ok (.iconst 1, 1) := by decide +kernel
theorem dX6_readsGift_14 : decode cX6_readsGift 14 = .ok (.bipush 50, 2) := by decide +kernel
theorem dX6_readsGift_16 : decode cX6_readsGift 16 = .ok (.invokevirtual 276, 3) := by decide +kernel
theorem dX6_readsGift_19 : decode cX6_readsGift 19 = .ok (.istore_n 3, 1) := by decide +kernel
theorem dX6_readsGift_20 : decode cX6_readsGift 20 = .ok (.aload_n 0, 1) := by decide +kernel
theorem dX6_readsGift_21 : decode cX6_readsGift 21 = .ok (.getfield 235, 3) := by decide +kernel
theorem dX6_readsGift_24 : decode cX6_readsGift 24 = .ok (.ifCond .eq 4, 3) := by decide +kernel
theorem dX6_readsGift_27 : decode cX6_readsGift 27 = .ok (.return_, 1) := by decide +kernel
theorem dX6_readsGift_28 : decode cX6_readsGift 28 = .ok (.aload_n 0, 1) := by decide +kernel
theorem dX6_readsGift_29 : decode cX6_readsGift 29 = .ok (.aload_n 0, 1) := by decide +kernel
theorem dX6_readsGift_30 : decode cX6_readsGift 30 = .ok (.iload_n 1, 1) := by decide +kernel
theorem dX6_readsGift_31 : decode cX6_readsGift 31 = .ok (.iload_n 2, 1) := by decide +kernel
theorem dX6_readsGift_32 : decode cX6_readsGift 32 = .ok (.iload_n 3, 1) := by decide +kernel
theorem dX6_readsGift_33 : decode cX6_readsGift 33 = .ok (.invokevirtual 182, 3) := by decide +kernel
theorem dX6_readsGift_36 : decode cX6_readsGift 36 = .ok (.invokevirtual 302, 3) := by decide +kernel
theorem dX6_readsGift_39 : decode cX6_readsGift 39 = .ok (.ifCond .eq 14, 3) := by decide +kernel
theorem dX6_readsGift_42 : decode cX6_readsGift 42 = .ok (.aload_n 0, 1) := by decide +kernel
theorem dX6_readsGift_43 : decode cX6_readsGift 43 = .ok (.aload_n 0, 1) := by decide +kernel
theorem dX6_readsGift_44 : decode cX6_readsGift 44 = .ok (.iload_n 1, 1) := by decide +kernel
theorem dX6_readsGift_45 : decode cX6_readsGift 45 = .ok (.iload_n 2, 1) := by decide +kernel
theorem dX6_readsGift_46 : decode cX6_readsGift 46 = .ok (.iload_n 3, 1) := by decide +kernel
theorem dX6_readsGift_47 : decode cX6_readsGift 47 = .ok (.invokevirtual 185, 3) := by decide +kernel
theorem dX6_readsGift_50 : decode cX6_readsGift 50 = .ok (.putfield 305, 3) := by decide +kernel
theorem dX6_readsGift_53 : decode cX6_readsGift 53 = .ok (.return_, 1) := by decide +kernel
theorem dX6_readsDeed_0 : decode cX6_readsDeed 0 = .ok (.aload_n 0, 1) := by decide +kernel
theorem dX6_readsDeed_1 : decode cX6_readsDeed 1 = .ok (.ldc_w 314, 3) := by decide +kernel
theorem dX6_readsDeed_4 : decode cX6_readsDeed 4 = .ok (.invokevirtual 272, 3) := by decide +kernel
theorem dX6_readsDeed_7 : decode cX6_readsDeed 7 = .ok (.istore_n 1, 1) := by decide +kernel
theorem dX6_readsDeed_8 : decode cX6_readsDeed 8 = .ok (.aload_n 0, 1) := by decide +kernel
theorem dX6_readsDeed_9 : decode cX6_readsDeed 9 = .ok (.ldc_w 316, 3) := by decide +kernel
theorem dX6_readsDeed_12 : decode cX6_readsDeed 12 = .ok (.invokevirtual 272, 3) := by decide +kernel
theorem dX6_readsDeed_15 : decode cX6_readsDeed 15 = .ok (.istore_n 2, 1) := by decide +kernel
theorem dX6_readsDeed_16 : decode cX6_readsDeed 16 = .ok (.aload_n 0, 1) := by decide +kernel
theorem dX6_readsDeed_17 : decode cX6_readsDeed 17 = .ok (.ldc_w 318, 3) := by decide +kernel
theorem dX6_readsDeed_20 : decode cX6_readsDeed 20 = .ok (.invokevirtual 272, 3) := by decide +kernel
theorem dX6_readsDeed_23 : decode cX6_readsDeed 23 = .ok (.istore_n 3, 1) := by decide +kernel
theorem dX6_readsDeed_24 : decode cX6_readsDeed 24 = .ok (.iload_n 1, 1) := by decide +kernel
theorem dX6_readsDeed_25 : decode cX6_readsDeed 25 = .ok (.ifCond .ne 23, 3) := by decide +kernel
theorem dX6_readsDeed_28 : decode cX6_readsDeed 28 = .ok (.iload_n 2, 1) := by decide +kernel
theorem dX6_readsDeed_29 : decode cX6_readsDeed 29 = .ok (.ifCond .ne 19, 3) := by decide +kernel
theorem dX6_readsDeed_32 : decode cX6_readsDeed 32 = .ok (.iload_n 3, 1) := by decide +kernel
theorem dX6_readsDeed_33 : decode cX6_readsDeed 33 = .ok (.ifCond .ne 15, 3) := by decide +kernel
theorem dX6_readsDeed_36 : decode cX6_readsDeed 36 = .ok (.aload_n 0, 1) := by decide +kernel
theorem dX6_readsDeed_37 : decode cX6_readsDeed 37 = .ok (.ldc_w 320, 3) := by decide +kernel
theorem dX6_readsDeed_40 : decode cX6_readsDeed 40 = .ok (.invokevirtual 272, 3) := by decide +kernel
theorem dX6_readsDeed_43 : decode cX6_readsDeed 43 = .ok (.ifCond .ne 5, 3) := by decide +kernel
theorem dX6_readsDeed_46 : decode cX6_readsDeed 46 = .ok (.iconst 0, 1) := by decide +kernel
theorem dX6_readsDeed_47 : decode cX6_readsDeed 47 = .ok (.ireturn, 1) := by decide +kernel
theorem dX6_readsDeed_48 : decode cX6_readsDeed 48 = .ok (.aload_n 0, 1) := by decide +kernel
theorem dX6_readsDeed_49 : decode cX6_readsDeed 49 = .ok (.iconst 1, 1) := by decide +kernel
theorem dX6_readsDeed_50 : decode cX6_readsDeed 50 = .ok (.invokevirtual 256, 3) := by decide +kernel
theorem dX6_readsDeed_53 : decode cX6_readsDeed 53 = .ok (.iload_n 1, 1) := by decide +kernel
theorem dX6_readsDeed_54 : decode cX6_readsDeed 54 = .ok (.ifCond .eq 10, 3) := by decide +kernel
theorem dX6_readsDeed_57 : decode cX6_readsDeed 57 = .ok (.aload_n 0, 1) := by decide +kernel
theorem dX6_readsDeed_58 : decode cX6_readsDeed 58 = .ok (.invokevirtual 322, 3) := by decide +kernel
theorem dX6_readsDeed_61 : decode cX6_readsDeed 61 = .ok (.goto 57, 3) := by decide +kernel
theorem dX6_readsDeed_64 : decode cX6_readsDeed 64 = .ok (.iload_n 2, 1) := by decide +kernel
theorem dX6_readsDeed_65 : decode cX6_readsDeed 65 = .ok (.ifCond .eq 10, 3) := by decide +kernel
theorem dX6_readsDeed_68 : decode cX6_readsDeed 68 = .ok (.aload_n 0, 1) := by decide +kernel
theorem dX6_readsDeed_69 : decode cX6_readsDeed 69 = .ok (.invokevirtual 325, 3) := by decide +kernel
theorem dX6_readsDeed_72 : decode cX6_readsDeed 72 = .ok (.goto 46, 3) := by decide +kernel
theorem dX6_readsDeed_75 : decode cX6_readsDeed 75 = .ok (.iload_n 3, 1) := by decide +kernel
theorem dX6_readsDeed_76 : decode cX6_readsDeed 76 = .ok (.ifCond .eq 10, 3) := by decide +kernel
theorem dX6_readsDeed_79 : decode cX6_readsDeed 79 = .ok (.aload_n 0, 1) := by decide +kernel
theorem dX6_readsDeed_80 : decode cX6_readsDeed 80 = .ok (.invokevirtual 328, 3) := by decide +kernel
theorem dX6_readsDeed_83 : decode cX6_readsDeed 83 = .ok (.goto 35, 3) := by decide +kernel
theorem dX6_readsDeed_86 : decode cX6_readsDeed 86 = .ok (.aload_n 0, 1) := by decide +kernel
theorem dX6_readsDeed_87 : decode cX6_readsDeed 87 = .ok (.iconst 1, 1) := by decide +kernel
theorem dX6_readsDeed_88 : decode cX6_readsDeed 88 = .ok (.bipush 99, 2) := by decide +kernel
theorem dX6_readsDeed_90 : decode cX6_readsDeed 90 = .ok (.invokevirtual 276, 3) := by decide +kernel
theorem dX6_readsDeed_93 : decode cX6_readsDeed 93 = .ok (.istore 4, 2) := by decide +kernel
theorem dX6_readsDeed_95 : decode cX6_readsDeed 95 = .ok (.aload_n 0, 1) := by decide +kernel
theorem dX6_readsDeed_96 : decode cX6_readsDeed 96 = .ok (.aload_n 0, 1) := by decide +kernel
theorem dX6_readsDeed_97 : decode cX6_readsDeed 97 = .ok (.iload 4, 2) := by decide +kernel
theorem dX6_readsDeed_99 : decode cX6_readsDeed 99 = .ok (.invokevirtual 188, 3) := by decide +kernel
theorem dX6_readsDeed_102 : decode cX6_readsDeed 102 = .ok (.invokevirtual 302, 3) := by decide +kernel
theorem dX6_readsDeed_105 : decode cX6_readsDeed 105 = .ok (.ifCond .eq 13, 3) := by decide +kernel
theorem dX6_readsDeed_108 : decode cX6_readsDeed 108 = .ok (.aload_n 0, 1) := by decide +kernel
theorem dX6_readsDeed_109 : decode cX6_readsDeed 109 = .ok (.aload_n 0, 1) := by decide +kernel
theorem dX6_readsDeed_110 : decode cX6_readsDeed 110 = .ok (.iload 4, 2) := by decide +kernel
theorem dX6_readsDeed_112 : decode cX6_readsDeed 112 = .ok (.invokevirtual 191, 3) := by decide +kernel
theorem dX6_readsDeed_115 : decode cX6_readsDeed 115 = .ok (.putfield 305, 3) := by decide +kernel
theorem dX6_readsDeed_118 : decode cX6_readsDeed 118 = .ok (.aload_n 0, 1) := by decide +kernel
theorem dX6_readsDeed_119 : decode cX6_readsDeed 119 = .ok (.getfield 235, 3) := by decide +kernel
theorem dX6_readsDeed_122 : decode cX6_readsDeed 122 = .ok (.ifCond .ne 7, 3) := by decide +kernel
theorem dX6_readsDeed_125 : decode cX6_readsDeed 125 = .ok (.iconst 1, 1) := by decide +kernel
theorem dX6_readsDeed_126 : decode cX6_readsDeed 126 = .ok (.goto 4, 3) := by decide +kernel
theorem dX6_readsDeed_129 : decode cX6_readsDeed 129 = .ok (.iconst 0, 1) := by decide +kernel
theorem dX6_readsDeed_130 : decode cX6_readsDeed 130 = .ok (.ireturn, 1) := by decide +kernel
theorem dX6_load_0 : decode cX6_load 0 = .ok (.aload_n 0, 1) := by decide +kernel
theorem dX6_load_1 : decode cX6_load 1 = .ok (.iconst 0, 1) := by decide +kernel
theorem dX6_load_2 : decode cX6_load 2 = .ok (.putfield 43, 3) := by decide +kernel
theorem dX6_load_5 : decode cX6_load 5 = .ok (.aload_n 0, 1) := by decide +kernel
theorem dX6_load_6 : decode cX6_load 6 = .ok (.iconst 0, 1) := by decide +kernel
theorem dX6_load_7 : decode cX6_load 7 = .ok (.putfield 217, 3) := by decide +kernel
theorem dX6_load_10 : decode cX6_load 10 = .ok (.aload_n 0, 1) := by decide +kernel
theorem dX6_load_11 : decode cX6_load 11 = .ok (.iconst 0, 1) := by decide +kernel
theorem dX6_load_12 : decode cX6_load 12 = .ok (.putfield 235, 3) := by decide +kernel
theorem dX6_load_15 : decode cX6_load 15 = .ok (.aload_n 0, 1) := by decide +kernel
theorem dX6_load_16 : decode cX6_load 16 = .ok (.getfield 13, 3) := by decide +kernel
theorem dX6_load_19 : decode cX6_load 19 = .ok (.iconst 0, 1) := by decide +kernel
theorem dX6_load_20 : decode cX6_load 20 = .ok (.aload_n 0, 1) := by decide +kernel
theorem dX6_load_21 : decode cX6_load 21 = .ok (.getfield 7, 3) := by decide +kernel
theorem dX6_load_24 : decode cX6_load 24 = .ok (.iconst 0, 1) := by decide +kernel
theorem dX6_load_25 : decode cX6_load 25 = .ok (.invokestatic 49, 3) := by decide +kernel
theorem dX6_load_28 : decode cX6_load 28 = .ok (.aload_n 0, 1) := by decide +kernel
theorem dX6_load_29 : decode cX6_load 29 = .ok (.invokevirtual 36, 3) := by decide +kernel
theorem dX6_load_32 : decode cX6_load 32 = .ok (.aload_n 0, 1) := by decide +kernel
theorem dX6_load_33 : decode cX6_load 33 = .ok (.invokevirtual 253, 3) := by decide +kernel
theorem dX6_load_36 : decode cX6_load 36 = .ok (.aload_n 0, 1) := by decide +kernel
theorem dX6_load_37 : decode cX6_load 37 = .ok (.ldc_w 331, 3) := by decide +kernel
theorem dX6_load_40 : decode cX6_load 40 = .ok (.iconst 2, 1) := by decide +kernel
theorem dX6_load_41 : decode cX6_load 41 = .ok (.bipush 99, 2) := by decide +kernel
theorem dX6_load_43 : decode cX6_load 43 = .ok (.invokevirtual 333, 3) := by decide +kernel
theorem dX6_load_46 : decode cX6_load 46 = .ok (.aload_n 0, 1) := by decide +kernel
theorem dX6_load_47 : decode cX6_load 47 = .ok (.ldc_w 337, 3) := by decide +kernel
theorem dX6_load_50 : decode cX6_load 50 = .ok (.iconst 3, 1) := by decide +kernel
theorem dX6_load_51 : decode cX6_load 51 = .ok (.bipush 50, 2) := by decide +kernel
theorem dX6_load_53 : decode cX6_load 53 = .ok (.invokevirtual 333, 3) := by decide +kernel
theorem dX6_load_56 : decode cX6_load 56 = .ok (.aload_n 0, 1) := by decide +kernel
theorem dX6_load_57 : decode cX6_load 57 = .ok (.ldc_w 279, 3) := by decide +kernel
theorem dX6_load_60 : decode cX6_load 60 = .ok (.invokevirtual 272, 3) := by decide +kernel
theorem dX6_load_63 : decode cX6_load 63 = .ok (.ifCond .ne 9, 3) := by decide +kernel
theorem dX6_load_66 : decode cX6_load 66 = .ok (.aload_n 0, 1) := by decide +kernel
theorem dX6_load_67 : decode cX6_load 67 = .ok (.bipush (-2), 2) := by decide +kernel
theorem dX6_load_69 : decode cX6_load 69 = .ok (.invokevirtual 250, 3) := by decide +kernel
theorem dX6_load_72 : decode cX6_load 72 = .ok (.aload_n 0, 1) := by decide +kernel
theorem dX6_load_73 : decode cX6_load 73 = .ok (.getfield 235, 3) := by decide +kernel
theorem dX6_load_76 : decode cX6_load 76 = .ok (.ifCond .ne 7, 3) := by decide +kernel
theorem dX6_load_79 : decode cX6_load 79 = .ok (.iconst 1, 1) := by decide +kernel
theorem dX6_load_80 : decode cX6_load 80 = .ok (.goto 4, 3) := by decide +kernel
theorem dX6_load_83 : decode cX6_load 83 = .ok (.iconst 0, 1) := by decide +kernel
theorem dX6_load_84 : decode cX6_load 84 = .ok (.istore_n 1, 1) := by decide +kernel
theorem dX6_load_85 : decode cX6_load 85 = .ok (.iload_n 1, 1) := by decide +kernel
theorem dX6_load_86 : decode cX6_load 86 = .ok (.ifCond .eq 11, 3) := by decide +kernel
theorem dX6_load_89 : decode cX6_load 89 = .ok (.aload_n 0, 1) := by decide +kernel
theorem dX6_load_90 : decode cX6_load 90 = .ok (.invokevirtual 339, 3) := by decide +kernel
theorem dX6_load_93 : decode cX6_load 93 = .ok (.istore_n 1, 1) := by decide +kernel
theorem dX6_load_94 : decode cX6_load 94 = .ok (.goto (-9), 3) := by decide +kernel
theorem dX6_load_97 : decode cX6_load 97 = .ok (.aload_n 0, 1) := by decide +kernel
theorem dX6_load_98 : decode cX6_load 98 = .ok (.invokevirtual 287, 3) := by decide +kernel
theorem dX6_load_101 : decode cX6_load 101 = .ok (.iconst (-1), 1) := by decide +kernel
theorem dX6_load_102 : decode cX6_load 102 = .ok (.if_icmp .ne 9, 3) := by decide +kernel
theorem dX6_load_105 : decode cX6_load 105 = .ok (.aload_n 0, 1) := by decide +kernel
theorem dX6_load_106 : decode cX6_load 106 = .ok (.bipush (-2), 2) := by decide +kernel
theorem dX6_load_108 : decode cX6_load 108 = .ok (.invokevirtual 250, 3) := by decide +kernel
theorem dX6_load_111 : decode cX6_load 111 = .ok (.aload_n 0, 1) := by decide +kernel
theorem dX6_load_112 : decode cX6_load 112 = .ok (.getfield 235, 3) := by decide +kernel
theorem dX6_load_115 : decode cX6_load 115 = .ok (.ifCond .ne 7, 3) := by decide +kernel
theorem dX6_load_118 : decode cX6_load 118 = .ok (.iconst 1, 1) := by decide +kernel
theorem dX6_load_119 : decode cX6_load 119 = .ok (.goto 4, 3) := by decide +kernel
theorem dX6_load_122 : decode cX6_load 122 = .ok (.iconst 0, 1) := by decide +kernel
theorem dX6_load_123 : decode cX6_load 123 = .ok (.istore_n 1, 1) := by decide +kernel
theorem dX6_load_124 : decode cX6_load 124 = .ok (.iload_n 1, 1) := by decide +kernel
theorem dX6_load_125 : decode cX6_load 125 = .ok (.ifCond .eq 11, 3) := by decide +kernel
theorem dX6_load_128 : decode cX6_load 128 = .ok (.aload_n 0, 1) := by decide +kernel
theorem dX6_load_129 : decode cX6_load 129 = .ok (.invokevirtual 342, 3) := by decide +kernel
theorem dX6_load_132 : decode cX6_load 132 = .ok (.istore_n 1, 1) := by decide +kernel
theorem dX6_load_133 : decode cX6_load 133 = .ok (.goto (-9), 3) := by decide +kernel
theorem dX6_load_136 : decode cX6_load 136 = .ok (.aload_n 0, 1) := by decide +kernel
theorem dX6_load_137 : decode cX6_load 137 = .ok (.getfield 235, 3) := by decide +kernel
theorem dX6_load_140 : decode cX6_load 140 = .ok (.ifCond .ne 7, 3) := by decide +kernel
theorem dX6_load_143 : decode cX6_load 143 = .ok (.iconst 1, 1) := by decide +kernel
theorem dX6_load_144 : decode cX6_load 144 = .ok (.goto 4, 3) := by decide +kernel
theorem dX6_load_147 : decode cX6_load 147 = .ok (.iconst 0, 1) := by decide +kernel
theorem dX6_load_148 : decode cX6_load 148 = .ok (.istore_n 1, 1) := by decide +kernel
theorem dX6_load_149 : decode cX6_load 149 = .ok (.iload_n 1, 1) := by decide +kernel
theorem dX6_load_150 : decode cX6_load 150 = .ok (.ifCond .eq 11, 3) := by decide +kernel
theorem dX6_load_153 : decode cX6_load 153 = .ok (.aload_n 0, 1) := by decide +kernel
theorem dX6_load_154 : decode cX6_load 154 = .ok (.invokevirtual 345, 3) := by decide +kernel
theorem dX6_load_157 : decode cX6_load 157 = .ok (.istore_n 1, 1) := by decide +kernel
theorem dX6_load_158 : decode cX6_load 158 = .ok (.goto (-9), 3) := by decide +kernel
theorem dX6_load_161 : decode cX6_load 161 = .ok (.aload_n 0, 1) := by decide +kernel
theorem dX6_load_162 : decode cX6_load 162 = .ok (.getfield 235, 3) := by decide +kernel
theorem dX6_load_165 : decode cX6_load 165 = .ok (.ifCond .ne 7, 3) := by decide +kernel
theorem dX6_load_168 : decode cX6_load 168 = .ok (.iconst 1, 1) := by decide +kernel
theorem dX6_load_169 : decode cX6_load 169 = .ok (.goto 4, 3) := by decide +kernel
theorem dX6_load_172 : decode cX6_load 172 = .ok (.iconst 0, 1) := by decide +kernel
theorem dX6_load_173 : decode cX6_load 173 = .ok (.istore_n 1, 1) := by decide +kernel
theorem dX6_load_174 : decode cX6_load 174 = .ok (.iload_n 1, 1) := by decide +kernel
theorem dX6_load_175 : decode cX6_load 175 = .ok (.ifCond .eq 11, 3) := by decide +kernel
theorem dX6_load_178 : decode cX6_load 178 = .ok (.aload_n 0, 1) := by decide +kernel
theorem dX6_load_179 : decode cX6_load 179 = .ok (.invokevirtual 348, 3) := by decide +kernel
theorem dX6_load_182 : decode cX6_load 182 = .ok (.istore_n 1, 1) := by decide +kernel
theorem dX6_load_183 : decode cX6_load 183 = .ok (.goto (-9), 3) := by decide +kernel
theorem dX6_load_186 : decode cX6_load 186 = .ok (.aload_n 0, 1) := by decide +kernel
theorem dX6_load_187 : decode cX6_load 187 = .ok (.getfield 226, 3) := by decide +kernel
theorem dX6_load_190 : decode cX6_load 190 = .ok (.iconst 3, 1) := by decide +kernel
theorem dX6_load_191 : decode cX6_load 191 = .ok (.if_icmp .eq 9, 3) := by decide +kernel
theorem dX6_load_194 : decode cX6_load 194 = .ok (.aload_n 0, 1) := by decide +kernel
theorem dX6_load_195 : decode cX6_load 195 = .ok (.bipush (-2), 2) := by decide +kernel
theorem dX6_load_197 : decode cX6_load 197 = .ok (.invokevirtual 250, 3) := by decide +kernel
theorem dX6_load_200 : decode cX6_load 200 = .ok (.aload_n 0, 1) := by decide +kernel
theorem dX6_load_201 : decode cX6_load 201 = .ok (.aload_n 0, 1) := by decide +kernel
theorem dX6_load_202 : decode cX6_load 202 = .ok (.getfield 235, 3) := by decide +kernel
theorem dX6_load_205 : decode cX6_load 205 = .ok (.ifCond .ne 7, 3) := by decide +kernel
theorem dX6_load_208 : decode cX6_load 208 = .ok (.iconst (-1), 1) := by decide +kernel
theorem dX6_load_209 : decode cX6_load 209 = .ok (.goto 7, 3) := by decide +kernel
theorem dX6_load_212 : decode cX6_load 212 = .ok (.aload_n 0, 1) := by decide +kernel
theorem dX6_load_213 : decode cX6_load 213 = .ok (.getfield 247, 3) := by decide +kernel
theorem dX6_load_216 : decode cX6_load 216 = .ok (.putfield 32, 3) := by decide +kernel
theorem dX6_load_219 : decode cX6_load 219 = .ok (.aload_n 0, 1) := by decide +kernel
theorem dX6_load_220 : decode cX6_load 220 = .ok (.iconst 0, 1) := by decide +kernel
theorem dX6_load_221 : decode cX6_load 221 = .ok (.putfield 211, 3) := by decide +kernel
theorem dX6_load_224 : decode cX6_load 224 = .ok (.aload_n 0, 1) := by decide +kernel
theorem dX6_load_225 : decode cX6_load 225 = .ok (.getfield 235, 3) := by decide +kernel
theorem dX6_load_228 : decode cX6_load 228 = .ok (.ifCond .eq 16, 3) := by decide +kernel
theorem dX6_load_231 : decode cX6_load 231 = .ok (.aload_n 0, 1) := by decide +kernel
theorem dX6_load_232 : decode cX6_load 232 = .ok (.getfield 7, 3) := by decide +kernel
theorem dX6_load_235 : decode cX6_load 235 = .ok (.iconst 0, 1) := by decide +kernel
theorem dX6_load_236 : decode cX6_load 236 = .ok (.aload_n 0, 1) := by decide +kernel
theorem dX6_load_237 : decode cX6_load 237 = .ok (.getfield 13, 3) := by decide +kernel
theorem dX6_load_240 : decode cX6_load 240 = .ok (.iconst 0, 1) := by decide +kernel
theorem dX6_load_241 : decode cX6_load 241 = .ok (.invokestatic 49, 3) := by decide +kernel
theorem dX6_load_244 : decode cX6_load 244 = .ok (.aload_n 0, 1) := by decide +kernel
theorem dX6_load_245 : decode cX6_load 245 = .ok (.getfield 235, 3) := by decide +kernel
theorem dX6_load_248 : decode cX6_load 248 = .ok (.ifCond .eq 8, 3) := by decide +kernel
theorem dX6_load_251 : decode cX6_load 251 = .ok (.aload_n 0, 1) := by decide +kernel
theorem dX6_load_252 : decode cX6_load 252 = .ok (.getfield 235, 3) := by decide +kernel
theorem dX6_load_255 : decode cX6_load 255 = .ok (.ireturn, 1) := by decide +kernel
theorem dX6_load_256 : decode cX6_load 256 = .ok (.aload_n 0, 1) := by decide +kernel
theorem dX6_load_257 : decode cX6_load 257 = .ok (.aload_n 0, 1) := by decide +kernel
theorem dX6_load_258 : decode cX6_load 258 = .ok (.getfield 13, 3) := by decide +kernel
theorem dX6_load_261 : decode cX6_load 261 = .ok (.invokevirtual 57, 3) := by decide +kernel
theorem dX6_load_264 : decode cX6_load 264 = .ok (.aload_n 0, 1) := by decide +kernel
theorem dX6_load_265 : decode cX6_load 265 = .ok (.getfield 7, 3) := by decide +kernel
theorem dX6_load_268 : decode cX6_load 268 = .ok (.iconst 0, 1) := by decide +kernel
theorem dX6_load_269 : decode cX6_load 269 = .ok (.iaload, 1) := by decide +kernel
theorem dX6_load_270 : decode cX6_load 270 = .ok (.ireturn, 1) := by decide +kernel
theorem dX6_errorPosition_0 : decode cX6_errorPosition 0 = .ok (.aload_n 0, 1) := by decide +kernel
theorem dX6_errorPosition_1 : decode cX6_errorPosition 1 = .ok (.iconst 0, 1) := by decide +kernel
theorem dX6_errorPosition_2 : decode cX6_errorPosition 2 = .ok (.putfield 43, 3) := by decide +kernel
theorem dX6_errorPosition_5 : decode cX6_errorPosition 5 = .ok (.aload_n 0, 1) := by decide +kernel
theorem dX6_errorPosition_6 : decode cX6_errorPosition 6 = .ok (.getfield 32, 3) := by decide +kernel
theorem dX6_errorPosition_9 : decode cX6_errorPosition 9 = .ok (.ireturn, 1) := by decide +kernel
