theorem dX11_best_53 : decode cX11_best 53 = .ok (.iload 4, 2) := by decide +kernel
theorem dX11_best_55 : decode cX11_best 55 = .ok (.iload_n 2, 1) := by decide +kernel
theorem dX11_best_56 : decode cX11_best 56 = .ok (.if_icmp .ge 8, 3) := by decide +kernel
theorem dX11_best_59 : decode cX11_best 59 = .ok (.iload 4, 2) := by decide +kernel
theorem dX11_best_61 : decode cX11_best 61 = .ok (.goto 4, 3) := by decide +kernel
theorem dX11_best_64 : decode cX11_best 64 = .ok (.iload_n 2, 1) := by decide +kernel
theorem dX11_best_65 : decode cX11_best 65 = .ok (.istore_n 2, 1) := by decide +kernel
theorem dX11_best_66 : decode cX11_best 66 = .ok (.iinc 3 1, 3) := by decide +kernel
theorem dX11_best_69 : decode cX11_best 69 = .ok (.goto (-62), 3) := by decide +kernel
theorem dX11_best_72 : decode cX11_best 72 = .ok (.iload_n 1, 1) := by decide +kernel
theorem dX11_best_73 : decode cX11_best 73 = .ok (.ireturn, 1) := by decide +kernel
theorem dX11_isOneAtMost_0 : decode cX11_isOneAtMost 0 = .ok (.iload_n 0, 1) := by decide +kernel
theorem dX11_isOneAtMost_1 : decode cX11_isOneAtMost 1 = .ok (.iload_n 0, 1) := by decide +kernel
theorem dX11_isOneAtMost_2 : decode cX11_isOneAtMost 2 = .ok (.iconst 1, 1) := by decide +kernel
theorem dX11_isOneAtMost_3 : decode cX11_isOneAtMost 3 = .ok (.isub, 1) := by decide +kernel
theorem dX11_isOneAtMost_4 : decode cX11_isOneAtMost 4 = .ok (.iand, 1) := by decide +kernel
theorem dX11_isOneAtMost_5 : decode cX11_isOneAtMost 5 = .ok (.ifCond .ne 7, 3) := by decide +kernel
theorem dX11_isOneAtMost_8 : decode cX11_isOneAtMost 8 = .ok (.iconst 1, 1) := by decide +kernel
theorem dX11_isOneAtMost_9 : decode cX11_isOneAtMost 9 = .ok (.goto 4, 3) := by decide +kernel
theorem dX11_isOneAtMost_12 : decode cX11_isOneAtMost 12 = .ok (.iconst 0, 1) := by decide +kernel
theorem dX11_isOneAtMost_13 : decode cX11_isOneAtMost 13 = .ok (.ireturn, 1) := by decide +kernel
theorem dX11_sureBy_0 : decode cX11_sureBy 0 = .ok (.iconst 0, 1) := by decide +kernel
theorem dX11_sureBy_1 : decode cX11_sureBy 1 = .ok (.istore_n 3, 1) := by decide +kernel
theorem dX11_sureBy_2 : decode cX11_sureBy 2 = .ok (.iconst 0, 1) := by decide +kernel
theorem dX11_sureBy_3 : decode cX11_sureBy 3 = .ok (.istore 4, 2) := by decide +kernel
theorem dX11_sureBy_5 : decode cX11_sureBy 5 = .ok (.iload 4, 2) := by decide +kernel
theorem dX11_sureBy_7 : decode cX11_sureBy 7 = .ok (.bipush 16, 2) := by decide +kernel
theorem dX11_sureBy_9 : decode cX11_sureBy 9 = .ok (.if_icmp .ge 61, 3) := by decide +kernel
theorem dX11_sureBy_12 : decode cX11_sureBy 12 = .ok (.aload_n 0, 1) := by decide +kernel
theorem dX11_sureBy_13 : decode cX11_sureBy 13 = .ok (.iload_n 1, 1) := by decide +kernel
theorem dX11_sureBy_14 : decode cX11_sureBy 14 = .ok (.iload_n 2, 1) := by decide +kernel
theorem dX11_sureBy_15 : decode cX11_sureBy 15 = .ok (.iload 4, 2) := by decide +kernel
theorem dX11_sureBy_17 : decode cX11_sureBy 17 = .ok (.invokevirtual 218, 3) := by decide +kernel
theorem dX11_sureBy_20 : decode cX11_sureBy 20 = .ok (.istore 5, 2) := by decide +kernel
theorem dX11_sureBy_22 : decode cX11_sureBy 22 = .ok (.iload 5, 2) := by decide +kernel
theorem dX11_sureBy_24 : decode cX11_sureBy 24 = .ok (.ifCond .ne 7, 3) := by decide +kernel
theorem dX11_sureBy_27 : decode cX11_sureBy 27 = .ok (.iconst 0, 1) := by decide +kernel
theorem dX11_sureBy_28 : decode cX11_sureBy 28 = .ok (.goto 21, 3) := by decide +kernel
theorem dX11_sureBy_31 : decode cX11_sureBy 31 = .ok (.aload_n 0, 1) := by decide +kernel
theorem dX11_sureBy_32 : decode cX11_sureBy 32 = .ok (.getfield 37, 3) := by decide +kernel
theorem dX11_sureBy_35 : decode cX11_sureBy 35 = .ok (.iload 5, 2) := by decide +kernel
theorem dX11_sureBy_37 : decode cX11_sureBy 37 = .ok (.iaload, 1) := by decide +kernel
theorem dX11_sureBy_38 : decode cX11_sureBy 38 = .ok (.iload 4, 2) := by decide +kernel
theorem dX11_sureBy_40 : decode cX11_sureBy 40 = .ok (.ifCond .ne 7, 3) := by decide +kernel
theorem dX11_sureBy_43 : decode cX11_sureBy 43 = .ok (.iconst 1, 1) := by decide +kernel
theorem dX11_sureBy_44 : decode cX11_sureBy 44 = .ok (.goto 4, 3) := by decide +kernel
theorem dX11_sureBy_47 : decode cX11_sureBy 47 = .ok (.iconst 0, 1) := by decide +kernel
theorem dX11_sureBy_48 : decode cX11_sureBy 48 = .ok (.iadd, 1) := by decide +kernel
theorem dX11_sureBy_49 : decode cX11_sureBy 49 = .ok (.istore 6, 2) := by decide +kernel
theorem dX11_sureBy_51 : decode cX11_sureBy 51 = .ok (.iload 6, 2) := by decide +kernel
theorem dX11_sureBy_53 : decode cX11_sureBy 53 = .ok (.iload_n 3, 1) := by decide +kernel
theorem dX11_sureBy_54 : decode cX11_sureBy 54 = .ok (.if_icmp .le 8, 3) := by decide +kernel
theorem dX11_sureBy_57 : decode cX11_sureBy 57 = .ok (.iload 6, 2) := by decide +kernel
theorem dX11_sureBy_59 : decode cX11_sureBy 59 = .ok (.goto 4, 3) := by decide +kernel
theorem dX11_sureBy_62 : decode cX11_sureBy 62 = .ok (.iload_n 3, 1) := by decide +kernel
theorem dX11_sureBy_63 : decode cX11_sureBy 63 = .ok (.istore_n 3, 1) := by decide +kernel
theorem dX11_sureBy_64 : decode cX11_sureBy 64 = .ok (.iinc 4 1, 3) := by decide +kernel
theorem dX11_sureBy_67 : decode cX11_sureBy 67 = .ok (.goto (-62), 3) := by decide +kernel
theorem dX11_sureBy_70 : decode cX11_sureBy 70 = .ok (.iload_n 3, 1) := by decide +kernel
theorem dX11_sureBy_71 : decode cX11_sureBy 71 = .ok (.ireturn, 1) := by decide +kernel
theorem dX11_sureOf_0 : decode cX11_sureOf 0 = .ok (.iload_n 1, 1) := by decide +kernel
theorem dX11_sureOf_1 : decode cX11_sureOf 1 = .ok (.invokestatic 266, 3) := by decide +kernel
theorem dX11_sureOf_4 : decode cX11_sureOf 4 = .ok (.ifCond .eq 7, 3) := by decide +kernel
theorem dX11_sureOf_7 : decode cX11_sureOf 7 = .ok (.iconst 0, 1) := by decide +kernel
theorem dX11_sureOf_8 : decode cX11_sureOf 8 = .ok (.goto 5, 3) := by decide +kernel
theorem dX11_sureOf_11 : decode cX11_sureOf 11 = .ok (.ldc 230, 2) := by decide +kernel
theorem dX11_sureOf_13 : decode cX11_sureOf 13 = .ok (.istore_n 2, 1) := by decide +kernel
theorem dX11_sureOf_14 : decode cX11_sureOf 14 = .ok (.iconst 0, 1) := by decide +kernel
theorem dX11_sureOf_15 : decode cX11_sureOf 15 = .ok (.istore_n 3, 1) := by decide +kernel
theorem dX11_sureOf_16 : decode cX11_sureOf 16 = .ok (.iload_n 3, 1) := by decide +kernel
theorem dX11_sureOf_17 : decode cX11_sureOf 17 = .ok (.bipush 10, 2) := by decide +kernel
theorem dX11_sureOf_19 : decode cX11_sureOf 19 = .ok (.if_icmp .ge 53, 3) := by decide +kernel
theorem dX11_sureOf_22 : decode cX11_sureOf 22 = .ok (.iload_n 1, 1) := by decide +kernel
theorem dX11_sureOf_23 : decode cX11_sureOf 23 = .ok (.invokestatic 266, 3) := by decide +kernel
theorem dX11_sureOf_26 : decode cX11_sureOf 26 = .ok (.ifCond .ne 46, 3) := by decide +kernel
theorem dX11_sureOf_29 : decode cX11_sureOf 29 = .ok (.aload_n 0, 1) := by decide +kernel
theorem dX11_sureOf_30 : decode cX11_sureOf 30 = .ok (.iload_n 1, 1) := by decide +kernel
theorem dX11_sureOf_31 : decode cX11_sureOf 31 = .ok (.iload_n 3, 1) := by decide +kernel
theorem dX11_sureOf_32 : decode cX11_sureOf 32 = .ok (.iconst 0, 1) := by decide +kernel
theorem dX11_sureOf_33 : decode cX11_sureOf 33 = .ok (.invokevirtual 262, 3) := by decide +kernel
theorem dX11_sureOf_36 : decode cX11_sureOf 36 = .ok (.iconst 1, 1) := by decide +kernel
theorem dX11_sureOf_37 : decode cX11_sureOf 37 = .ok (.if_icmp .le 12, 3) := by decide +kernel
theorem dX11_sureOf_40 : decode cX11_sureOf 40 = .ok (.aload_n 0, 1) := by decide +kernel
theorem dX11_sureOf_41 : decode cX11_sureOf 41 = .ok (.iload_n 1, 1) := by decide +kernel
theorem dX11_sureOf_42 : decode cX11_sureOf 42 = .ok (.iload_n 3, 1) := by decide +kernel
theorem dX11_sureOf_43 : decode cX11_sureOf 43 = .ok (.invokevirtual 269, 3) := by decide +kernel
theorem dX11_sureOf_46 : decode cX11_sureOf 46 = .ok (.goto 5, 3) := by decide +kernel
theorem dX11_sureOf_49 : decode cX11_sureOf 49 = .ok (.ldc 230, 2) := by decide +kernel
theorem dX11_sureOf_51 : decode cX11_sureOf 51 = .ok (.istore 4, 2) := by decide +kernel
theorem dX11_sureOf_53 : decode cX11_sureOf 53 = .ok (.iload 4, 2) := by decide +kernel
theorem dX11_sureOf_55 : decode cX11_sureOf 55 = .ok (.iload_n 2, 1) := by decide +kernel
theorem dX11_sureOf_56 : decode cX11_sureOf 56 = .ok (.if_icmp .ge 8, 3) := by decide +kernel
theorem dX11_sureOf_59 : decode cX11_sureOf 59 = .ok (.iload 4, 2) := by decide +kernel
theorem dX11_sureOf_61 : decode cX11_sureOf 61 = .ok (.goto 4, 3) := by decide +kernel
theorem dX11_sureOf_64 : decode cX11_sureOf 64 = .ok (.iload_n 2, 1) := by decide +kernel
theorem dX11_sureOf_65 : decode cX11_sureOf 65 = .ok (.istore_n 2, 1) := by decide +kernel
theorem dX11_sureOf_66 : decode cX11_sureOf 66 = .ok (.iinc 3 1, 3) := by decide +kernel
theorem dX11_sureOf_69 : decode cX11_sureOf 69 = .ok (.goto (-53), 3) := by decide +kernel
theorem dX11_sureOf_72 : decode cX11_sureOf 72 = .ok (.iload_n 2, 1) := by decide +kernel
theorem dX11_sureOf_73 : decode cX11_sureOf 73 = .ok (.ireturn, 1) := by decide +kernel
theorem dX11_setSure_0 : decode cX11_setSure 0 = .ok (.iconst 0, 1) := by decide +kernel
theorem dX11_setSure_1 : decode cX11_setSure 1 = .ok (.istore_n 1, 1) := by decide +kernel
theorem dX11_setSure_2 : decode cX11_setSure 2 = .ok (.iload_n 1, 1) := by decide +kernel
theorem dX11_setSure_3 : decode cX11_setSure 3 = .ok (.iconst 1, 1) := by decide +kernel
theorem dX11_setSure_4 : decode cX11_setSure 4 = .ok (.aload_n 0, 1) := by decide +kernel
theorem dX11_setSure_5 : decode cX11_setSure 5 = .ok (.getfield 60, 3) := by decide +kernel
theorem dX11_setSure_8 : decode cX11_setSure 8 = .ok (.ishl, 1) := by decide +kernel
theorem dX11_setSure_9 : decode cX11_setSure 9 = .ok (.if_icmp .ge 31, 3) := by decide +kernel
theorem dX11_setSure_12 : decode cX11_setSure 12 = .ok (.iload_n 1, 1) := by decide +kernel
theorem dX11_setSure_13 : decode cX11_setSure 13 = .ok (.aload_n 0, 1) := by decide +kernel
theorem dX11_setSure_14 : decode cX11_setSure 14 = .ok (.getfield 85, 3) := by decide +kernel
theorem dX11_setSure_17 : decode cX11_setSure 17 = .ok (.iconst (-1), 1) := by decide +kernel
theorem dX11_setSure_18 : decode cX11_setSure 18 = .ok (.ixor, 1) := by decide +kernel
theorem dX11_setSure_19 : decode cX11_setSure 19 = .ok (.iand, 1) := by decide +kernel
theorem dX11_setSure_20 : decode cX11_setSure 20 = .ok (.ifCond .ne 14, 3) := by decide +kernel
theorem dX11_setSure_23 : decode cX11_setSure 23 = .ok (.aload_n 0, 1) := by decide +kernel
theorem dX11_setSure_24 : decode cX11_setSure 24 = .ok (.getfield 37, 3) := by decide +kernel
theorem dX11_setSure_27 : decode cX11_setSure 27 = .ok (.iload_n 1, 1) := by decide +kernel
theorem dX11_setSure_28 : decode cX11_setSure 28 = .ok (.aload_n 0, 1) := by decide +kernel
theorem dX11_setSure_29 : decode cX11_setSure 29 = .ok (.iload_n 1, 1) := by decide +kernel
theorem dX11_setSure_30 : decode cX11_setSure 30 = .ok (.invokevirtual 272, 3) := by decide +kernel
theorem dX11_setSure_33 : decode cX11_setSure 33 = .ok (.iastore, 1) := by decide +kernel
theorem dX11_setSure_34 : decode cX11_setSure 34 = .ok (.iinc 1 1, 3) := by decide +kernel
theorem dX11_setSure_37 : decode cX11_setSure 37 = .ok (.goto (-35), 3) := by decide +kernel
theorem dX11_setSure_40 : decode cX11_setSure 40 = .ok (.return_, 1) := by decide +kernel
theorem dX11_surely_0 : decode cX11_surely 0 = .ok (.iload_n 1, 1) := by decide +kernel
theorem dX11_surely_1 : decode cX11_surely 1 = .ok (.iconst 0, 1) := by decide +kernel
theorem dX11_surely_2 : decode cX11_surely 2 = .ok (.iconst 1, 1) := by decide +kernel
theorem dX11_surely_3 : decode cX11_surely 3 = .ok (.invokestatic 91, 3) := by decide +kernel
theorem dX11_surely_6 : decode cX11_surely 6 = .ok (.ifCond .ne 8, 3) := by decide +kernel
theorem dX11_surely_9 : decode cX11_surely 9 = .ok (.aload_n 0, 1) := by decide +kernel
theorem dX11_surely_10 : decode cX11_surely 10 = .ok (.invokevirtual 106, 3) := by decide +kernel
theorem dX11_surely_13 : decode cX11_surely 13 = .ok (.ireturn, 1) := by decide +kernel
theorem dX11_surely_14 : decode cX11_surely 14 = .ok (.aload_n 0, 1) := by decide +kernel
theorem dX11_surely_15 : decode cX11_surely 15 = .ok (.getfield 85, 3) := by decide +kernel
theorem dX11_surely_18 : decode cX11_surely 18 = .ok (.invokestatic 266, 3) := by decide +kernel
theorem dX11_surely_21 : decode cX11_surely 21 = .ok (.ifCond .eq 13, 3) := by decide +kernel
theorem dX11_surely_24 : decode cX11_surely 24 = .ok (.iload_n 1, 1) := by decide +kernel
theorem dX11_surely_25 : decode cX11_surely 25 = .ok (.ifCond .ne 7, 3) := by decide +kernel
theorem dX11_surely_28 : decode cX11_surely 28 = .ok (.iconst 0, 1) := by decide +kernel
theorem dX11_surely_29 : decode cX11_surely 29 = .ok (.goto 4, 3) := by decide +kernel
theorem dX11_surely_32 : decode cX11_surely 32 = .ok (.iconst (-1), 1) := by decide +kernel
theorem dX11_surely_33 : decode cX11_surely 33 = .ok (.ireturn, 1) := by decide +kernel
theorem dX11_surely_34 : decode cX11_surely 34 = .ok (.aload_n 0, 1) := by decide +kernel
theorem dX11_surely_35 : decode cX11_surely 35 = .ok (.invokevirtual 275, 3) := by decide +kernel
theorem dX11_surely_38 : decode cX11_surely 38 = .ok (.iload_n 1, 1) := by decide +kernel
theorem dX11_surely_39 : decode cX11_surely 39 = .ok (.ifCond .ne 13, 3) := by decide +kernel
theorem dX11_surely_42 : decode cX11_surely 42 = .ok (.aload_n 0, 1) := by decide +kernel
theorem dX11_surely_43 : decode cX11_surely 43 = .ok (.getfield 37, 3) := by decide +kernel
theorem dX11_surely_46 : decode cX11_surely 46 = .ok (.aload_n 0, 1) := by decide +kernel
theorem dX11_surely_47 : decode cX11_surely 47 = .ok (.getfield 85, 3) := by decide +kernel
theorem dX11_surely_50 : decode cX11_surely 50 = .ok (.iaload, 1) := by decide +kernel
theorem dX11_surely_51 : decode cX11_surely 51 = .ok (.ireturn, 1) := by decide +kernel
theorem dX11_surely_52 : decode cX11_surely 52 = .ok (.iconst (-1), 1) := by decide +kernel
theorem dX11_surely_53 : decode cX11_surely 53 = .ok (.istore_n 2, 1) := by decide +kernel
theorem dX11_surely_54 : decode cX11_surely 54 = .ok (.bipush 9, 2) := by decide +kernel
theorem dX11_surely_56 : decode cX11_surely 56 = .ok (.istore_n 3, 1) := by decide +kernel
theorem dX11_surely_57 : decode cX11_surely 57 = .ok (.iload_n 3, 1) := by decide +kernel
theorem dX11_surely_58 : decode cX11_surely 58 = .ok (.ifCond .lt 62, 3) := by decide +kernel
theorem dX11_surely_61 : decode cX11_surely 61 = .ok (.aload_n 0, 1) := by decide +kernel
theorem dX11_surely_62 : decode cX11_surely 62 = .ok (.aload_n 0, 1) := by decide +kernel
theorem dX11_surely_63 : decode cX11_surely 63 = .ok (.getfield 85, 3) := by decide +kernel
theorem dX11_surely_66 : decode cX11_surely 66 = .ok (.iload_n 3, 1) := by decide +kernel
theorem dX11_surely_67 : decode cX11_surely 67 = .ok (.iconst 0, 1) := by decide +kernel
theorem dX11_surely_68 : decode cX11_surely 68 = .ok (.invokevirtual 262, 3) := by decide +kernel
theorem dX11_surely_71 : decode cX11_surely 71 = .ok (.iconst 1, 1) := by decide +kernel
theorem dX11_surely_72 : decode cX11_surely 72 = .ok (.if_icmp .le 7, 3) := by decide +kernel
theorem dX11_surely_75 : decode cX11_surely 75 = .ok (.iconst 1, 1) := by decide +kernel
theorem dX11_surely_76 : decode cX11_surely 76 = .ok (.goto 4, 3) := by decide +kernel
theorem dX11_surely_79 : decode cX11_surely 79 = .ok (.iconst 0, 1) := by decide +kernel
theorem dX11_surely_80 : decode cX11_surely 80 = .ok (.istore 4, 2) := by decide +kernel
theorem dX11_surely_82 : decode cX11_surely 82 = .ok (.iload 4, 2) := by decide +kernel
theorem dX11_surely_84 : decode cX11_surely 84 = .ok (.ifCond .eq 28, 3) := by decide +kernel
theorem dX11_surely_87 : decode cX11_surely 87 = .ok (.aload_n 0, 1) := by decide +kernel
theorem dX11_surely_88 : decode cX11_surely 88 = .ok (.aload_n 0, 1) := by decide +kernel
theorem dX11_surely_89 : decode cX11_surely 89 = .ok (.getfield 85, 3) := by decide +kernel
theorem dX11_surely_92 : decode cX11_surely 92 = .ok (.iload_n 3, 1) := by decide +kernel
theorem dX11_surely_93 : decode cX11_surely 93 = .ok (.invokevirtual 269, 3) := by decide +kernel
theorem dX11_surely_96 : decode cX11_surely 96 = .ok (.aload_n 0, 1) := by decide +kernel
theorem dX11_surely_97 : decode cX11_surely 97 = .ok (.getfield 37, 3) := by decide +kernel
theorem dX11_surely_100 : decode cX11_surely 100 = .ok (.aload_n 0, 1) := by decide +kernel
theorem dX11_surely_101 : decode cX11_surely 101 = .ok (.getfield 85, 3) := by decide +kernel
theorem dX11_surely_104 : decode cX11_surely 104 = .ok (.iaload, 1) := by decide +kernel
theorem dX11_surely_105 : decode cX11_surely 105 = .ok (.if_icmp .ne 7, 3) := by decide +kernel
theorem dX11_surely_108 : decode cX11_surely 108 = .ok (.iload_n 3, 1) := by decide +kernel
theorem dX11_surely_109 : decode cX11_surely 109 = .ok (.goto 4, 3) := by decide +kernel
theorem dX11_surely_112 : decode cX11_surely 112 = .ok (.iload_n 2, 1) := by decide +kernel
theorem dX11_surely_113 : decode cX11_surely 113 = .ok (.istore_n 2, 1) := by decide +kernel
theorem dX11_surely_114 : decode cX11_surely 114 = .ok (.iinc 3 (-1), 3) := by decide +kernel
theorem dX11_surely_117 : decode cX11_surely 117 = .ok (.goto (-60), 3) := by decide +kernel
theorem dX11_surely_120 : decode cX11_surely 120 = .ok (.iload_n 2, 1) := by decide +kernel
theorem dX11_surely_121 : decode cX11_surely 121 = .ok (.ireturn, 1) := by decide +kernel
theorem dX11_next_0 : decode cX11_next 0 = .ok (.iload_n 1, 1) := by decide +kernel
theorem dX11_next_1 : decode cX11_next 1 = .ok (.invokestatic 102, 3) := by decide +kernel
theorem dX11_next_4 : decode cX11_next 4 = .ok (.ifCond .eq 19, 3) := by decide +kernel
theorem dX11_next_7 : decode cX11_next 7 = .ok (.aload_n 0, 1) := by decide +kernel
theorem dX11_next_8 : decode cX11_next 8 = .ok (.iload_n 1, 1) := by decide +kernel
theorem dX11_next_9 : decode cX11_next 9 = .ok (.aload_n 0, 1) := by decide +kernel
theorem dX11_next_10 : decode cX11_next 10 = .ok (.getfield 85, 3) := by decide +kernel
theorem dX11_next_13 : decode cX11_next 13 = .ok (.aload_n 0, 1) := by decide +kernel
theorem dX11_next_14 : decode cX11_next 14 = .ok (.getfield 82, 3) := by decide +kernel
theorem dX11_next_17 : decode cX11_next 17 = .ok (.invokevirtual 278, 3) := by decide +kernel
theorem dX11_next_20 : decode cX11_next 20 = .ok (.goto 7, 3) := by decide +kernel
theorem dX11_next_23 : decode cX11_next 23 = .ok (.aload_n 0, 1) := by decide +kernel
theorem dX11_next_24 : decode cX11_next 24 = .ok (.invokevirtual 106, 3) := by decide +kernel
theorem dX11_next_27 : decode cX11_next 27 = .ok (.ireturn, 1) := by decide +kernel
theorem dX11_plays_0 : decode cX11_plays 0 = .ok (.aload_n 0, 1) := by decide +kernel
theorem dX11_plays_1 : decode cX11_plays 1 = .ok (.getfield 88, 3) := by decide +kernel
theorem dX11_plays_4 : decode cX11_plays 4 = .ok (.istore_n 3, 1) := by decide +kernel
theorem dX11_plays_5 : decode cX11_plays 5 = .ok (.aload_n 0, 1) := by decide +kernel
theorem dX11_plays_6 : decode cX11_plays 6 = .ok (.iconst 0, 1) := by decide +kernel
theorem dX11_plays_7 : decode cX11_plays 7 = .ok (.putfield 281, 3) := by decide +kernel
theorem dX11_plays_10 : decode cX11_plays 10 = .ok (.aload_n 0, 1) := by decide +kernel
theorem dX11_plays_11 : decode cX11_plays 11 = .ok (.getfield 85, 3) := by decide +kernel
theorem dX11_plays_14 : decode cX11_plays 14 = .ok (.invokestatic 266, 3) := by decide +kernel
theorem dX11_plays_17 : decode cX11_plays 17 = .ok (.ifCond .ne 35, 3) := by decide +kernel
theorem dX11_plays_20 : decode cX11_plays 20 = .ok (.aload_n 0, 1) := by decide +kernel
theorem dX11_plays_21 : decode cX11_plays 21 = .ok (.iload_n 2, 1) := by decide +kernel
theorem dX11_plays_22 : decode cX11_plays 22 = .ok (.aload_n 0, 1) := by decide +kernel
theorem dX11_plays_23 : decode cX11_plays 23 = .ok (.iload_n 1, 1) := by decide +kernel
theorem dX11_plays_24 : decode cX11_plays 24 = .ok (.aload_n 0, 1) := by decide +kernel
theorem dX11_plays_25 : decode cX11_plays 25 = .ok (.getfield 85, 3) := by decide +kernel
theorem dX11_plays_28 : decode cX11_plays 28 = .ok (.aload_n 0, 1) := by decide +kernel
theorem dX11_plays_29 : decode cX11_plays 29 = .ok (.getfield 82, 3) := by decide +kernel
theorem dX11_plays_32 : decode cX11_plays 32 = .ok (.invokevirtual 278, 3) := by decide +kernel
theorem dX11_plays_35 : decode cX11_plays 35 = .ok (.invokevirtual 221, 3) := by decide +kernel
theorem dX11_plays_38 : decode cX11_plays 38 = .ok (.pop, 1) := by decide +kernel
theorem dX11_plays_39 : decode cX11_plays 39 = .ok (.aload_n 0, 1) := by decide +kernel
theorem dX11_plays_40 : decode cX11_plays 40 = .ok (.dup, 1) := by decide +kernel
theorem dX11_plays_41 : decode cX11_plays 41 = .ok (.getfield 281, 3) := by decide +kernel
theorem dX11_plays_44 : decode cX11_plays 44 = .ok (.iconst 1, 1) := by decide +kernel
theorem dX11_plays_45 : decode cX11_plays 45 = .ok (.iadd, 1) := by decide +kernel
theorem dX11_plays_46 : decode cX11_plays 46 = .ok (.putfield 281, 3) := by decide +kernel
theorem dX11_plays_49 : decode cX11_plays 49 = .ok (.goto (-39), 3) := by decide +kernel
theorem dX11_plays_52 : decode cX11_plays 52 = .ok (.aload_n 0, 1) := by decide +kernel
theorem dX11_plays_53 : decode cX11_plays 53 = .ok (.getfield 88, 3) := by decide +kernel
theorem dX11_plays_56 : decode cX11_plays 56 = .ok (.iload_n 3, 1) := by decide +kernel
theorem dX11_plays_57 : decode cX11_plays 57 = .ok (.isub, 1) := by decide +kernel
theorem dX11_plays_58 : decode cX11_plays 58 = .ok (.ireturn, 1) := by decide +kernel
theorem dX11_playsAside_0 : decode cX11_playsAside 0 = .ok (.aload_n 0, 1) := by decide +kernel
theorem dX11_playsAside_1 : decode cX11_playsAside 1 = .ok (.aload_n 0, 1) := by decide +kernel
theorem dX11_playsAside_2 : decode cX11_playsAside 2 = .ok (.getfield 34, 3) := by decide +kernel
theorem dX11_playsAside_5 : decode cX11_playsAside 5 = .ok (.iconst 0, 1) := by decide +kernel
theorem dX11_playsAside_6 : decode cX11_playsAside 6 = .ok (.invokevirtual 244, 3) := by decide +kernel
theorem dX11_playsAside_9 : decode cX11_playsAside 9 = .ok (.aload_n 0, 1) := by decide +kernel
theorem dX11_playsAside_10 : decode cX11_playsAside 10 = .ok (.iload_n 1, 1) := by decide +kernel
theorem dX11_playsAside_11 : decode cX11_playsAside 11 = .ok (.iload_n 2, 1) := by decide +kernel
theorem dX11_playsAside_12 : decode cX11_playsAside 12 = .ok (.invokevirtual 284, 3) := by decide +kernel
theorem dX11_playsAside_15 : decode cX11_playsAside 15 = .ok (.istore_n 3, 1) := by decide +kernel
theorem dX11_playsAside_16 : decode cX11_playsAside 16 = .ok (.aload_n 0, 1) := by decide +kernel
theorem dX11_playsAside_17 : decode cX11_playsAside 17 = .ok (.aload_n 0, 1) := by decide +kernel
theorem dX11_playsAside_18 : decode cX11_playsAside 18 = .ok (.getfield 34, 3) := by decide +kernel
theorem dX11_playsAside_21 : decode cX11_playsAside 21 = .ok (.iconst 0, 1) := by decide +kernel
theorem dX11_playsAside_22 : decode cX11_playsAside 22 = .ok (.invokevirtual 259, 3) := by decide +kernel
theorem dX11_playsAside_25 : decode cX11_playsAside 25 = .ok (.iload_n 3, 1) := by decide +kernel
theorem dX11_playsAside_26 : decode cX11_playsAside 26 = .ok (.ireturn, 1) := by decide +kernel
theorem dX11_ends__0 : decode cX11_ends_ 0 = .ok (.iload_n 1, 1) := by decide +kernel
theorem dX11_ends__1 : decode cX11_ends_ 1 = .ok (.invokestatic 102, 3) := by decide +kernel
theorem dX11_ends__4 : decode cX11_ends_ 4 = .ok (.ifCond .eq 12, 3) := by decide +kernel
theorem dX11_ends__7 : decode cX11_ends_ 7 = .ok (.iload_n 2, 1) := by decide +kernel
theorem dX11_ends__8 : decode cX11_ends_ 8 = .ok (.iconst 0, 1) := by decide +kernel
theorem dX11_ends__9 : decode cX11_ends_ 9 = .ok (.iconst 1, 1) := by decide +kernel
theorem dX11_ends__10 : decode cX11_ends_ 10 = .ok (.invokestatic 91, 3) := by decide +kernel
theorem dX11_ends__13 : decode cX11_ends_ 13 = .ok (.ifCond .ne 8, 3) := by decide +kernel
theorem dX11_ends__16 : decode cX11_ends_ 16 = .ok (.aload_n 0, 1) := by decide +kernel
theorem dX11_ends__17 : decode cX11_ends_ 17 = .ok (.invokevirtual 106, 3) := by decide +kernel
theorem dX11_ends__20 : decode cX11_ends_ 20 = .ok (.ireturn, 1) := by decide +kernel
theorem dX11_ends__21 : decode cX11_ends_ 21 = .ok (.aload_n 0, 1) := by decide +kernel
theorem dX11_ends__22 : decode cX11_ends_ 22 = .ok (.iload_n 1, 1) := by decide +kernel
theorem dX11_ends__23 : decode cX11_ends_ 23 = .ok (.aload_n 0, 1) := by decide +kernel
theorem dX11_ends__24 : decode cX11_ends_ 24 = .ok (.getfield 64, 3) := by decide +kernel
theorem dX11_ends__27 : decode cX11_ends_ 27 = .ok (.invokevirtual 287, 3) := by decide +kernel
theorem dX11_ends__30 : decode cX11_ends_ 30 = .ok (.istore_n 3, 1) := by decide +kernel
theorem dX11_ends__31 : decode cX11_ends_ 31 = .ok (.iload_n 2, 1) := by decide +kernel
theorem dX11_ends__32 : decode cX11_ends_ 32 = .ok (.ifCond .ne 7, 3) := by decide +kernel
theorem dX11_ends__35 : decode cX11_ends_ 35 = .ok (.iload_n 3, 1) := by decide +kernel
theorem dX11_ends__36 : decode cX11_ends_ 36 = .ok (.goto 7, 3) := by decide +kernel
theorem dX11_ends__39 : decode cX11_ends_ 39 = .ok (.aload_n 0, 1) := by decide +kernel
theorem dX11_ends__40 : decode cX11_ends_ 40 = .ok (.getfield 281, 3) := by decide +kernel
theorem dX11_ends__43 : decode cX11_ends_ 43 = .ok (.ireturn, 1) := by decide +kernel
theorem dX11_tells_0 : decode cX11_tells 0 = .ok (.lload_n 1, 1) := by decide +kernel
theorem dX11_tells_1 : decode cX11_tells 1 = .ok (.lstore 5, 2) := by decide +kernel
theorem dX11_tells_3 : decode cX11_tells 3 = .ok (.lload_n 3, 1) := by decide +kernel
theorem dX11_tells_4 : decode cX11_tells 4 = .ok (.lstore 7, 2) := by decide +kernel
theorem dX11_tells_6 : decode cX11_tells 6 = .ok (.lload 7, 2) := by decide +kernel
theorem dX11_tells_8 : decode cX11_tells 8 = .ok (.lconst 0, 1) := by decide +kernel
theorem dX11_tells_9 : decode cX11_tells 9 = .ok (.lcmp, 1) := by decide +kernel
theorem dX11_tells_10 : decode cX11_tells 10 = .ok (.ifCond .eq 21, 3) := by decide +kernel
theorem dX11_tells_13 : decode cX11_tells 13 = .ok (.lload 5, 2) := by decide +kernel
theorem dX11_tells_15 : decode cX11_tells 15 = .ok (.lload 7, 2) := by decide +kernel
theorem dX11_tells_17 : decode cX11_tells 17 = .ok (.lrem, 1) := by decide +kernel
theorem dX11_tells_18 : decode cX11_tells 18 = .ok (.lstore 9, 2) := by decide +kernel
theorem dX11_tells_20 : decode cX11_tells 20 = .ok (.lload 7, 2) := by decide +kernel
theorem dX11_tells_22 : decode cX11_tells 22 = .ok (.lstore 5, 2) := by decide +kernel
theorem dX11_tells_24 : decode cX11_tells 24 = .ok (.lload 9, 2) := by decide +kernel
theorem dX11_tells_26 : decode cX11_tells 26 = .ok (.lstore 7, 2) := by decide +kernel
theorem dX11_tells_28 : decode cX11_tells 28 = .ok (.goto (-22), 3) := by decide +kernel
theorem dX11_tells_31 : decode cX11_tells 31 = .ok (.aload_n 0, 1) := by decide +kernel
theorem dX11_tells_32 : decode cX11_tells 32 = .ok (.lload_n 1, 1) := by decide +kernel
theorem dX11_tells_33 : decode cX11_tells 33 = .ok (.lload 5, 2) := by decide +kernel
theorem dX11_tells_35 : decode cX11_tells 35 = .ok (.ldiv, 1) := by decide +kernel
theorem dX11_tells_36 : decode cX11_tells 36 = .ok (.putfield 290, 3) := by decide +kernel
theorem dX11_tells_39 : decode cX11_tells 39 = .ok (.aload_n 0, 1) := by decide +kernel
theorem dX11_tells_40 : decode cX11_tells 40 = .ok (.lload_n 3, 1) := by decide +kernel
theorem dX11_tells_41 : decode cX11_tells 41 = .ok (.lload 5, 2) := by decide +kernel
theorem dX11_tells_43 : decode cX11_tells 43 = .ok (.ldiv, 1) := by decide +kernel
theorem dX11_tells_44 : decode cX11_tells 44 = .ok (.putfield 40, 3) := by decide +kernel
theorem dX11_tells_47 : decode cX11_tells 47 = .ok (.iconst 1, 1) := by decide +kernel
theorem dX11_tells_48 : decode cX11_tells 48 = .ok (.ireturn, 1) := by decide +kernel
theorem dX11_mean_0 : decode cX11_mean 0 = .ok (.iload_n 1, 1) := by decide +kernel
theorem dX11_mean_1 : decode cX11_mean 1 = .ok (.invokestatic 102, 3) := by decide +kernel
theorem dX11_mean_4 : decode cX11_mean 4 = .ok (.ifCond .ne 8, 3) := by decide +kernel
theorem dX11_mean_7 : decode cX11_mean 7 = .ok (.aload_n 0, 1) := by decide +kernel
theorem dX11_mean_8 : decode cX11_mean 8 = .ok (.invokevirtual 106, 3) := by decide +kernel
theorem dX11_mean_11 : decode cX11_mean 11 = .ok (.ireturn, 1) := by decide +kernel
theorem dX11_mean_12 : decode cX11_mean 12 = .ok (.aload_n 0, 1) := by decide +kernel
theorem dX11_mean_13 : decode cX11_mean 13 = .ok (.getfield 67, 3) := by decide +kernel
theorem dX11_mean_16 : decode cX11_mean 16 = .ok (.istore_n 2, 1) := by decide +kernel
theorem dX11_mean_17 : decode cX11_mean 17 = .ok (.iconst 0, 1) := by decide +kernel
theorem dX11_mean_18 : decode cX11_mean 18 = .ok (.istore_n 3, 1) := by decide +kernel
theorem dX11_mean_19 : decode cX11_mean 19 = .ok (.iconst 0, 1) := by decide +kernel
theorem dX11_mean_20 : decode cX11_mean 20 = .ok (.istore 4, 2) := by decide +kernel
theorem dX11_mean_22 : decode cX11_mean 22 = .ok (.iconst 0, 1) := by decide +kernel
theorem dX11_mean_23 : decode cX11_mean 23 = .ok (.istore 5, 2) := by decide +kernel
theorem dX11_mean_25 : decode cX11_mean 25 = .ok (.iload 5, 2) := by decide +kernel
theorem dX11_mean_27 : decode cX11_mean 27 = .ok (.aload_n 0, 1) := by decide +kernel
theorem dX11_mean_28 : decode cX11_mean 28 = .ok (.getfield 60, 3) := by decide +kernel
theorem dX11_mean_31 : decode cX11_mean 31 = .ok (.if_icmp .ge 41, 3) := by decide +kernel
theorem dX11_mean_34 : decode cX11_mean 34 = .ok (.aload_n 0, 1) := by decide +kernel
theorem dX11_mean_35 : decode cX11_mean 35 = .ok (.getfield 85, 3) := by decide +kernel
theorem dX11_mean_38 : decode cX11_mean 38 = .ok (.iload 5, 2) := by decide +kernel
theorem dX11_mean_40 : decode cX11_mean 40 = .ok (.invokestatic 158, 3) := by decide +kernel
theorem dX11_mean_43 : decode cX11_mean 43 = .ok (.ifCond .eq 23, 3) := by decide +kernel
theorem dX11_mean_46 : decode cX11_mean 46 = .ok (.aload_n 0, 1) := by decide +kernel
theorem dX11_mean_47 : decode cX11_mean 47 = .ok (.iload 5, 2) := by decide +kernel
theorem dX11_mean_49 : decode cX11_mean 49 = .ok (.putfield 67, 3) := by decide +kernel
theorem dX11_mean_52 : decode cX11_mean 52 = .ok (.iload 4, 2) := by decide +kernel
theorem dX11_mean_54 : decode cX11_mean 54 = .ok (.aload_n 0, 1) := by decide +kernel
theorem dX11_mean_55 : decode cX11_mean 55 = .ok (.iload_n 1, 1) := by decide +kernel
theorem dX11_mean_56 : decode cX11_mean 56 = .ok (.iconst 0, 1) := by decide +kernel
theorem dX11_mean_57 : decode cX11_mean 57 = .ok (.invokevirtual 287, 3) := by decide +kernel
theorem dX11_mean_60 : decode cX11_mean 60 = .ok (.iadd, 1) := by decide +kernel
theorem dX11_mean_61 : decode cX11_mean 61 = .ok (.istore 4, 2) := by decide +kernel
theorem dX11_mean_63 : decode cX11_mean 63 = .ok (.iinc 3 1, 3) := by decide +kernel
theorem dX11_mean_66 : decode cX11_mean 66 = .ok (.iinc 5 1, 3) := by decide +kernel
theorem dX11_mean_69 : decode cX11_mean 69 = .ok (.goto (-44), 3) := by decide +kernel
theorem dX11_mean_72 : decode cX11_mean 72 = .ok (.aload_n 0, 1) := by decide +kernel
theorem dX11_mean_73 : decode cX11_mean 73 = .ok (.iload_n 2, 1) := by decide +kernel
theorem dX11_mean_74 : decode cX11_mean 74 = .ok (.putfield 67, 3) := by decide +kernel
theorem dX11_mean_77 : decode cX11_mean 77 = .ok (.iload_n 3, 1) := by decide +kernel
theorem dX11_mean_78 : decode cX11_mean 78 = .ok (.ifCond .ne 12, 3) := by decide +kernel
theorem dX11_mean_81 : decode cX11_mean 81 = .ok (.aload_n 0, 1) := by decide +kernel
theorem dX11_mean_82 : decode cX11_mean 82 = .ok (.lconst 0, 1) := by decide +kernel
theorem dX11_mean_83 : decode cX11_mean 83 = .ok (.lconst 1, 1) := by decide +kernel
theorem dX11_mean_84 : decode cX11_mean 84 = .ok (.invokevirtual 293, 3) := by decide +kernel
theorem dX11_mean_87 : decode cX11_mean 87 = .ok (.goto 12, 3) := by decide +kernel
theorem dX11_mean_90 : decode cX11_mean 90 = .ok (.aload_n 0, 1) := by decide +kernel
theorem dX11_mean_91 : decode cX11_mean 91 = .ok (.iload 4, 2) := by decide +kernel
theorem dX11_mean_93 : decode cX11_mean 93 = .ok (.i2l, 1) := by decide +kernel
theorem dX11_mean_94 : decode cX11_mean 94 = .ok (.iload_n 3, 1) := by decide +kernel
theorem dX11_mean_95 : decode cX11_mean 95 = .ok (.i2l, 1) := by decide +kernel
theorem dX11_mean_96 : decode cX11_mean 96 = .ok (.invokevirtual 293, 3) := by decide +kernel
theorem dX11_mean_99 : decode cX11_mean 99 = .ok (.ireturn, 1) := by decide +kernel
theorem dX11_alikeBy_0 : decode cX11_alikeBy 0 = .ok (.iconst 0, 1) := by decide +kernel
theorem dX11_alikeBy_1 : decode cX11_alikeBy 1 = .ok (.istore 4, 2) := by decide +kernel
theorem dX11_alikeBy_3 : decode cX11_alikeBy 3 = .ok (.iconst 0, 1) := by decide +kernel
theorem dX11_alikeBy_4 : decode cX11_alikeBy 4 = .ok (.istore 5, 2) := by decide +kernel
theorem dX11_alikeBy_6 : decode cX11_alikeBy 6 = .ok (.iload 5, 2) := by decide +kernel
theorem dX11_alikeBy_8 : decode cX11_alikeBy 8 = .ok (.aload_n 0, 1) := by decide +kernel
theorem dX11_alikeBy_9 : decode cX11_alikeBy 9 = .ok (.getfield 60, 3) := by decide +kernel
theorem dX11_alikeBy_12 : decode cX11_alikeBy 12 = .ok (.if_icmp .ge 90, 3) := by decide +kernel
theorem dX11_alikeBy_15 : decode cX11_alikeBy 15 = .ok (.iload_n 1, 1) := by decide +kernel
theorem dX11_alikeBy_16 : decode cX11_alikeBy 16 = .ok (.iload 5, 2) := by decide +kernel
theorem dX11_alikeBy_18 : decode cX11_alikeBy 18 = .ok (.invokestatic 158, 3) := by decide +kernel
theorem dX11_alikeBy_21 : decode cX11_alikeBy 21 = .ok (.istore 6, 2) := by decide +kernel
theorem dX11_alikeBy_23 : decode cX11_alikeBy 23 = .ok (.iconst 0, 1) := by decide +kernel
theorem dX11_alikeBy_24 : decode cX11_alikeBy 24 = .ok (.istore 7, 2) := by decide +kernel
theorem dX11_alikeBy_26 : decode cX11_alikeBy 26 = .ok (.iload 7, 2) := by decide +kernel
theorem dX11_alikeBy_28 : decode cX11_alikeBy 28 = .ok (.bipush 10, 2) := by decide +kernel
theorem dX11_alikeBy_30 : decode cX11_alikeBy 30 = .ok (.if_icmp .ge 48, 3) := by decide +kernel
theorem dX11_alikeBy_33 : decode cX11_alikeBy 33 = .ok (.iload 6, 2) := by decide +kernel
theorem dX11_alikeBy_35 : decode cX11_alikeBy 35 = .ok (.ifCond .eq 34, 3) := by decide +kernel
theorem dX11_alikeBy_38 : decode cX11_alikeBy 38 = .ok (.iload_n 3, 1) := by decide +kernel
theorem dX11_alikeBy_39 : decode cX11_alikeBy 39 = .ok (.iload 7, 2) := by decide +kernel
theorem dX11_alikeBy_41 : decode cX11_alikeBy 41 = .ok (.invokestatic 158, 3) := by decide +kernel
theorem dX11_alikeBy_44 : decode cX11_alikeBy 44 = .ok (.ifCond .eq 21, 3) := by decide +kernel
theorem dX11_alikeBy_47 : decode cX11_alikeBy 47 = .ok (.aload_n 0, 1) := by decide +kernel
theorem dX11_alikeBy_48 : decode cX11_alikeBy 48 = .ok (.iload 5, 2) := by decide +kernel
theorem dX11_alikeBy_50 : decode cX11_alikeBy 50 = .ok (.iload 7, 2) := by decide +kernel
theorem dX11_alikeBy_52 : decode cX11_alikeBy 52 = .ok (.invokevirtual 192, 3) := by decide +kernel
theorem dX11_alikeBy_55 : decode cX11_alikeBy 55 = .ok (.aload_n 0, 1) := by decide +kernel
theorem dX11_alikeBy_56 : decode cX11_alikeBy 56 = .ok (.iload_n 2, 1) := by decide +kernel
theorem dX11_alikeBy_57 : decode cX11_alikeBy 57 = .ok (.iload 7, 2) := by decide +kernel
theorem dX11_alikeBy_59 : decode cX11_alikeBy 59 = .ok (.invokevirtual 192, 3) := by decide +kernel
theorem dX11_alikeBy_62 : decode cX11_alikeBy 62 = .ok (.if_icmp .ne 7, 3) := by decide +kernel
theorem dX11_alikeBy_65 : decode cX11_alikeBy 65 = .ok (.iconst 1, 1) := by decide +kernel
theorem dX11_alikeBy_66 : decode cX11_alikeBy 66 = .ok (.goto 4, 3) := by decide +kernel
theorem dX11_alikeBy_69 : decode cX11_alikeBy 69 = .ok (.iconst 0, 1) := by decide +kernel
theorem dX11_alikeBy_70 : decode cX11_alikeBy 70 = .ok (.istore 6, 2) := by decide +kernel
theorem dX11_alikeBy_72 : decode cX11_alikeBy 72 = .ok (.iinc 7 1, 3) := by decide +kernel
theorem dX11_alikeBy_75 : decode cX11_alikeBy 75 = .ok (.goto (-49), 3) := by decide +kernel
theorem dX11_alikeBy_78 : decode cX11_alikeBy 78 = .ok (.iload 4, 2) := by decide +kernel
theorem dX11_alikeBy_80 : decode cX11_alikeBy 80 = .ok (.iload 6, 2) := by decide +kernel
theorem dX11_alikeBy_82 : decode cX11_alikeBy 82 = .ok (.ifCond .eq 10, 3) := by decide +kernel
theorem dX11_alikeBy_85 : decode cX11_alikeBy 85 = .ok (.iconst 1, 1) := by decide +kernel
theorem dX11_alikeBy_86 : decode cX11_alikeBy 86 = .ok (.iload 5, 2) := by decide +kernel
theorem dX11_alikeBy_88 : decode cX11_alikeBy 88 = .ok (.ishl, 1) := by decide +kernel
theorem dX11_alikeBy_89 : decode cX11_alikeBy 89 = .ok (.goto 4, 3) := by decide +kernel
theorem dX11_alikeBy_92 : decode cX11_alikeBy 92 = .ok (.iconst 0, 1) := by decide +kernel
theorem dX11_alikeBy_93 : decode cX11_alikeBy 93 = .ok (.ior, 1) := by decide +kernel
theorem dX11_alikeBy_94 : decode cX11_alikeBy 94 = .ok (.istore 4, 2) := by decide +kernel
theorem dX11_alikeBy_96 : decode cX11_alikeBy 96 = .ok (.iinc 5 1, 3) := by decide +kernel
theorem dX11_alikeBy_99 : decode cX11_alikeBy 99 = .ok (.goto (-93), 3) := by decide +kernel
theorem dX11_alikeBy_102 : decode cX11_alikeBy 102 = .ok (.iload 4, 2) := by decide +kernel
theorem dX11_alikeBy_104 : decode cX11_alikeBy 104 = .ok (.ireturn, 1) := by decide +kernel
theorem dX11_luck_0 : decode cX11_luck 0 = .ok (.iload_n 1, 1) := by decide +kernel
theorem dX11_luck_1 : decode cX11_luck 1 = .ok (.iconst 0, 1) := by decide +kernel
theorem dX11_luck_2 : decode cX11_luck 2 = .ok (.iconst 3, 1) := by decide +kernel
theorem dX11_luck_3 : decode cX11_luck 3 = .ok (.invokestatic 91, 3) := by decide +kernel
theorem dX11_luck_6 : decode cX11_luck 6 = .ok (.ifCond .ne 8, 3) := by decide +kernel
theorem dX11_luck_9 : decode cX11_luck 9 = .ok (.aload_n 0, 1) := by decide +kernel
theorem dX11_luck_10 : decode cX11_luck 10 = .ok (.invokevirtual 106, 3) := by decide +kernel
theorem dX11_luck_13 : decode cX11_luck 13 = .ok (.ireturn, 1) := by decide +kernel
theorem dX11_luck_14 : decode cX11_luck 14 = .ok (.aload_n 0, 1) := by decide +kernel
theorem dX11_luck_15 : decode cX11_luck 15 = .ok (.getfield 85, 3) := by decide +kernel
theorem dX11_luck_18 : decode cX11_luck 18 = .ok (.invokestatic 266, 3) := by decide +kernel
theorem dX11_luck_21 : decode cX11_luck 21 = .ok (.ifCond .eq 10, 3) := by decide +kernel
theorem dX11_luck_24 : decode cX11_luck 24 = .ok (.aload_n 0, 1) := by decide +kernel
theorem dX11_luck_25 : decode cX11_luck 25 = .ok (.lconst 1, 1) := by decide +kernel
theorem dX11_luck_26 : decode cX11_luck 26 = .ok (.lconst 1, 1) := by decide +kernel
theorem dX11_luck_27 : decode cX11_luck 27 = .ok (.invokevirtual 293, 3) := by decide +kernel
theorem dX11_luck_30 : decode cX11_luck 30 = .ok (.ireturn, 1) := by decide +kernel
theorem dX11_luck_31 : decode cX11_luck 31 = .ok (.bipush 10, 2) := by decide +kernel
theorem dX11_luck_33 : decode cX11_luck 33 = .ok (.aload_n 0, 1) := by decide +kernel
theorem dX11_luck_34 : decode cX11_luck 34 = .ok (.getfield 82, 3) := by decide +kernel
theorem dX11_luck_37 : decode cX11_luck 37 = .ok (.invokestatic 202, 3) := by decide +kernel
theorem dX11_luck_40 : decode cX11_luck 40 = .ok (.isub, 1) := by decide +kernel
theorem dX11_luck_41 : decode cX11_luck 41 = .ok (.istore_n 2, 1) := by decide +kernel
theorem dX11_luck_42 : decode cX11_luck 42 = .ok (.iload_n 1, 1) := by decide +kernel
theorem dX11_luck_43 : decode cX11_luck 43 = .ok (.iload_n 2, 1) := by decide +kernel
theorem dX11_luck_44 : decode cX11_luck 44 = .ok (.if_icmp .ge 7, 3) := by decide +kernel
theorem dX11_luck_47 : decode cX11_luck 47 = .ok (.iload_n 1, 1) := by decide +kernel
theorem dX11_luck_48 : decode cX11_luck 48 = .ok (.goto 4, 3) := by decide +kernel
theorem dX11_luck_51 : decode cX11_luck 51 = .ok (.iload_n 2, 1) := by decide +kernel
theorem dX11_luck_52 : decode cX11_luck 52 = .ok (.istore_n 3, 1) := by decide +kernel
theorem dX11_luck_53 : decode cX11_luck 53 = .ok (.aload_n 0, 1) := by decide +kernel
theorem dX11_luck_54 : decode cX11_luck 54 = .ok (.aload_n 0, 1) := by decide +kernel
theorem dX11_luck_55 : decode cX11_luck 55 = .ok (.getfield 85, 3) := by decide +kernel
theorem dX11_luck_58 : decode cX11_luck 58 = .ok (.invokevirtual 205, 3) := by decide +kernel
theorem dX11_luck_61 : decode cX11_luck 61 = .ok (.istore 4, 2) := by decide +kernel
theorem dX11_luck_63 : decode cX11_luck 63 = .ok (.lconst 0, 1) := by decide +kernel
theorem dX11_luck_64 : decode cX11_luck 64 = .ok (.lstore 5, 2) := by decide +kernel
theorem dX11_luck_66 : decode cX11_luck 66 = .ok (.lconst 0, 1) := by decide +kernel
theorem dX11_luck_67 : decode cX11_luck 67 = .ok (.lstore 7, 2) := by decide +kernel
theorem dX11_luck_69 : decode cX11_luck 69 = .ok (.iconst 0, 1) := by decide +kernel
theorem dX11_luck_70 : decode cX11_luck 70 = .ok (.istore 9, 2) := by decide +kernel
theorem dX11_luck_72 : decode cX11_luck 72 = .ok (.iload 9, 2) := by decide +kernel
theorem dX11_luck_74 : decode cX11_luck 74 = .ok (.sipush 1024, 3) := by decide +kernel
theorem dX11_luck_77 : decode cX11_luck 77 = .ok (.if_icmp .ge 62, 3) := by decide +kernel
theorem dX11_luck_80 : decode cX11_luck 80 = .ok (.iload 9, 2) := by decide +kernel
theorem dX11_luck_82 : decode cX11_luck 82 = .ok (.aload_n 0, 1) := by decide +kernel
theorem dX11_luck_83 : decode cX11_luck 83 = .ok (.getfield 82, 3) := by decide +kernel
theorem dX11_luck_86 : decode cX11_luck 86 = .ok (.iand, 1) := by decide +kernel
theorem dX11_luck_87 : decode cX11_luck 87 = .ok (.ifCond .ne 46, 3) := by decide +kernel
theorem dX11_luck_90 : decode cX11_luck 90 = .ok (.iload 9, 2) := by decide +kernel
theorem dX11_luck_92 : decode cX11_luck 92 = .ok (.invokestatic 202, 3) := by decide +kernel
theorem dX11_luck_95 : decode cX11_luck 95 = .ok (.iload_n 3, 1) := by decide +kernel
theorem dX11_luck_96 : decode cX11_luck 96 = .ok (.if_icmp .ne 37, 3) := by decide +kernel
theorem dX11_luck_99 : decode cX11_luck 99 = .ok (.lload 7, 2) := by decide +kernel
theorem dX11_luck_101 : decode cX11_luck 101 = .ok (.lconst 1, 1) := by decide +kernel
theorem dX11_luck_102 : decode cX11_luck 102 = .ok (.ladd, 1) := by decide +kernel
theorem dX11_luck_103 : decode cX11_luck 103 = .ok (.lstore 7, 2) := by decide +kernel
theorem dX11_luck_105 : decode cX11_luck 105 = .ok (.lload 5, 2) := by decide +kernel
theorem dX11_luck_107 : decode cX11_luck 107 = .ok (.aload_n 0, 1) := by decide +kernel
theorem dX11_luck_108 : decode cX11_luck 108 = .ok (.aload_n 0, 1) := by decide +kernel
theorem dX11_luck_109 : decode cX11_luck 109 = .ok (.getfield 85, 3) := by decide +kernel
theorem dX11_luck_112 : decode cX11_luck 112 = .ok (.iload 4, 2) := by decide +kernel
theorem dX11_luck_114 : decode cX11_luck 114 = .ok (.iload 9, 2) := by decide +kernel
theorem dX11_luck_116 : decode cX11_luck 116 = .ok (.invokevirtual 297, 3) := by decide +kernel
theorem dX11_luck_119 : decode cX11_luck 119 = .ok (.invokestatic 266, 3) := by decide +kernel
theorem dX11_luck_122 : decode cX11_luck 122 = .ok (.ifCond .eq 7, 3) := by decide +kernel
theorem dX11_luck_125 : decode cX11_luck 125 = .ok (.lconst 1, 1) := by decide +kernel
theorem dX11_luck_126 : decode cX11_luck 126 = .ok (.goto 4, 3) := by decide +kernel
theorem dX11_luck_129 : decode cX11_luck 129 = .ok (.lconst 0, 1) := by decide +kernel
theorem dX11_luck_130 : decode cX11_luck 130 = .ok (.ladd, 1) := by decide +kernel
theorem dX11_luck_131 : decode cX11_luck 131 = .ok (.lstore 5, 2) := by decide +kernel
theorem dX11_luck_133 : decode cX11_luck 133 = .ok (.iinc 9 1, 3) := by decide +kernel
theorem dX11_luck_136 : decode cX11_luck 136 = .ok (.goto (-64), 3) := by decide +kernel
theorem dX11_luck_139 : decode cX11_luck 139 = .ok (.aload_n 0, 1) := by decide +kernel
theorem dX11_luck_140 : decode cX11_luck 140 = .ok (.lload 5, 2) := by decide +kernel
theorem dX11_luck_142 : decode cX11_luck 142 = .ok (.lload 7, 2) := by decide +kernel
theorem dX11_luck_144 : decode cX11_luck 144 = .ok (.invokevirtual 293, 3) := by decide +kernel
theorem dX11_luck_147 : decode cX11_luck 147 = .ok (.ireturn, 1) := by decide +kernel
theorem dX11_rests_0 : decode cX11_rests 0 = .ok (.iconst 1, 1) := by decide +kernel
theorem dX11_rests_1 : decode cX11_rests 1 = .ok (.istore_n 3, 1) := by decide +kernel
theorem dX11_rests_2 : decode cX11_rests 2 = .ok (.iconst 0, 1) := by decide +kernel
theorem dX11_rests_3 : decode cX11_rests 3 = .ok (.istore 4, 2) := by decide +kernel
theorem dX11_rests_5 : decode cX11_rests 5 = .ok (.iload 4, 2) := by decide +kernel
theorem dX11_rests_7 : decode cX11_rests 7 = .ok (.bipush 6, 2) := by decide +kernel
theorem dX11_rests_9 : decode cX11_rests 9 = .ok (.if_icmp .ge 71, 3) := by decide +kernel
theorem dX11_rests_12 : decode cX11_rests 12 = .ok (.iload_n 3, 1) := by decide +kernel
theorem dX11_rests_13 : decode cX11_rests 13 = .ok (.ifCond .eq 59, 3) := by decide +kernel
theorem dX11_rests_16 : decode cX11_rests 16 = .ok (.aload_n 0, 1) := by decide +kernel
theorem dX11_rests_17 : decode cX11_rests 17 = .ok (.getfield 44, 3) := by decide +kernel
theorem dX11_rests_20 : decode cX11_rests 20 = .ok (.bipush 6, 2) := by decide +kernel
theorem dX11_rests_22 : decode cX11_rests 22 = .ok (.iload 4, 2) := by decide +kernel
theorem dX11_rests_24 : decode cX11_rests 24 = .ok (.imul, 1) := by decide +kernel
theorem dX11_rests_25 : decode cX11_rests 25 = .ok (.iload_n 2, 1) := by decide +kernel
theorem dX11_rests_26 : decode cX11_rests 26 = .ok (.iadd, 1) := by decide +kernel
theorem dX11_rests_27 : decode cX11_rests 27 = .ok (.iaload, 1) := by decide +kernel
theorem dX11_rests_28 : decode cX11_rests 28 = .ok (.aload_n 0, 1) := by decide +kernel
theorem dX11_rests_29 : decode cX11_rests 29 = .ok (.getfield 44, 3) := by decide +kernel
theorem dX11_rests_32 : decode cX11_rests 32 = .ok (.bipush 6, 2) := by decide +kernel
theorem dX11_rests_34 : decode cX11_rests 34 = .ok (.iload_n 1, 1) := by decide +kernel
theorem dX11_rests_35 : decode cX11_rests 35 = .ok (.imul, 1) := by decide +kernel
theorem dX11_rests_36 : decode cX11_rests 36 = .ok (.iload_n 2, 1) := by decide +kernel
theorem dX11_rests_37 : decode cX11_rests 37 = .ok (.iadd, 1) := by decide +kernel
theorem dX11_rests_38 : decode cX11_rests 38 = .ok (.iaload, 1) := by decide +kernel
theorem dX11_rests_39 : decode cX11_rests 39 = .ok (.if_icmp .lt 33, 3) := by decide +kernel
theorem dX11_rests_42 : decode cX11_rests 42 = .ok (.aload_n 0, 1) := by decide +kernel
theorem dX11_rests_43 : decode cX11_rests 43 = .ok (.getfield 44, 3) := by decide +kernel
theorem dX11_rests_46 : decode cX11_rests 46 = .ok (.bipush 6, 2) := by decide +kernel
theorem dX11_rests_48 : decode cX11_rests 48 = .ok (.iload_n 1, 1) := by decide +kernel
theorem dX11_rests_49 : decode cX11_rests 49 = .ok (.imul, 1) := by decide +kernel
theorem dX11_rests_50 : decode cX11_rests 50 = .ok (.iload 4, 2) := by decide +kernel
theorem dX11_rests_52 : decode cX11_rests 52 = .ok (.iadd, 1) := by decide +kernel
theorem dX11_rests_53 : decode cX11_rests 53 = .ok (.iaload, 1) := by decide +kernel
theorem dX11_rests_54 : decode cX11_rests 54 = .ok (.aload_n 0, 1) := by decide +kernel
theorem dX11_rests_55 : decode cX11_rests 55 = .ok (.getfield 44, 3) := by decide +kernel
theorem dX11_rests_58 : decode cX11_rests 58 = .ok (.bipush 6, 2) := by decide +kernel
theorem dX11_rests_60 : decode cX11_rests 60 = .ok (.iload_n 1, 1) := by decide +kernel
theorem dX11_rests_61 : decode cX11_rests 61 = .ok (.imul, 1) := by decide +kernel
theorem dX11_rests_62 : decode cX11_rests 62 = .ok (.iload_n 2, 1) := by decide +kernel
theorem dX11_rests_63 : decode cX11_rests 63 = .ok (.iadd, 1) := by decide +kernel
theorem dX11_rests_64 : decode cX11_rests 64 = .ok (.iaload, 1) := by decide +kernel
theorem dX11_rests_65 : decode cX11_rests 65 = .ok (.if_icmp .gt 7, 3) := by decide +kernel
theorem dX11_rests_68 : decode cX11_rests 68 = .ok (.iconst 1, 1) := by decide +kernel
theorem dX11_rests_69 : decode cX11_rests 69 = .ok (.goto 4, 3) := by decide +kernel
theorem dX11_rests_72 : decode cX11_rests 72 = .ok (.iconst 0, 1) := by decide +kernel
theorem dX11_rests_73 : decode cX11_rests 73 = .ok (.istore_n 3, 1) := by decide +kernel
theorem dX11_rests_74 : decode cX11_rests 74 = .ok (.iinc 4 1, 3) := by decide +kernel
theorem dX11_rests_77 : decode cX11_rests 77 = .ok (.goto (-72), 3) := by decide +kernel
theorem dX11_rests_80 : decode cX11_rests 80 = .ok (.iload_n 3, 1) := by decide +kernel
theorem dX11_rests_81 : decode cX11_rests 81 = .ok (.ireturn, 1) := by decide +kernel
theorem dX11_against_0 : decode cX11_against 0 = .ok (.iload_n 1, 1) := by decide +kernel
theorem dX11_against_1 : decode cX11_against 1 = .ok (.iconst (-1), 1) := by decide +kernel
theorem dX11_against_2 : decode cX11_against 2 = .ok (.if_icmp .ge 8, 3) := by decide +kernel
theorem dX11_against_5 : decode cX11_against 5 = .ok (.aload_n 0, 1) := by decide +kernel
theorem dX11_against_6 : decode cX11_against 6 = .ok (.invokevirtual 300, 3) := by decide +kernel
theorem dX11_against_9 : decode cX11_against 9 = .ok (.ireturn, 1) := by decide +kernel
theorem dX11_against_10 : decode cX11_against 10 = .ok (.iconst 0, 1) := by decide +kernel
theorem dX11_against_11 : decode cX11_against 11 = .ok (.istore_n 2, 1) := by decide +kernel
theorem dX11_against_12 : decode cX11_against 12 = .ok (.iload_n 2, 1) := by decide +kernel
theorem dX11_against_13 : decode cX11_against 13 = .ok (.bipush 6, 2) := by decide +kernel
theorem dX11_against_15 : decode cX11_against 15 = .ok (.if_icmp .ge 40, 3) := by decide +kernel
theorem dX11_against_18 : decode cX11_against 18 = .ok (.iconst 0, 1) := by decide +kernel
theorem dX11_against_19 : decode cX11_against 19 = .ok (.istore_n 3, 1) := by decide +kernel
theorem dX11_against_20 : decode cX11_against 20 = .ok (.iload_n 3, 1) := by decide +kernel
theorem dX11_against_21 : decode cX11_against 21 = .ok (.bipush 6, 2) := by decide +kernel
theorem dX11_against_23 : decode cX11_against 23 = .ok (.if_icmp .ge 26, 3) := by decide +kernel
theorem dX11_against_26 : decode cX11_against 26 = .ok (.aload_n 0, 1) := by decide +kernel
theorem dX11_against_27 : decode cX11_against 27 = .ok (.getfield 44, 3) := by decide +kernel
theorem dX11_against_30 : decode cX11_against 30 = .ok (.bipush 6, 2) := by decide +kernel
theorem dX11_against_32 : decode cX11_against 32 = .ok (.iload_n 2, 1) := by decide +kernel
theorem dX11_against_33 : decode cX11_against 33 = .ok (.imul, 1) := by decide +kernel
theorem dX11_against_34 : decode cX11_against 34 = .ok (.iload_n 3, 1) := by decide +kernel
theorem dX11_against_35 : decode cX11_against 35 = .ok (.iadd, 1) := by decide +kernel
theorem dX11_against_36 : decode cX11_against 36 = .ok (.aload_n 0, 1) := by decide +kernel
theorem dX11_against_37 : decode cX11_against 37 = .ok (.iload_n 2, 1) := by decide +kernel
theorem dX11_against_38 : decode cX11_against 38 = .ok (.iload_n 3, 1) := by decide +kernel
theorem dX11_against_39 : decode cX11_against 39 = .ok (.invokevirtual 287, 3) := by decide +kernel
theorem dX11_against_42 : decode cX11_against 42 = .ok (.iastore, 1) := by decide +kernel
theorem dX11_against_43 : decode cX11_against 43 = .ok (.iinc 3 1, 3) := by decide +kernel
theorem dX11_against_46 : decode cX11_against 46 = .ok (.goto (-26), 3) := by decide +kernel
theorem dX11_against_49 : decode cX11_against 49 = .ok (.iinc 2 1, 3) := by decide +kernel
theorem dX11_against_52 : decode cX11_against 52 = .ok (.goto (-40), 3) := by decide +kernel
theorem dX11_against_55 : decode cX11_against 55 = .ok (.iconst 0, 1) := by decide +kernel
theorem dX11_against_56 : decode cX11_against 56 = .ok (.istore_n 2, 1) := by decide +kernel
theorem dX11_against_57 : decode cX11_against 57 = .ok (.iconst 0, 1) := by decide +kernel
theorem dX11_against_58 : decode cX11_against 58 = .ok (.istore_n 3, 1) := by decide +kernel
theorem dX11_against_59 : decode cX11_against 59 = .ok (.iload_n 3, 1) := by decide +kernel
theorem dX11_against_60 : decode cX11_against 60 = .ok (.bipush 6, 2) := by decide +kernel
theorem dX11_against_62 : decode cX11_against 62 = .ok (.if_icmp .ge 51, 3) := by decide +kernel
theorem dX11_against_65 : decode cX11_against 65 = .ok (.iconst 0, 1) := by decide +kernel
theorem dX11_against_66 : decode cX11_against 66 = .ok (.istore 4, 2) := by decide +kernel
theorem dX11_against_68 : decode cX11_against 68 = .ok (.iload 4, 2) := by decide +kernel
theorem dX11_against_70 : decode cX11_against 70 = .ok (.bipush 6, 2) := by decide +kernel
theorem dX11_against_72 : decode cX11_against 72 = .ok (.if_icmp .ge 35, 3) := by decide +kernel
theorem dX11_against_75 : decode cX11_against 75 = .ok (.aload_n 0, 1) := by decide +kernel
theorem dX11_against_76 : decode cX11_against 76 = .ok (.iload_n 3, 1) := by decide +kernel
theorem dX11_against_77 : decode cX11_against 77 = .ok (.iload 4, 2) := by decide +kernel
theorem dX11_against_79 : decode cX11_against 79 = .ok (.invokevirtual 303, 3) := by decide +kernel
theorem dX11_against_82 : decode cX11_against 82 = .ok (.ifCond .eq 19, 3) := by decide +kernel
theorem dX11_against_85 : decode cX11_against 85 = .ok (.iload_n 2, 1) := by decide +kernel
theorem dX11_against_86 : decode cX11_against 86 = .ok (.iload_n 1, 1) := by decide +kernel
theorem dX11_against_87 : decode cX11_against 87 = .ok (.if_icmp .ne 11, 3) := by decide +kernel
theorem dX11_against_90 : decode cX11_against 90 = .ok (.bipush 10, 2) := by decide +kernel
theorem dX11_against_92 : decode cX11_against 92 = .ok (.iload_n 3, 1) := by decide +kernel
theorem dX11_against_93 : decode cX11_against 93 = .ok (.imul, 1) := by decide +kernel
theorem dX11_against_94 : decode cX11_against 94 = .ok (.iload 4, 2) := by decide +kernel
theorem dX11_against_96 : decode cX11_against 96 = .ok (.iadd, 1) := by decide +kernel
theorem dX11_against_97 : decode cX11_against 97 = .ok (.ireturn, 1) := by decide +kernel
theorem dX11_against_98 : decode cX11_against 98 = .ok (.iinc 2 1, 3) := by decide +kernel
theorem dX11_against_101 : decode cX11_against 101 = .ok (.iinc 4 1, 3) := by decide +kernel
theorem dX11_against_104 : decode cX11_against 104 = .ok (.goto (-36), 3) := by decide +kernel
theorem dX11_against_107 : decode cX11_against 107 = .ok (.iinc 3 1, 3) := by decide +kernel
theorem dX11_against_110 : decode cX11_against 110 = .ok (.goto (-51), 3) := by decide +kernel
theorem dX11_against_113 : decode cX11_against 113 = .ok (.iload_n 1, 1) := by decide +kernel
theorem dX11_against_114 : decode cX11_against 114 = .ok (.iconst (-1), 1) := by decide +kernel
theorem dX11_against_115 : decode cX11_against 115 = .ok (.if_icmp .ne 7, 3) := by decide +kernel
theorem dX11_against_118 : decode cX11_against 118 = .ok (.iload_n 2, 1) := by decide +kernel
theorem dX11_against_119 : decode cX11_against 119 = .ok (.goto 5, 3) := by decide +kernel
theorem dX11_against_122 : decode cX11_against 122 = .ok (.bipush (-5), 2) := by decide +kernel
theorem dX11_against_124 : decode cX11_against 124 = .ok (.ireturn, 1) := by decide +kernel
theorem dX11_isSome_0 : decode cX11_isSome 0 = .ok (.iload_n 1, 1) := by decide +kernel
theorem dX11_isSome_1 : decode cX11_isSome 1 = .ok (.iconst 1, 1) := by decide +kernel
theorem dX11_isSome_2 : decode cX11_isSome 2 = .ok (.iconst 1, 1) := by decide +kernel
theorem dX11_isSome_3 : decode cX11_isSome 3 = .ok (.aload_n 0, 1) := by decide +kernel
theorem dX11_isSome_4 : decode cX11_isSome 4 = .ok (.getfield 60, 3) := by decide +kernel
theorem dX11_isSome_7 : decode cX11_isSome 7 = .ok (.ishl, 1) := by decide +kernel
theorem dX11_isSome_8 : decode cX11_isSome 8 = .ok (.iconst 1, 1) := by decide +kernel
theorem dX11_isSome_9 : decode cX11_isSome 9 = .ok (.isub, 1) := by decide +kernel
theorem dX11_isSome_10 : decode cX11_isSome 10 = .ok (.invokestatic 91, 3) := by decide +kernel
theorem dX11_isSome_13 : decode cX11_isSome 13 = .ok (.ireturn, 1) := by decide +kernel
theorem dX11_note_0 : decode cX11_note 0 = .ok (.aload_n 0, 1) := by decide +kernel
theorem dX11_note_1 : decode cX11_note 1 = .ok (.iload_n 1, 1) := by decide +kernel
theorem dX11_note_2 : decode cX11_note 2 = .ok (.invokevirtual 306, 3) := by decide +kernel
theorem dX11_note_5 : decode cX11_note 5 = .ok (.ifCond .eq 31, 3) := by decide +kernel
theorem dX11_note_8 : decode cX11_note 8 = .ok (.iload_n 2, 1) := by decide +kernel
theorem dX11_note_9 : decode cX11_note 9 = .ok (.iconst 0, 1) := by decide +kernel
theorem dX11_note_10 : decode cX11_note 10 = .ok (.bipush 9, 2) := by decide +kernel
theorem dX11_note_12 : decode cX11_note 12 = .ok (.invokestatic 91, 3) := by decide +kernel
theorem dX11_note_15 : decode cX11_note 15 = .ok (.ifCond .eq 21, 3) := by decide +kernel
theorem dX11_note_18 : decode cX11_note 18 = .ok (.iload_n 3, 1) := by decide +kernel
theorem dX11_note_19 : decode cX11_note 19 = .ok (.invokestatic 247, 3) := by decide +kernel
theorem dX11_note_22 : decode cX11_note 22 = .ok (.ifCond .eq 14, 3) := by decide +kernel
theorem dX11_note_25 : decode cX11_note 25 = .ok (.iload 4, 2) := by decide +kernel
theorem dX11_note_27 : decode cX11_note 27 = .ok (.iconst 0, 1) := by decide +kernel
theorem dX11_note_28 : decode cX11_note 28 = .ok (.bipush 15, 2) := by decide +kernel
theorem dX11_note_30 : decode cX11_note 30 = .ok (.invokestatic 91, 3) := by decide +kernel
theorem dX11_note_33 : decode cX11_note 33 = .ok (.ifCond .ne 8, 3) := by decide +kernel
theorem dX11_note_36 : decode cX11_note 36 = .ok (.aload_n 0, 1) := by decide +kernel
theorem dX11_note_37 : decode cX11_note 37 = .ok (.invokevirtual 106, 3) := by decide +kernel
theorem dX11_note_40 : decode cX11_note 40 = .ok (.ireturn, 1) := by decide +kernel
theorem dX11_note_41 : decode cX11_note 41 = .ok (.aload_n 0, 1) := by decide +kernel
theorem dX11_note_42 : decode cX11_note 42 = .ok (.getfield 70, 3) := by decide +kernel
theorem dX11_note_45 : decode cX11_note 45 = .ok (.bipush 6, 2) := by decide +kernel
theorem dX11_note_47 : decode cX11_note 47 = .ok (.if_icmp .ne 8, 3) := by decide +kernel
theorem dX11_note_50 : decode cX11_note 50 = .ok (.aload_n 0, 1) := by decide +kernel
theorem dX11_note_51 : decode cX11_note 51 = .ok (.invokevirtual 116, 3) := by decide +kernel
theorem dX11_note_54 : decode cX11_note 54 = .ok (.ireturn, 1) := by decide +kernel
theorem dX11_note_55 : decode cX11_note 55 = .ok (.aload_n 0, 1) := by decide +kernel
theorem dX11_note_56 : decode cX11_note 56 = .ok (.getfield 16, 3) := by decide +kernel
theorem dX11_note_59 : decode cX11_note 59 = .ok (.iconst 4, 1) := by decide +kernel
theorem dX11_note_60 : decode cX11_note 60 = .ok (.aload_n 0, 1) := by decide +kernel
theorem dX11_note_61 : decode cX11_note 61 = .ok (.getfield 70, 3) := by decide +kernel
theorem dX11_note_64 : decode cX11_note 64 = .ok (.imul, 1) := by decide +kernel
theorem dX11_note_65 : decode cX11_note 65 = .ok (.iload_n 1, 1) := by decide +kernel
theorem dX11_note_66 : decode cX11_note 66 = .ok (.iastore, 1) := by decide +kernel
theorem dX11_note_67 : decode cX11_note 67 = .ok (.aload_n 0, 1) := by decide +kernel
theorem dX11_note_68 : decode cX11_note 68 = .ok (.getfield 16, 3) := by decide +kernel
theorem dX11_note_71 : decode cX11_note 71 = .ok (.iconst 4, 1) := by decide +kernel
theorem dX11_note_72 : decode cX11_note 72 = .ok (.aload_n 0, 1) := by decide +kernel
theorem dX11_note_73 : decode cX11_note 73 = .ok (.getfield 70, 3) := by decide +kernel
theorem dX11_note_76 : decode cX11_note 76 = .ok (.imul, 1) := by decide +kernel
theorem dX11_note_77 : decode cX11_note 77 = .ok (.iconst 1, 1) := by decide +kernel
theorem dX11_note_78 : decode cX11_note 78 = .ok (.iadd, 1) := by decide +kernel
theorem dX11_note_79 : decode cX11_note 79 = .ok (.iload_n 2, 1) := by decide +kernel
theorem dX11_note_80 : decode cX11_note 80 = .ok (.iastore, 1) := by decide +kernel
theorem dX11_note_81 : decode cX11_note 81 = .ok (.aload_n 0, 1) := by decide +kernel
theorem dX11_note_82 : decode cX11_note 82 = .ok (.getfield 16, 3) := by decide +kernel
theorem dX11_note_85 : decode cX11_note 85 = .ok (.iconst 4, 1) := by decide +kernel
theorem dX11_note_86 : decode cX11_note 86 = .ok (.aload_n 0, 1) := by decide +kernel
theorem dX11_note_87 : decode cX11_note 87 = .ok (.getfield 70, 3) := by decide +kernel
theorem dX11_note_90 : decode cX11_note 90 = .ok (.imul, 1) := by decide +kernel
theorem dX11_note_91 : decode cX11_note 91 = .ok (.iconst 2, 1) := by decide +kernel
theorem dX11_note_92 : decode cX11_note 92 = .ok (.iadd, 1) := by decide +kernel
theorem dX11_note_93 : decode cX11_note 93 = .ok (.iload_n 3, 1) := by decide +kernel
theorem dX11_note_94 : decode cX11_note 94 = .ok (.iastore, 1) := by decide +kernel
theorem dX11_note_95 : decode cX11_note 95 = .ok (.aload_n 0, 1) := by decide +kernel
theorem dX11_note_96 : decode cX11_note 96 = .ok (.getfield 16, 3) := by decide +kernel
theorem dX11_note_99 : decode cX11_note 99 = .ok (.iconst 4, 1) := by decide +kernel
theorem dX11_note_100 : decode cX11_note 100 = .ok (.aload_n 0, 1) := by decide +kernel
theorem dX11_note_101 : decode cX11_note 101 = .ok (.getfield 70, 3) := by decide +kernel
theorem dX11_note_104 : decode cX11_note 104 = .ok (.imul, 1) := by decide +kernel
theorem dX11_note_105 : decode cX11_note 105 = .ok (.iconst 3, 1) := by decide +kernel
theorem dX11_note_106 : decode cX11_note 106 = .ok (.iadd, 1) := by decide +kernel
theorem dX11_note_107 : decode cX11_note 107 = .ok (.iload 4, 2) := by decide +kernel
theorem dX11_note_109 : decode cX11_note 109 = .ok (.iastore, 1) := by decide +kernel
theorem dX11_note_110 : decode cX11_note 110 = .ok (.aload_n 0, 1) := by decide +kernel
theorem dX11_note_111 : decode cX11_note 111 = .ok (.dup, 1) := by decide +kernel
theorem dX11_note_112 : decode cX11_note 112 = .ok (.getfield 70, 3) := by decide +kernel
theorem dX11_note_115 : decode cX11_note 115 = .ok (.iconst 1, 1) := by decide +kernel
theorem dX11_note_116 : decode cX11_note 116 = .ok (.iadd, 1) := by decide +kernel
theorem dX11_note_117 : decode cX11_note 117 = .ok (.putfield 70, 3) := by decide +kernel
theorem dX11_note_120 : decode cX11_note 120 = .ok (.aload_n 0, 1) := by decide +kernel
theorem dX11_note_121 : decode cX11_note 121 = .ok (.getfield 70, 3) := by decide +kernel
theorem dX11_note_124 : decode cX11_note 124 = .ok (.ireturn, 1) := by decide +kernel
theorem dX11_mark_0 : decode cX11_mark 0 = .ok (.aload_n 0, 1) := by decide +kernel
theorem dX11_mark_1 : decode cX11_mark 1 = .ok (.iload_n 1, 1) := by decide +kernel
theorem dX11_mark_2 : decode cX11_mark 2 = .ok (.invokevirtual 306, 3) := by decide +kernel
theorem dX11_mark_5 : decode cX11_mark 5 = .ok (.ifCond .eq 21, 3) := by decide +kernel
theorem dX11_mark_8 : decode cX11_mark 8 = .ok (.iload_n 2, 1) := by decide +kernel
theorem dX11_mark_9 : decode cX11_mark 9 = .ok (.iconst 0, 1) := by decide +kernel
theorem dX11_mark_10 : decode cX11_mark 10 = .ok (.sipush 1023, 3) := by decide +kernel
theorem dX11_mark_13 : decode cX11_mark 13 = .ok (.invokestatic 91, 3) := by decide +kernel
theorem dX11_mark_16 : decode cX11_mark 16 = .ok (.ifCond .eq 10, 3) := by decide +kernel
theorem dX11_mark_19 : decode cX11_mark 19 = .ok (.iload_n 3, 1) := by decide +kernel
theorem dX11_mark_20 : decode cX11_mark 20 = .ok (.invokestatic 247, 3) := by decide +kernel
theorem dX11_mark_23 : decode cX11_mark 23 = .ok (.ifCond .ne 8, 3) := by decide +kernel
theorem dX11_mark_26 : decode cX11_mark 26 = .ok (.aload_n 0, 1) := by decide +kernel
theorem dX11_mark_27 : decode cX11_mark 27 = .ok (.invokevirtual 106, 3) := by decide +kernel
theorem dX11_mark_30 : decode cX11_mark 30 = .ok (.ireturn, 1) := by decide +kernel
theorem dX11_mark_31 : decode cX11_mark 31 = .ok (.aload_n 0, 1) := by decide +kernel
theorem dX11_mark_32 : decode cX11_mark 32 = .ok (.getfield 73, 3) := by decide +kernel
theorem dX11_mark_35 : decode cX11_mark 35 = .ok (.bipush 6, 2) := by decide +kernel
theorem dX11_mark_37 : decode cX11_mark 37 = .ok (.if_icmp .ne 8, 3) := by decide +kernel
theorem dX11_mark_40 : decode cX11_mark 40 = .ok (.aload_n 0, 1) := by decide +kernel
theorem dX11_mark_41 : decode cX11_mark 41 = .ok (.invokevirtual 116, 3) := by decide +kernel
theorem dX11_mark_44 : decode cX11_mark 44 = .ok (.ireturn, 1) := by decide +kernel
theorem dX11_mark_45 : decode cX11_mark 45 = .ok (.aload_n 0, 1) := by decide +kernel
theorem dX11_mark_46 : decode cX11_mark 46 = .ok (.getfield 19, 3) := by decide +kernel
theorem dX11_mark_49 : decode cX11_mark 49 = .ok (.iconst 3, 1) := by decide +kernel
theorem dX11_mark_50 : decode cX11_mark 50 = .ok (.aload_n 0, 1) := by decide +kernel
theorem dX11_mark_51 : decode cX11_mark 51 = .ok (.getfield 73, 3) := by decide +kernel
theorem dX11_mark_54 : decode cX11_mark 54 = .ok (.imul, 1) := by decide +kernel
theorem dX11_mark_55 : decode cX11_mark 55 = .ok (.iload_n 1, 1) := by decide +kernel
theorem dX11_mark_56 : decode cX11_mark 56 = .ok (.iastore, 1) := by decide +kernel
theorem dX11_mark_57 : decode cX11_mark 57 = .ok (.aload_n 0, 1) := by decide +kernel
theorem dX11_mark_58 : decode cX11_mark 58 = .ok (.getfield 19, 3) := by decide +kernel
theorem dX11_mark_61 : decode cX11_mark 61 = .ok (.iconst 3, 1) := by decide +kernel
theorem dX11_mark_62 : decode cX11_mark 62 = .ok (.aload_n 0, 1) := by decide +kernel
theorem dX11_mark_63 : decode cX11_mark 63 = .ok (.getfield 73, 3) := by decide +kernel
theorem dX11_mark_66 : decode cX11_mark 66 = .ok (.imul, 1) := by decide +kernel
theorem dX11_mark_67 : decode cX11_mark 67 = .ok (.iconst 1, 1) := by decide +kernel
theorem dX11_mark_68 : decode cX11_mark 68 = .ok (.iadd, 1) := by decide +kernel
theorem dX11_mark_69 : decode cX11_mark 69 = .ok (.iload_n 2, 1) := by decide +kernel
theorem dX11_mark_70 : decode cX11_mark 70 = .ok (.iastore, 1) := by decide +kernel
theorem dX11_mark_71 : decode cX11_mark 71 = .ok (.aload_n 0, 1) := by decide +kernel
theorem dX11_mark_72 : decode cX11_mark 72 = .ok (.getfield 19, 3) := by decide +kernel
theorem dX11_mark_75 : decode cX11_mark 75 = .ok (.iconst 3, 1) := by decide +kernel
theorem dX11_mark_76 : decode cX11_mark 76 = .ok (.aload_n 0, 1) := by decide +kernel
theorem dX11_mark_77 : decode cX11_mark 77 = .ok (.getfield 73, 3) := by decide +kernel
theorem dX11_mark_80 : decode cX11_mark 80 = .ok (.imul, 1) := by decide +kernel
theorem dX11_mark_81 : decode cX11_mark 81 = .ok (.iconst 2, 1) := by decide +kernel
theorem dX11_mark_82 : decode cX11_mark 82 = .ok (.iadd, 1) := by decide +kernel
theorem dX11_mark_83 : decode cX11_mark 83 = .ok (.iload_n 3, 1) := by decide +kernel
theorem dX11_mark_84 : decode cX11_mark 84 = .ok (.iastore, 1) := by decide +kernel
theorem dX11_mark_85 : decode cX11_mark 85 = .ok (.aload_n 0, 1) := by decide +kernel
theorem dX11_mark_86 : decode cX11_mark 86 = .ok (.dup, 1) := by decide +kernel
theorem dX11_mark_87 : decode cX11_mark 87 = .ok (.getfield 73, 3) := by decide +kernel
theorem dX11_mark_90 : decode cX11_mark 90 = .ok (.iconst 1, 1) := by decide +kernel
theorem dX11_mark_91 : decode cX11_mark 91 = .ok (.iadd, 1) := by decide +kernel
theorem dX11_mark_92 : decode cX11_mark 92 = .ok (.putfield 73, 3) := by decide +kernel
theorem dX11_mark_95 : decode cX11_mark 95 = .ok (.aload_n 0, 1) := by decide +kernel
theorem dX11_mark_96 : decode cX11_mark 96 = .ok (.getfield 73, 3) := by decide +kernel
theorem dX11_mark_99 : decode cX11_mark 99 = .ok (.ireturn, 1) := by decide +kernel
theorem dX11_forget_0 : decode cX11_forget 0 = .ok (.iload_n 1, 1) := by decide +kernel
theorem dX11_forget_1 : decode cX11_forget 1 = .ok (.iconst 0, 1) := by decide +kernel
theorem dX11_forget_2 : decode cX11_forget 2 = .ok (.iconst 1, 1) := by decide +kernel
theorem dX11_forget_3 : decode cX11_forget 3 = .ok (.invokestatic 91, 3) := by decide +kernel
theorem dX11_forget_6 : decode cX11_forget 6 = .ok (.ifCond .ne 8, 3) := by decide +kernel
theorem dX11_forget_9 : decode cX11_forget 9 = .ok (.aload_n 0, 1) := by decide +kernel
theorem dX11_forget_10 : decode cX11_forget 10 = .ok (.invokevirtual 106, 3) := by decide +kernel
theorem dX11_forget_13 : decode cX11_forget 13 = .ok (.ireturn, 1) := by decide +kernel
theorem dX11_forget_14 : decode cX11_forget 14 = .ok (.iload_n 1, 1) := by decide +kernel
theorem dX11_forget_15 : decode cX11_forget 15 = .ok (.ifCond .ne 10, 3) := by decide +kernel
theorem dX11_forget_18 : decode cX11_forget 18 = .ok (.aload_n 0, 1) := by decide +kernel
theorem dX11_forget_19 : decode cX11_forget 19 = .ok (.getfield 70, 3) := by decide +kernel
theorem dX11_forget_22 : decode cX11_forget 22 = .ok (.goto 7, 3) := by decide +kernel
theorem dX11_forget_25 : decode cX11_forget 25 = .ok (.aload_n 0, 1) := by decide +kernel
theorem dX11_forget_26 : decode cX11_forget 26 = .ok (.getfield 73, 3) := by decide +kernel
theorem dX11_forget_29 : decode cX11_forget 29 = .ok (.istore_n 2, 1) := by decide +kernel
theorem dX11_forget_30 : decode cX11_forget 30 = .ok (.aload_n 0, 1) := by decide +kernel
theorem dX11_forget_31 : decode cX11_forget 31 = .ok (.iload_n 1, 1) := by decide +kernel
theorem dX11_forget_32 : decode cX11_forget 32 = .ok (.ifCond .ne 7, 3) := by decide +kernel
theorem dX11_forget_35 : decode cX11_forget 35 = .ok (.iconst 0, 1) := by decide +kernel
theorem dX11_forget_36 : decode cX11_forget 36 = .ok (.goto 7, 3) := by decide +kernel
theorem dX11_forget_39 : decode cX11_forget 39 = .ok (.aload_n 0, 1) := by decide +kernel
theorem dX11_forget_40 : decode cX11_forget 40 = .ok (.getfield 70, 3) := by decide +kernel
theorem dX11_forget_43 : decode cX11_forget 43 = .ok (.putfield 70, 3) := by decide +kernel
theorem dX11_forget_46 : decode cX11_forget 46 = .ok (.aload_n 0, 1) := by decide +kernel
theorem dX11_forget_47 : decode cX11_forget 47 = .ok (.iload_n 1, 1) := by decide +kernel
theorem dX11_forget_48 : decode cX11_forget 48 = .ok (.iconst 1, 1) := by decide +kernel
theorem dX11_forget_49 : decode cX11_forget 49 = .ok (.if_icmp .ne 7, 3) := by decide +kernel
theorem dX11_forget_52 : decode cX11_forget 52 = .ok (.iconst 0, 1) := by decide +kernel
theorem dX11_forget_53 : decode cX11_forget 53 = .ok (.goto 7, 3) := by decide +kernel
theorem dX11_forget_56 : decode cX11_forget 56 = .ok (.aload_n 0, 1) := by decide +kernel
theorem dX11_forget_57 : decode cX11_forget 57 = .ok (.getfield 73, 3) := by decide +kernel
theorem dX11_forget_60 : decode cX11_forget 60 = .ok (.putfield 73, 3) := by decide +kernel
theorem dX11_forget_63 : decode cX11_forget 63 = .ok (.iload_n 2, 1) := by decide +kernel
theorem dX11_forget_64 : decode cX11_forget 64 = .ok (.ireturn, 1) := by decide +kernel
theorem dX11_is_0 : decode cX11_is 0 = .ok (.iconst 0, 1) := by decide +kernel
theorem dX11_is_1 : decode cX11_is 1 = .ok (.istore_n 1, 1) := by decide +kernel
theorem dX11_is_2 : decode cX11_is 2 = .ok (.iconst 0, 1) := by decide +kernel
theorem dX11_is_3 : decode cX11_is 3 = .ok (.istore_n 2, 1) := by decide +kernel
theorem dX11_is_4 : decode cX11_is 4 = .ok (.iload_n 2, 1) := by decide +kernel
theorem dX11_is_5 : decode cX11_is 5 = .ok (.bipush 6, 2) := by decide +kernel
theorem dX11_is_7 : decode cX11_is 7 = .ok (.if_icmp .ge 103, 3) := by decide +kernel
theorem dX11_is_10 : decode cX11_is 10 = .ok (.iconst 1, 1) := by decide +kernel
theorem dX11_is_11 : decode cX11_is 11 = .ok (.istore_n 3, 1) := by decide +kernel
theorem dX11_is_12 : decode cX11_is 12 = .ok (.iconst 0, 1) := by decide +kernel
theorem dX11_is_13 : decode cX11_is 13 = .ok (.istore 4, 2) := by decide +kernel
theorem dX11_is_15 : decode cX11_is 15 = .ok (.iload 4, 2) := by decide +kernel
theorem dX11_is_17 : decode cX11_is 17 = .ok (.aload_n 0, 1) := by decide +kernel
theorem dX11_is_18 : decode cX11_is 18 = .ok (.getfield 70, 3) := by decide +kernel
theorem dX11_is_21 : decode cX11_is 21 = .ok (.if_icmp .ge 69, 3) := by decide +kernel
theorem dX11_is_24 : decode cX11_is 24 = .ok (.iload_n 3, 1) := by decide +kernel
theorem dX11_is_25 : decode cX11_is 25 = .ok (.ifCond .eq 57, 3) := by decide +kernel
theorem dX11_is_28 : decode cX11_is 28 = .ok (.aload_n 0, 1) := by decide +kernel
theorem dX11_is_29 : decode cX11_is 29 = .ok (.iload_n 2, 1) := by decide +kernel
theorem dX11_is_30 : decode cX11_is 30 = .ok (.aload_n 0, 1) := by decide +kernel
theorem dX11_is_31 : decode cX11_is 31 = .ok (.getfield 16, 3) := by decide +kernel
theorem dX11_is_34 : decode cX11_is 34 = .ok (.iconst 4, 1) := by decide +kernel
theorem dX11_is_35 : decode cX11_is 35 = .ok (.iload 4, 2) := by decide +kernel
theorem dX11_is_37 : decode cX11_is 37 = .ok (.imul, 1) := by decide +kernel
theorem dX11_is_38 : decode cX11_is 38 = .ok (.iaload, 1) := by decide +kernel
theorem dX11_is_39 : decode cX11_is 39 = .ok (.aload_n 0, 1) := by decide +kernel
theorem dX11_is_40 : decode cX11_is 40 = .ok (.getfield 16, 3) := by decide +kernel
theorem dX11_is_43 : decode cX11_is 43 = .ok (.iconst 4, 1) := by decide +kernel
theorem dX11_is_44 : decode cX11_is 44 = .ok (.iload 4, 2) := by decide +kernel
theorem dX11_is_46 : decode cX11_is 46 = .ok (.imul, 1) := by decide +kernel
theorem dX11_is_47 : decode cX11_is 47 = .ok (.iconst 1, 1) := by decide +kernel
theorem dX11_is_48 : decode cX11_is 48 = .ok (.iadd, 1) := by decide +kernel
theorem dX11_is_49 : decode cX11_is 49 = .ok (.iaload, 1) := by decide +kernel
theorem dX11_is_50 : decode cX11_is 50 = .ok (.aload_n 0, 1) := by decide +kernel
theorem dX11_is_51 : decode cX11_is 51 = .ok (.getfield 16, 3) := by decide +kernel
theorem dX11_is_54 : decode cX11_is 54 = .ok (.iconst 4, 1) := by decide +kernel
theorem dX11_is_55 : decode cX11_is 55 = .ok (.iload 4, 2) := by decide +kernel
theorem dX11_is_57 : decode cX11_is 57 = .ok (.imul, 1) := by decide +kernel
theorem dX11_is_58 : decode cX11_is 58 = .ok (.iconst 2, 1) := by decide +kernel
theorem dX11_is_59 : decode cX11_is 59 = .ok (.iadd, 1) := by decide +kernel
theorem dX11_is_60 : decode cX11_is 60 = .ok (.iaload, 1) := by decide +kernel
theorem dX11_is_61 : decode cX11_is 61 = .ok (.invokevirtual 214, 3) := by decide +kernel
theorem dX11_is_64 : decode cX11_is 64 = .ok (.aload_n 0, 1) := by decide +kernel
theorem dX11_is_65 : decode cX11_is 65 = .ok (.getfield 16, 3) := by decide +kernel
theorem dX11_is_68 : decode cX11_is 68 = .ok (.iconst 4, 1) := by decide +kernel
theorem dX11_is_69 : decode cX11_is 69 = .ok (.iload 4, 2) := by decide +kernel
theorem dX11_is_71 : decode cX11_is 71 = .ok (.imul, 1) := by decide +kernel
theorem dX11_is_72 : decode cX11_is 72 = .ok (.iconst 3, 1) := by decide +kernel
theorem dX11_is_73 : decode cX11_is 73 = .ok (.iadd, 1) := by decide +kernel
theorem dX11_is_74 : decode cX11_is 74 = .ok (.iaload, 1) := by decide +kernel
theorem dX11_is_75 : decode cX11_is 75 = .ok (.if_icmp .ne 7, 3) := by decide +kernel
theorem dX11_is_78 : decode cX11_is 78 = .ok (.iconst 1, 1) := by decide +kernel
theorem dX11_is_79 : decode cX11_is 79 = .ok (.goto 4, 3) := by decide +kernel
theorem dX11_is_82 : decode cX11_is 82 = .ok (.iconst 0, 1) := by decide +kernel
theorem dX11_is_83 : decode cX11_is 83 = .ok (.istore_n 3, 1) := by decide +kernel
theorem dX11_is_84 : decode cX11_is 84 = .ok (.iinc 4 1, 3) := by decide +kernel
theorem dX11_is_87 : decode cX11_is 87 = .ok (.goto (-72), 3) := by decide +kernel
theorem dX11_is_90 : decode cX11_is 90 = .ok (.iload_n 1, 1) := by decide +kernel
theorem dX11_is_91 : decode cX11_is 91 = .ok (.iload_n 3, 1) := by decide +kernel
theorem dX11_is_92 : decode cX11_is 92 = .ok (.ifCond .eq 9, 3) := by decide +kernel
theorem dX11_is_95 : decode cX11_is 95 = .ok (.iconst 1, 1) := by decide +kernel
theorem dX11_is_96 : decode cX11_is 96 = .ok (.iload_n 2, 1) := by decide +kernel
theorem dX11_is_97 : decode cX11_is 97 = .ok (.ishl, 1) := by decide +kernel
theorem dX11_is_98 : decode cX11_is 98 = .ok (.goto 4, 3) := by decide +kernel
theorem dX11_is_101 : decode cX11_is 101 = .ok (.iconst 0, 1) := by decide +kernel
theorem dX11_is_102 : decode cX11_is 102 = .ok (.ior, 1) := by decide +kernel
theorem dX11_is_103 : decode cX11_is 103 = .ok (.istore_n 1, 1) := by decide +kernel
theorem dX11_is_104 : decode cX11_is 104 = .ok (.iinc 2 1, 3) := by decide +kernel
theorem dX11_is_107 : decode cX11_is 107 = .ok (.goto (-103), 3) := by decide +kernel
theorem dX11_is_110 : decode cX11_is 110 = .ok (.iload_n 1, 1) := by decide +kernel
theorem dX11_is_111 : decode cX11_is 111 = .ok (.ireturn, 1) := by decide +kernel
theorem dX11_kinds_0 : decode cX11_kinds 0 = .ok (.iconst 0, 1) := by decide +kernel
theorem dX11_kinds_1 : decode cX11_kinds 1 = .ok (.istore_n 1, 1) := by decide +kernel
theorem dX11_kinds_2 : decode cX11_kinds 2 = .ok (.iconst 0, 1) := by decide +kernel
theorem dX11_kinds_3 : decode cX11_kinds 3 = .ok (.istore_n 2, 1) := by decide +kernel
theorem dX11_kinds_4 : decode cX11_kinds 4 = .ok (.iload_n 2, 1) := by decide +kernel
theorem dX11_kinds_5 : decode cX11_kinds 5 = .ok (.bipush 6, 2) := by decide +kernel
theorem dX11_kinds_7 : decode cX11_kinds 7 = .ok (.if_icmp .ge 92, 3) := by decide +kernel
theorem dX11_kinds_10 : decode cX11_kinds 10 = .ok (.iconst 1, 1) := by decide +kernel
theorem dX11_kinds_11 : decode cX11_kinds 11 = .ok (.istore_n 3, 1) := by decide +kernel
theorem dX11_kinds_12 : decode cX11_kinds 12 = .ok (.iconst 0, 1) := by decide +kernel
theorem dX11_kinds_13 : decode cX11_kinds 13 = .ok (.istore 4, 2) := by decide +kernel
theorem dX11_kinds_15 : decode cX11_kinds 15 = .ok (.iload 4, 2) := by decide +kernel
theorem dX11_kinds_17 : decode cX11_kinds 17 = .ok (.aload_n 0, 1) := by decide +kernel
theorem dX11_kinds_18 : decode cX11_kinds 18 = .ok (.getfield 73, 3) := by decide +kernel
theorem dX11_kinds_21 : decode cX11_kinds 21 = .ok (.if_icmp .ge 58, 3) := by decide +kernel
theorem dX11_kinds_24 : decode cX11_kinds 24 = .ok (.iload_n 3, 1) := by decide +kernel
theorem dX11_kinds_25 : decode cX11_kinds 25 = .ok (.ifCond .eq 46, 3) := by decide +kernel
theorem dX11_kinds_28 : decode cX11_kinds 28 = .ok (.aload_n 0, 1) := by decide +kernel
theorem dX11_kinds_29 : decode cX11_kinds 29 = .ok (.iload_n 2, 1) := by decide +kernel
theorem dX11_kinds_30 : decode cX11_kinds 30 = .ok (.aload_n 0, 1) := by decide +kernel
theorem dX11_kinds_31 : decode cX11_kinds 31 = .ok (.getfield 19, 3) := by decide +kernel
theorem dX11_kinds_34 : decode cX11_kinds 34 = .ok (.iconst 3, 1) := by decide +kernel
theorem dX11_kinds_35 : decode cX11_kinds 35 = .ok (.iload 4, 2) := by decide +kernel
theorem dX11_kinds_37 : decode cX11_kinds 37 = .ok (.imul, 1) := by decide +kernel
theorem dX11_kinds_38 : decode cX11_kinds 38 = .ok (.iaload, 1) := by decide +kernel
theorem dX11_kinds_39 : decode cX11_kinds 39 = .ok (.aload_n 0, 1) := by decide +kernel
theorem dX11_kinds_40 : decode cX11_kinds 40 = .ok (.getfield 19, 3) := by decide +kernel
theorem dX11_kinds_43 : decode cX11_kinds 43 = .ok (.iconst 3, 1) := by decide +kernel
theorem dX11_kinds_44 : decode cX11_kinds 44 = .ok (.iload 4, 2) := by decide +kernel
theorem dX11_kinds_46 : decode cX11_kinds 46 = .ok (.imul, 1) := by decide +kernel
theorem dX11_kinds_47 : decode cX11_kinds 47 = .ok (.iconst 1, 1) := by decide +kernel
theorem dX11_kinds_48 : decode cX11_kinds 48 = .ok (.iadd, 1) := by decide +kernel
theorem dX11_kinds_49 : decode cX11_kinds 49 = .ok (.iaload, 1) := by decide +kernel
theorem dX11_kinds_50 : decode cX11_kinds 50 = .ok (.invokevirtual 278, 3) := by decide +kernel
theorem dX11_kinds_53 : decode cX11_kinds 53 = .ok (.aload_n 0, 1) := by decide +kernel
theorem dX11_kinds_54 : decode cX11_kinds 54 = .ok (.getfield 19, 3) := by decide +kernel
theorem dX11_kinds_57 : decode cX11_kinds 57 = .ok (.iconst 3, 1) := by decide +kernel
theorem dX11_kinds_58 : decode cX11_kinds 58 = .ok (.iload 4, 2) := by decide +kernel
theorem dX11_kinds_60 : decode cX11_kinds 60 = .ok (.imul, 1) := by decide +kernel
theorem dX11_kinds_61 : decode cX11_kinds 61 = .ok (.iconst 2, 1) := by decide +kernel
theorem dX11_kinds_62 : decode cX11_kinds 62 = .ok (.iadd, 1) := by decide +kernel
theorem dX11_kinds_63 : decode cX11_kinds 63 = .ok (.iaload, 1) := by decide +kernel
theorem dX11_kinds_64 : decode cX11_kinds 64 = .ok (.if_icmp .ne 7, 3) := by decide +kernel
theorem dX11_kinds_67 : decode cX11_kinds 67 = .ok (.iconst 1, 1) := by decide +kernel
theorem dX11_kinds_68 : decode cX11_kinds 68 = .ok (.goto 4, 3) := by decide +kernel
theorem dX11_kinds_71 : decode cX11_kinds 71 = .ok (.iconst 0, 1) := by decide +kernel
theorem dX11_kinds_72 : decode cX11_kinds 72 = .ok (.istore_n 3, 1) := by decide +kernel
theorem dX11_kinds_73 : decode cX11_kinds 73 = .ok (.iinc 4 1, 3) := by decide +kernel
theorem dX11_kinds_76 : decode cX11_kinds 76 = .ok (.goto (-61), 3) := by decide +kernel
theorem dX11_kinds_79 : decode cX11_kinds 79 = .ok (.iload_n 1, 1) := by decide +kernel
theorem dX11_kinds_80 : decode cX11_kinds 80 = .ok (.iload_n 3, 1) := by decide +kernel
theorem dX11_kinds_81 : decode cX11_kinds 81 = .ok (.ifCond .eq 9, 3) := by decide +kernel
theorem dX11_kinds_84 : decode cX11_kinds 84 = .ok (.iconst 1, 1) := by decide +kernel
theorem dX11_kinds_85 : decode cX11_kinds 85 = .ok (.iload_n 2, 1) := by decide +kernel
theorem dX11_kinds_86 : decode cX11_kinds 86 = .ok (.ishl, 1) := by decide +kernel
theorem dX11_kinds_87 : decode cX11_kinds 87 = .ok (.goto 4, 3) := by decide +kernel
theorem dX11_kinds_90 : decode cX11_kinds 90 = .ok (.iconst 0, 1) := by decide +kernel
theorem dX11_kinds_91 : decode cX11_kinds 91 = .ok (.ior, 1) := by decide +kernel
theorem dX11_kinds_92 : decode cX11_kinds 92 = .ok (.istore_n 1, 1) := by decide +kernel
theorem dX11_kinds_93 : decode cX11_kinds 93 = .ok (.iinc 2 1, 3) := by decide +kernel
theorem dX11_kinds_96 : decode cX11_kinds 96 = .ok (.goto (-92), 3) := by decide +kernel
theorem dX11_kinds_99 : decode cX11_kinds 99 = .ok (.iload_n 1, 1) := by decide +kernel
theorem dX11_kinds_100 : decode cX11_kinds 100 = .ok (.ireturn, 1) := by decide +kernel
theorem dX11_mostAlike_0 : decode cX11_mostAlike 0 = .ok (.iconst 0, 1) := by decide +kernel
theorem dX11_mostAlike_1 : decode cX11_mostAlike 1 = .ok (.istore_n 2, 1) := by decide +kernel
theorem dX11_mostAlike_2 : decode cX11_mostAlike 2 = .ok (.iconst 0, 1) := by decide +kernel
theorem dX11_mostAlike_3 : decode cX11_mostAlike 3 = .ok (.istore_n 3, 1) := by decide +kernel
theorem dX11_mostAlike_4 : decode cX11_mostAlike 4 = .ok (.iload_n 3, 1) := by decide +kernel
theorem dX11_mostAlike_5 : decode cX11_mostAlike 5 = .ok (.bipush 6, 2) := by decide +kernel
theorem dX11_mostAlike_7 : decode cX11_mostAlike 7 = .ok (.if_icmp .ge 84, 3) := by decide +kernel
theorem dX11_mostAlike_10 : decode cX11_mostAlike 10 = .ok (.iconst 0, 1) := by decide +kernel
theorem dX11_mostAlike_11 : decode cX11_mostAlike 11 = .ok (.istore 4, 2) := by decide +kernel
theorem dX11_mostAlike_13 : decode cX11_mostAlike 13 = .ok (.iconst 0, 1) := by decide +kernel
theorem dX11_mostAlike_14 : decode cX11_mostAlike 14 = .ok (.istore 5, 2) := by decide +kernel
theorem dX11_mostAlike_16 : decode cX11_mostAlike 16 = .ok (.iload 5, 2) := by decide +kernel
theorem dX11_mostAlike_18 : decode cX11_mostAlike 18 = .ok (.bipush 6, 2) := by decide +kernel
theorem dX11_mostAlike_20 : decode cX11_mostAlike 20 = .ok (.if_icmp .ge 52, 3) := by decide +kernel
theorem dX11_mostAlike_23 : decode cX11_mostAlike 23 = .ok (.iload 4, 2) := by decide +kernel
theorem dX11_mostAlike_25 : decode cX11_mostAlike 25 = .ok (.iload_n 1, 1) := by decide +kernel
theorem dX11_mostAlike_26 : decode cX11_mostAlike 26 = .ok (.iload_n 3, 1) := by decide +kernel
theorem dX11_mostAlike_27 : decode cX11_mostAlike 27 = .ok (.invokestatic 158, 3) := by decide +kernel
theorem dX11_mostAlike_30 : decode cX11_mostAlike 30 = .ok (.ifCond .eq 32, 3) := by decide +kernel
theorem dX11_mostAlike_33 : decode cX11_mostAlike 33 = .ok (.iload_n 1, 1) := by decide +kernel
theorem dX11_mostAlike_34 : decode cX11_mostAlike 34 = .ok (.iload 5, 2) := by decide +kernel
theorem dX11_mostAlike_36 : decode cX11_mostAlike 36 = .ok (.invokestatic 158, 3) := by decide +kernel
theorem dX11_mostAlike_39 : decode cX11_mostAlike 39 = .ok (.ifCond .eq 23, 3) := by decide +kernel
theorem dX11_mostAlike_42 : decode cX11_mostAlike 42 = .ok (.aload_n 0, 1) := by decide +kernel
theorem dX11_mostAlike_43 : decode cX11_mostAlike 43 = .ok (.getfield 47, 3) := by decide +kernel
theorem dX11_mostAlike_46 : decode cX11_mostAlike 46 = .ok (.iload_n 3, 1) := by decide +kernel
theorem dX11_mostAlike_47 : decode cX11_mostAlike 47 = .ok (.iaload, 1) := by decide +kernel
theorem dX11_mostAlike_48 : decode cX11_mostAlike 48 = .ok (.aload_n 0, 1) := by decide +kernel
theorem dX11_mostAlike_49 : decode cX11_mostAlike 49 = .ok (.getfield 47, 3) := by decide +kernel
theorem dX11_mostAlike_52 : decode cX11_mostAlike 52 = .ok (.iload 5, 2) := by decide +kernel
theorem dX11_mostAlike_54 : decode cX11_mostAlike 54 = .ok (.iaload, 1) := by decide +kernel
theorem dX11_mostAlike_55 : decode cX11_mostAlike 55 = .ok (.if_icmp .ne 7, 3) := by decide +kernel
theorem dX11_mostAlike_58 : decode cX11_mostAlike 58 = .ok (.iconst 1, 1) := by decide +kernel
theorem dX11_mostAlike_59 : decode cX11_mostAlike 59 = .ok (.goto 4, 3) := by decide +kernel
theorem dX11_mostAlike_62 : decode cX11_mostAlike 62 = .ok (.iconst 0, 1) := by decide +kernel
theorem dX11_mostAlike_63 : decode cX11_mostAlike 63 = .ok (.iadd, 1) := by decide +kernel
theorem dX11_mostAlike_64 : decode cX11_mostAlike 64 = .ok (.istore 4, 2) := by decide +kernel
theorem dX11_mostAlike_66 : decode cX11_mostAlike 66 = .ok (.iinc 5 1, 3) := by decide +kernel
theorem dX11_mostAlike_69 : decode cX11_mostAlike 69 = .ok (.goto (-53), 3) := by decide +kernel
theorem dX11_mostAlike_72 : decode cX11_mostAlike 72 = .ok (.iload 4, 2) := by decide +kernel
theorem dX11_mostAlike_74 : decode cX11_mostAlike 74 = .ok (.iload_n 2, 1) := by decide +kernel
theorem dX11_mostAlike_75 : decode cX11_mostAlike 75 = .ok (.if_icmp .le 8, 3) := by decide +kernel
theorem dX11_mostAlike_78 : decode cX11_mostAlike 78 = .ok (.iload 4, 2) := by decide +kernel
theorem dX11_mostAlike_80 : decode cX11_mostAlike 80 = .ok (.goto 4, 3) := by decide +kernel
theorem dX11_mostAlike_83 : decode cX11_mostAlike 83 = .ok (.iload_n 2, 1) := by decide +kernel
theorem dX11_mostAlike_84 : decode cX11_mostAlike 84 = .ok (.istore_n 2, 1) := by decide +kernel
theorem dX11_mostAlike_85 : decode cX11_mostAlike 85 = .ok (.iinc 3 1, 3) := by decide +kernel
theorem dX11_mostAlike_88 : decode cX11_mostAlike 88 = .ok (.goto (-84), 3) := by decide +kernel
theorem dX11_mostAlike_91 : decode cX11_mostAlike 91 = .ok (.iload_n 2, 1) := by decide +kernel
theorem dX11_mostAlike_92 : decode cX11_mostAlike 92 = .ok (.ireturn, 1) := by decide +kernel
theorem dX11_look_0 : decode cX11_look 0 = .ok (.aload_n 0, 1) := by decide +kernel
theorem dX11_look_1 : decode cX11_look 1 = .ok (.invokevirtual 309, 3) := by decide +kernel
theorem dX11_look_4 : decode cX11_look 4 = .ok (.istore_n 1, 1) := by decide +kernel
theorem dX11_look_5 : decode cX11_look 5 = .ok (.iconst (-1), 1) := by decide +kernel
theorem dX11_look_6 : decode cX11_look 6 = .ok (.istore_n 2, 1) := by decide +kernel
theorem dX11_look_7 : decode cX11_look 7 = .ok (.ldc 230, 2) := by decide +kernel
theorem dX11_look_9 : decode cX11_look 9 = .ok (.istore_n 3, 1) := by decide +kernel
theorem dX11_look_10 : decode cX11_look 10 = .ok (.iconst 0, 1) := by decide +kernel
theorem dX11_look_11 : decode cX11_look 11 = .ok (.istore 4, 2) := by decide +kernel
theorem dX11_look_13 : decode cX11_look 13 = .ok (.iload 4, 2) := by decide +kernel
theorem dX11_look_15 : decode cX11_look 15 = .ok (.bipush 10, 2) := by decide +kernel
theorem dX11_look_17 : decode cX11_look 17 = .ok (.if_icmp .ge 95, 3) := by decide +kernel
theorem dX11_look_20 : decode cX11_look 20 = .ok (.iload_n 1, 1) := by decide +kernel
theorem dX11_look_21 : decode cX11_look 21 = .ok (.ifCond .eq 91, 3) := by decide +kernel
theorem dX11_look_24 : decode cX11_look 24 = .ok (.aload_n 0, 1) := by decide +kernel
theorem dX11_look_25 : decode cX11_look 25 = .ok (.getfield 85, 3) := by decide +kernel
theorem dX11_look_28 : decode cX11_look 28 = .ok (.ifCond .eq 84, 3) := by decide +kernel
theorem dX11_look_31 : decode cX11_look 31 = .ok (.iconst 0, 1) := by decide +kernel
theorem dX11_look_32 : decode cX11_look 32 = .ok (.istore 5, 2) := by decide +kernel
theorem dX11_look_34 : decode cX11_look 34 = .ok (.iload 5, 2) := by decide +kernel
theorem dX11_look_36 : decode cX11_look 36 = .ok (.bipush 6, 2) := by decide +kernel
theorem dX11_look_38 : decode cX11_look 38 = .ok (.if_icmp .ge 35, 3) := by decide +kernel
theorem dX11_look_41 : decode cX11_look 41 = .ok (.aload_n 0, 1) := by decide +kernel
theorem dX11_look_42 : decode cX11_look 42 = .ok (.getfield 47, 3) := by decide +kernel
theorem dX11_look_45 : decode cX11_look 45 = .ok (.iload 5, 2) := by decide +kernel
theorem dX11_look_47 : decode cX11_look 47 = .ok (.aload_n 0, 1) := by decide +kernel
theorem dX11_look_48 : decode cX11_look 48 = .ok (.iload 5, 2) := by decide +kernel
theorem dX11_look_50 : decode cX11_look 50 = .ok (.aload_n 0, 1) := by decide +kernel
theorem dX11_look_51 : decode cX11_look 51 = .ok (.getfield 85, 3) := by decide +kernel
theorem dX11_look_54 : decode cX11_look 54 = .ok (.aload_n 0, 1) := by decide +kernel
theorem dX11_look_55 : decode cX11_look 55 = .ok (.getfield 82, 3) := by decide +kernel
theorem dX11_look_58 : decode cX11_look 58 = .ok (.invokestatic 202, 3) := by decide +kernel
theorem dX11_look_61 : decode cX11_look 61 = .ok (.iload 4, 2) := by decide +kernel
theorem dX11_look_63 : decode cX11_look 63 = .ok (.invokevirtual 214, 3) := by decide +kernel
theorem dX11_look_66 : decode cX11_look 66 = .ok (.iastore, 1) := by decide +kernel
theorem dX11_look_67 : decode cX11_look 67 = .ok (.iinc 5 1, 3) := by decide +kernel
theorem dX11_look_70 : decode cX11_look 70 = .ok (.goto (-36), 3) := by decide +kernel
theorem dX11_look_73 : decode cX11_look 73 = .ok (.aload_n 0, 1) := by decide +kernel
theorem dX11_look_74 : decode cX11_look 74 = .ok (.iload_n 1, 1) := by decide +kernel
theorem dX11_look_75 : decode cX11_look 75 = .ok (.invokevirtual 312, 3) := by decide +kernel
theorem dX11_look_78 : decode cX11_look 78 = .ok (.istore 5, 2) := by decide +kernel
theorem dX11_look_80 : decode cX11_look 80 = .ok (.iload 5, 2) := by decide +kernel
theorem dX11_look_82 : decode cX11_look 82 = .ok (.iload_n 3, 1) := by decide +kernel
theorem dX11_look_83 : decode cX11_look 83 = .ok (.if_icmp .ge 8, 3) := by decide +kernel
theorem dX11_look_86 : decode cX11_look 86 = .ok (.iload 4, 2) := by decide +kernel
theorem dX11_look_88 : decode cX11_look 88 = .ok (.goto 4, 3) := by decide +kernel
theorem dX11_look_91 : decode cX11_look 91 = .ok (.iload_n 2, 1) := by decide +kernel
theorem dX11_look_92 : decode cX11_look 92 = .ok (.istore_n 2, 1) := by decide +kernel
theorem dX11_look_93 : decode cX11_look 93 = .ok (.iload 5, 2) := by decide +kernel
theorem dX11_look_95 : decode cX11_look 95 = .ok (.iload_n 3, 1) := by decide +kernel
theorem dX11_look_96 : decode cX11_look 96 = .ok (.if_icmp .ge 8, 3) := by decide +kernel
theorem dX11_look_99 : decode cX11_look 99 = .ok (.iload 5, 2) := by decide +kernel
theorem dX11_look_101 : decode cX11_look 101 = .ok (.goto 4, 3) := by decide +kernel
theorem dX11_look_104 : decode cX11_look 104 = .ok (.iload_n 3, 1) := by decide +kernel
theorem dX11_look_105 : decode cX11_look 105 = .ok (.istore_n 3, 1) := by decide +kernel
theorem dX11_look_106 : decode cX11_look 106 = .ok (.iinc 4 1, 3) := by decide +kernel
theorem dX11_look_109 : decode cX11_look 109 = .ok (.goto (-96), 3) := by decide +kernel
theorem dX11_look_112 : decode cX11_look 112 = .ok (.iload_n 2, 1) := by decide +kernel
theorem dX11_look_113 : decode cX11_look 113 = .ok (.ireturn, 1) := by decide +kernel
theorem dX11_ask_0 : decode cX11_ask 0 = .ok (.aload_n 0, 1) := by decide +kernel
theorem dX11_ask_1 : decode cX11_ask 1 = .ok (.invokevirtual 315, 3) := by decide +kernel
theorem dX11_ask_4 : decode cX11_ask 4 = .ok (.istore_n 1, 1) := by decide +kernel
theorem dX11_ask_5 : decode cX11_ask 5 = .ok (.iconst (-1), 1) := by decide +kernel
theorem dX11_ask_6 : decode cX11_ask 6 = .ok (.istore_n 2, 1) := by decide +kernel
theorem dX11_ask_7 : decode cX11_ask 7 = .ok (.ldc 230, 2) := by decide +kernel
theorem dX11_ask_9 : decode cX11_ask 9 = .ok (.istore_n 3, 1) := by decide +kernel
theorem dX11_ask_10 : decode cX11_ask 10 = .ok (.iconst 1, 1) := by decide +kernel
theorem dX11_ask_11 : decode cX11_ask 11 = .ok (.istore 4, 2) := by decide +kernel
theorem dX11_ask_13 : decode cX11_ask 13 = .ok (.iload 4, 2) := by decide +kernel
theorem dX11_ask_15 : decode cX11_ask 15 = .ok (.iconst 1, 1) := by decide +kernel
theorem dX11_ask_16 : decode cX11_ask 16 = .ok (.aload_n 0, 1) := by decide +kernel
theorem dX11_ask_17 : decode cX11_ask 17 = .ok (.getfield 60, 3) := by decide +kernel
theorem dX11_ask_20 : decode cX11_ask 20 = .ok (.ishl, 1) := by decide +kernel
theorem dX11_ask_21 : decode cX11_ask 21 = .ok (.if_icmp .ge 81, 3) := by decide +kernel
theorem dX11_ask_24 : decode cX11_ask 24 = .ok (.iload_n 1, 1) := by decide +kernel
theorem dX11_ask_25 : decode cX11_ask 25 = .ok (.ifCond .eq 77, 3) := by decide +kernel
theorem dX11_ask_28 : decode cX11_ask 28 = .ok (.iconst 0, 1) := by decide +kernel
theorem dX11_ask_29 : decode cX11_ask 29 = .ok (.istore 5, 2) := by decide +kernel
theorem dX11_ask_31 : decode cX11_ask 31 = .ok (.iload 5, 2) := by decide +kernel
theorem dX11_ask_33 : decode cX11_ask 33 = .ok (.bipush 6, 2) := by decide +kernel
theorem dX11_ask_35 : decode cX11_ask 35 = .ok (.if_icmp .ge 28, 3) := by decide +kernel
theorem dX11_ask_38 : decode cX11_ask 38 = .ok (.aload_n 0, 1) := by decide +kernel
theorem dX11_ask_39 : decode cX11_ask 39 = .ok (.getfield 47, 3) := by decide +kernel
theorem dX11_ask_42 : decode cX11_ask 42 = .ok (.iload 5, 2) := by decide +kernel
theorem dX11_ask_44 : decode cX11_ask 44 = .ok (.aload_n 0, 1) := by decide +kernel
theorem dX11_ask_45 : decode cX11_ask 45 = .ok (.iload 5, 2) := by decide +kernel
theorem dX11_ask_47 : decode cX11_ask 47 = .ok (.iload 4, 2) := by decide +kernel
theorem dX11_ask_49 : decode cX11_ask 49 = .ok (.aload_n 0, 1) := by decide +kernel
theorem dX11_ask_50 : decode cX11_ask 50 = .ok (.getfield 82, 3) := by decide +kernel
theorem dX11_ask_53 : decode cX11_ask 53 = .ok (.invokevirtual 278, 3) := by decide +kernel
theorem dX11_ask_56 : decode cX11_ask 56 = .ok (.iastore, 1) := by decide +kernel
theorem dX11_ask_57 : decode cX11_ask 57 = .ok (.iinc 5 1, 3) := by decide +kernel
theorem dX11_ask_60 : decode cX11_ask 60 = .ok (.goto (-29), 3) := by decide +kernel
theorem dX11_ask_63 : decode cX11_ask 63 = .ok (.aload_n 0, 1) := by decide +kernel
theorem dX11_ask_64 : decode cX11_ask 64 = .ok (.iload_n 1, 1) := by decide +kernel
theorem dX11_ask_65 : decode cX11_ask 65 = .ok (.invokevirtual 312, 3) := by decide +kernel
theorem dX11_ask_68 : decode cX11_ask 68 = .ok (.istore 5, 2) := by decide +kernel
theorem dX11_ask_70 : decode cX11_ask 70 = .ok (.iload 5, 2) := by decide +kernel
theorem dX11_ask_72 : decode cX11_ask 72 = .ok (.iload_n 3, 1) := by decide +kernel
theorem dX11_ask_73 : decode cX11_ask 73 = .ok (.if_icmp .ge 8, 3) := by decide +kernel
theorem dX11_ask_76 : decode cX11_ask 76 = .ok (.iload 4, 2) := by decide +kernel
theorem dX11_ask_78 : decode cX11_ask 78 = .ok (.goto 4, 3) := by decide +kernel
theorem dX11_ask_81 : decode cX11_ask 81 = .ok (.iload_n 2, 1) := by decide +kernel
theorem dX11_ask_82 : decode cX11_ask 82 = .ok (.istore_n 2, 1) := by decide +kernel
theorem dX11_ask_83 : decode cX11_ask 83 = .ok (.iload 5, 2) := by decide +kernel
theorem dX11_ask_85 : decode cX11_ask 85 = .ok (.iload_n 3, 1) := by decide +kernel
theorem dX11_ask_86 : decode cX11_ask 86 = .ok (.if_icmp .ge 8, 3) := by decide +kernel
theorem dX11_ask_89 : decode cX11_ask 89 = .ok (.iload 5, 2) := by decide +kernel
theorem dX11_ask_91 : decode cX11_ask 91 = .ok (.goto 4, 3) := by decide +kernel
theorem dX11_ask_94 : decode cX11_ask 94 = .ok (.iload_n 3, 1) := by decide +kernel
theorem dX11_ask_95 : decode cX11_ask 95 = .ok (.istore_n 3, 1) := by decide +kernel
theorem dX11_ask_96 : decode cX11_ask 96 = .ok (.iinc 4 1, 3) := by decide +kernel
theorem dX11_ask_99 : decode cX11_ask 99 = .ok (.goto (-86), 3) := by decide +kernel
theorem dX11_ask_102 : decode cX11_ask 102 = .ok (.iload_n 2, 1) := by decide +kernel
theorem dX11_ask_103 : decode cX11_ask 103 = .ok (.ireturn, 1) := by decide +kernel
theorem dX11_evenings_0 : decode cX11_evenings 0 = .ok (.iload_n 1, 1) := by decide +kernel
theorem dX11_evenings_1 : decode cX11_evenings 1 = .ok (.iconst 0, 1) := by decide +kernel
theorem dX11_evenings_2 : decode cX11_evenings 2 = .ok (.ldc_w 318, 3) := by decide +kernel
theorem dX11_evenings_5 : decode cX11_evenings 5 = .ok (.invokestatic 91, 3) := by decide +kernel
theorem dX11_evenings_8 : decode cX11_evenings 8 = .ok (.ifCond .eq 13, 3) := by decide +kernel
theorem dX11_evenings_11 : decode cX11_evenings 11 = .ok (.iload_n 2, 1) := by decide +kernel
theorem dX11_evenings_12 : decode cX11_evenings 12 = .ok (.iconst 0, 1) := by decide +kernel
theorem dX11_evenings_13 : decode cX11_evenings 13 = .ok (.bipush 60, 2) := by decide +kernel
theorem dX11_evenings_15 : decode cX11_evenings 15 = .ok (.invokestatic 91, 3) := by decide +kernel
theorem dX11_evenings_18 : decode cX11_evenings 18 = .ok (.ifCond .ne 8, 3) := by decide +kernel
theorem dX11_evenings_21 : decode cX11_evenings 21 = .ok (.aload_n 0, 1) := by decide +kernel
theorem dX11_evenings_22 : decode cX11_evenings 22 = .ok (.invokevirtual 106, 3) := by decide +kernel
theorem dX11_evenings_25 : decode cX11_evenings 25 = .ok (.ireturn, 1) := by decide +kernel
theorem dX11_evenings_26 : decode cX11_evenings 26 = .ok (.aload_n 0, 1) := by decide +kernel
theorem dX11_evenings_27 : decode cX11_evenings 27 = .ok (.aload_n 0, 1) := by decide +kernel
theorem dX11_evenings_28 : decode cX11_evenings 28 = .ok (.getfield 50, 3) := by decide +kernel
theorem dX11_evenings_31 : decode cX11_evenings 31 = .ok (.iconst 0, 1) := by decide +kernel
theorem dX11_evenings_32 : decode cX11_evenings 32 = .ok (.invokevirtual 244, 3) := by decide +kernel
theorem dX11_evenings_35 : decode cX11_evenings 35 = .ok (.iload_n 1, 1) := by decide +kernel
theorem dX11_evenings_36 : decode cX11_evenings 36 = .ok (.i2l, 1) := by decide +kernel
theorem dX11_evenings_37 : decode cX11_evenings 37 = .ok (.lstore_n 3, 1) := by decide +kernel
theorem dX11_evenings_38 : decode cX11_evenings 38 = .ok (.iconst 0, 1) := by decide +kernel
theorem dX11_evenings_39 : decode cX11_evenings 39 = .ok (.istore 5, 2) := by decide +kernel
theorem dX11_evenings_41 : decode cX11_evenings 41 = .ok (.iconst 0, 1) := by decide +kernel
theorem dX11_evenings_42 : decode cX11_evenings 42 = .ok (.istore 6, 2) := by decide +kernel
theorem dX11_evenings_44 : decode cX11_evenings 44 = .ok (.iload 6, 2) := by decide +kernel
theorem dX11_evenings_46 : decode cX11_evenings 46 = .ok (.iload_n 2, 1) := by decide +kernel
theorem dX11_evenings_47 : decode cX11_evenings 47 = .ok (.if_icmp .ge 73, 3) := by decide +kernel
theorem dX11_evenings_50 : decode cX11_evenings 50 = .ok (.aload_n 0, 1) := by decide +kernel
theorem dX11_evenings_51 : decode cX11_evenings 51 = .ok (.getfield 60, 3) := by decide +kernel
theorem dX11_evenings_54 : decode cX11_evenings 54 = .ok (.ifCond .le 66, 3) := by decide +kernel
theorem dX11_evenings_57 : decode cX11_evenings 57 = .ok (.lload_n 3, 1) := by decide +kernel
theorem dX11_evenings_58 : decode cX11_evenings 58 = .ok (.ldc2_w 319, 3) := by decide +kernel
theorem dX11_evenings_61 : decode cX11_evenings 61 = .ok (.lmul, 1) := by decide +kernel
theorem dX11_evenings_62 : decode cX11_evenings 62 = .ok (.ldc2_w 321, 3) := by decide +kernel
theorem dX11_evenings_65 : decode cX11_evenings 65 = .ok (.ladd, 1) := by decide +kernel
theorem dX11_evenings_66 : decode cX11_evenings 66 = .ok (.ldc2_w 323, 3) := by decide +kernel
theorem dX11_evenings_69 : decode cX11_evenings 69 = .ok (.lrem, 1) := by decide +kernel
theorem dX11_evenings_70 : decode cX11_evenings 70 = .ok (.lstore_n 3, 1) := by decide +kernel
theorem dX11_evenings_71 : decode cX11_evenings 71 = .ok (.aload_n 0, 1) := by decide +kernel
theorem dX11_evenings_72 : decode cX11_evenings 72 = .ok (.invokevirtual 79, 3) := by decide +kernel
theorem dX11_evenings_75 : decode cX11_evenings 75 = .ok (.aload_n 0, 1) := by decide +kernel
theorem dX11_evenings_76 : decode cX11_evenings 76 = .ok (.lload_n 3, 1) := by decide +kernel
theorem dX11_evenings_77 : decode cX11_evenings 77 = .ok (.ldc2_w 325, 3) := by decide +kernel
theorem dX11_evenings_80 : decode cX11_evenings 80 = .ok (.ldiv, 1) := by decide +kernel
theorem dX11_evenings_81 : decode cX11_evenings 81 = .ok (.aload_n 0, 1) := by decide +kernel
theorem dX11_evenings_82 : decode cX11_evenings 82 = .ok (.getfield 60, 3) := by decide +kernel
theorem dX11_evenings_85 : decode cX11_evenings 85 = .ok (.i2l, 1) := by decide +kernel
theorem dX11_evenings_86 : decode cX11_evenings 86 = .ok (.lrem, 1) := by decide +kernel
theorem dX11_evenings_87 : decode cX11_evenings 87 = .ok (.l2i, 1) := by decide +kernel
theorem dX11_evenings_88 : decode cX11_evenings 88 = .ok (.putfield 67, 3) := by decide +kernel
theorem dX11_evenings_91 : decode cX11_evenings 91 = .ok (.iload 5, 2) := by decide +kernel
theorem dX11_evenings_93 : decode cX11_evenings 93 = .ok (.aload_n 0, 1) := by decide +kernel
theorem dX11_evenings_94 : decode cX11_evenings 94 = .ok (.lload_n 3, 1) := by decide +kernel
theorem dX11_evenings_95 : decode cX11_evenings 95 = .ok (.ldc2_w 327, 3) := by decide +kernel
theorem dX11_evenings_98 : decode cX11_evenings 98 = .ok (.ldiv, 1) := by decide +kernel
theorem dX11_evenings_99 : decode cX11_evenings 99 = .ok (.ldc2_w 329, 3) := by decide +kernel
theorem dX11_evenings_102 : decode cX11_evenings 102 = .ok (.lrem, 1) := by decide +kernel
theorem dX11_evenings_103 : decode cX11_evenings 103 = .ok (.l2i, 1) := by decide +kernel
theorem dX11_evenings_104 : decode cX11_evenings 104 = .ok (.aload_n 0, 1) := by decide +kernel
theorem dX11_evenings_105 : decode cX11_evenings 105 = .ok (.getfield 64, 3) := by decide +kernel
theorem dX11_evenings_108 : decode cX11_evenings 108 = .ok (.invokevirtual 284, 3) := by decide +kernel
theorem dX11_evenings_111 : decode cX11_evenings 111 = .ok (.iadd, 1) := by decide +kernel
theorem dX11_evenings_112 : decode cX11_evenings 112 = .ok (.istore 5, 2) := by decide +kernel
theorem dX11_evenings_114 : decode cX11_evenings 114 = .ok (.iinc 6 1, 3) := by decide +kernel
theorem dX11_evenings_117 : decode cX11_evenings 117 = .ok (.goto (-73), 3) := by decide +kernel
theorem dX11_evenings_120 : decode cX11_evenings 120 = .ok (.aload_n 0, 1) := by decide +kernel
theorem dX11_evenings_121 : decode cX11_evenings 121 = .ok (.aload_n 0, 1) := by decide +kernel
theorem dX11_evenings_122 : decode cX11_evenings 122 = .ok (.getfield 50, 3) := by decide +kernel
theorem dX11_evenings_125 : decode cX11_evenings 125 = .ok (.iconst 0, 1) := by decide +kernel
theorem dX11_evenings_126 : decode cX11_evenings 126 = .ok (.invokevirtual 259, 3) := by decide +kernel
theorem dX11_evenings_129 : decode cX11_evenings 129 = .ok (.iload 5, 2) := by decide +kernel
theorem dX11_evenings_131 : decode cX11_evenings 131 = .ok (.ireturn, 1) := by decide +kernel
theorem dX11_part_0 : decode cX11_part 0 = .ok (.iload_n 1, 1) := by decide +kernel
theorem dX11_part_1 : decode cX11_part 1 = .ok (.iconst 0, 1) := by decide +kernel
theorem dX11_part_2 : decode cX11_part 2 = .ok (.iconst 1, 1) := by decide +kernel
theorem dX11_part_3 : decode cX11_part 3 = .ok (.invokestatic 91, 3) := by decide +kernel
theorem dX11_part_6 : decode cX11_part 6 = .ok (.ifCond .ne 9, 3) := by decide +kernel
theorem dX11_part_9 : decode cX11_part 9 = .ok (.aload_n 0, 1) := by decide +kernel
theorem dX11_part_10 : decode cX11_part 10 = .ok (.invokevirtual 106, 3) := by decide +kernel
theorem dX11_part_13 : decode cX11_part 13 = .ok (.i2l, 1) := by decide +kernel
theorem dX11_part_14 : decode cX11_part 14 = .ok (.lreturn, 1) := by decide +kernel
theorem dX11_part_15 : decode cX11_part 15 = .ok (.iload_n 1, 1) := by decide +kernel
theorem dX11_part_16 : decode cX11_part 16 = .ok (.ifCond .ne 10, 3) := by decide +kernel
theorem dX11_part_19 : decode cX11_part 19 = .ok (.aload_n 0, 1) := by decide +kernel
theorem dX11_part_20 : decode cX11_part 20 = .ok (.getfield 290, 3) := by decide +kernel
theorem dX11_part_23 : decode cX11_part 23 = .ok (.goto 7, 3) := by decide +kernel
theorem dX11_part_26 : decode cX11_part 26 = .ok (.aload_n 0, 1) := by decide +kernel
theorem dX11_part_27 : decode cX11_part 27 = .ok (.getfield 40, 3) := by decide +kernel
theorem dX11_part_30 : decode cX11_part 30 = .ok (.lreturn, 1) := by decide +kernel
theorem dX11_layAll_0 : decode cX11_layAll 0 = .ok (.aload_n 1, 1) := by decide +kernel
theorem dX11_layAll_1 : decode cX11_layAll 1 = .ok (.iload_n 2, 1) := by decide +kernel
theorem dX11_layAll_2 : decode cX11_layAll 2 = .ok (.iconst 1, 1) := by decide +kernel
theorem dX11_layAll_3 : decode cX11_layAll 3 = .ok (.iastore, 1) := by decide +kernel
theorem dX11_layAll_4 : decode cX11_layAll 4 = .ok (.aload_n 1, 1) := by decide +kernel
theorem dX11_layAll_5 : decode cX11_layAll 5 = .ok (.iload_n 2, 1) := by decide +kernel
theorem dX11_layAll_6 : decode cX11_layAll 6 = .ok (.iconst 1, 1) := by decide +kernel
theorem dX11_layAll_7 : decode cX11_layAll 7 = .ok (.iadd, 1) := by decide +kernel
theorem dX11_layAll_8 : decode cX11_layAll 8 = .ok (.aload_n 0, 1) := by decide +kernel
theorem dX11_layAll_9 : decode cX11_layAll 9 = .ok (.getfield 60, 3) := by decide +kernel
theorem dX11_layAll_12 : decode cX11_layAll 12 = .ok (.iastore, 1) := by decide +kernel
theorem dX11_layAll_13 : decode cX11_layAll 13 = .ok (.aload_n 1, 1) := by decide +kernel
theorem dX11_layAll_14 : decode cX11_layAll 14 = .ok (.iload_n 2, 1) := by decide +kernel
theorem dX11_layAll_15 : decode cX11_layAll 15 = .ok (.iconst 2, 1) := by decide +kernel
theorem dX11_layAll_16 : decode cX11_layAll 16 = .ok (.iadd, 1) := by decide +kernel
theorem dX11_layAll_17 : decode cX11_layAll 17 = .ok (.aload_n 0, 1) := by decide +kernel
theorem dX11_layAll_18 : decode cX11_layAll 18 = .ok (.getfield 64, 3) := by decide +kernel
theorem dX11_layAll_21 : decode cX11_layAll 21 = .ok (.iastore, 1) := by decide +kernel
theorem dX11_layAll_22 : decode cX11_layAll 22 = .ok (.aload_n 1, 1) := by decide +kernel
theorem dX11_layAll_23 : decode cX11_layAll 23 = .ok (.iload_n 2, 1) := by decide +kernel
theorem dX11_layAll_24 : decode cX11_layAll 24 = .ok (.iconst 3, 1) := by decide +kernel
theorem dX11_layAll_25 : decode cX11_layAll 25 = .ok (.iadd, 1) := by decide +kernel
theorem dX11_layAll_26 : decode cX11_layAll 26 = .ok (.aload_n 0, 1) := by decide +kernel
theorem dX11_layAll_27 : decode cX11_layAll 27 = .ok (.getfield 70, 3) := by decide +kernel
theorem dX11_layAll_30 : decode cX11_layAll 30 = .ok (.iastore, 1) := by decide +kernel
theorem dX11_layAll_31 : decode cX11_layAll 31 = .ok (.aload_n 1, 1) := by decide +kernel
theorem dX11_layAll_32 : decode cX11_layAll 32 = .ok (.iload_n 2, 1) := by decide +kernel
theorem dX11_layAll_33 : decode cX11_layAll 33 = .ok (.iconst 4, 1) := by decide +kernel
theorem dX11_layAll_34 : decode cX11_layAll 34 = .ok (.iadd, 1) := by decide +kernel
theorem dX11_layAll_35 : decode cX11_layAll 35 = .ok (.aload_n 0, 1) := by decide +kernel
theorem dX11_layAll_36 : decode cX11_layAll 36 = .ok (.getfield 73, 3) := by decide +kernel
theorem dX11_layAll_39 : decode cX11_layAll 39 = .ok (.iastore, 1) := by decide +kernel
theorem dX11_layAll_40 : decode cX11_layAll 40 = .ok (.aload_n 1, 1) := by decide +kernel
theorem dX11_layAll_41 : decode cX11_layAll 41 = .ok (.iload_n 2, 1) := by decide +kernel
theorem dX11_layAll_42 : decode cX11_layAll 42 = .ok (.iconst 5, 1) := by decide +kernel
theorem dX11_layAll_43 : decode cX11_layAll 43 = .ok (.iadd, 1) := by decide +kernel
theorem dX11_layAll_44 : decode cX11_layAll 44 = .ok (.aload_n 0, 1) := by decide +kernel
theorem dX11_layAll_45 : decode cX11_layAll 45 = .ok (.getfield 76, 3) := by decide +kernel
theorem dX11_layAll_48 : decode cX11_layAll 48 = .ok (.iastore, 1) := by decide +kernel
theorem dX11_layAll_49 : decode cX11_layAll 49 = .ok (.aload_n 0, 1) := by decide +kernel
theorem dX11_layAll_50 : decode cX11_layAll 50 = .ok (.aload_n 1, 1) := by decide +kernel
theorem dX11_layAll_51 : decode cX11_layAll 51 = .ok (.iload_n 2, 1) := by decide +kernel
theorem dX11_layAll_52 : decode cX11_layAll 52 = .ok (.bipush 6, 2) := by decide +kernel
theorem dX11_layAll_54 : decode cX11_layAll 54 = .ok (.iadd, 1) := by decide +kernel
theorem dX11_layAll_55 : decode cX11_layAll 55 = .ok (.invokevirtual 244, 3) := by decide +kernel
theorem dX11_layAll_58 : decode cX11_layAll 58 = .ok (.iconst 0, 1) := by decide +kernel
theorem dX11_layAll_59 : decode cX11_layAll 59 = .ok (.istore_n 3, 1) := by decide +kernel
theorem dX11_layAll_60 : decode cX11_layAll 60 = .ok (.iload_n 3, 1) := by decide +kernel
theorem dX11_layAll_61 : decode cX11_layAll 61 = .ok (.bipush 8, 2) := by decide +kernel
theorem dX11_layAll_63 : decode cX11_layAll 63 = .ok (.if_icmp .ge 23, 3) := by decide +kernel
theorem dX11_layAll_66 : decode cX11_layAll 66 = .ok (.aload_n 1, 1) := by decide +kernel
theorem dX11_layAll_67 : decode cX11_layAll 67 = .ok (.iload_n 2, 1) := by decide +kernel
theorem dX11_layAll_68 : decode cX11_layAll 68 = .ok (.bipush 10, 2) := by decide +kernel
theorem dX11_layAll_70 : decode cX11_layAll 70 = .ok (.iadd, 1) := by decide +kernel
theorem dX11_layAll_71 : decode cX11_layAll 71 = .ok (.iload_n 3, 1) := by decide +kernel
theorem dX11_layAll_72 : decode cX11_layAll 72 = .ok (.iadd, 1) := by decide +kernel
theorem dX11_layAll_73 : decode cX11_layAll 73 = .ok (.aload_n 0, 1) := by decide +kernel
theorem dX11_layAll_74 : decode cX11_layAll 74 = .ok (.getfield 13, 3) := by decide +kernel
theorem dX11_layAll_77 : decode cX11_layAll 77 = .ok (.iload_n 3, 1) := by decide +kernel
theorem dX11_layAll_78 : decode cX11_layAll 78 = .ok (.iaload, 1) := by decide +kernel
theorem dX11_layAll_79 : decode cX11_layAll 79 = .ok (.iastore, 1) := by decide +kernel
theorem dX11_layAll_80 : decode cX11_layAll 80 = .ok (.iinc 3 1, 3) := by decide +kernel
theorem dX11_layAll_83 : decode cX11_layAll 83 = .ok (.goto (-23), 3) := by decide +kernel
theorem dX11_layAll_86 : decode cX11_layAll 86 = .ok (.iconst 0, 1) := by decide +kernel
theorem dX11_layAll_87 : decode cX11_layAll 87 = .ok (.istore_n 3, 1) := by decide +kernel
theorem dX11_layAll_88 : decode cX11_layAll 88 = .ok (.iload_n 3, 1) := by decide +kernel
theorem dX11_layAll_89 : decode cX11_layAll 89 = .ok (.bipush 24, 2) := by decide +kernel
theorem dX11_layAll_91 : decode cX11_layAll 91 = .ok (.if_icmp .ge 23, 3) := by decide +kernel
theorem dX11_layAll_94 : decode cX11_layAll 94 = .ok (.aload_n 1, 1) := by decide +kernel
theorem dX11_layAll_95 : decode cX11_layAll 95 = .ok (.iload_n 2, 1) := by decide +kernel
theorem dX11_layAll_96 : decode cX11_layAll 96 = .ok (.bipush 18, 2) := by decide +kernel
theorem dX11_layAll_98 : decode cX11_layAll 98 = .ok (.iadd, 1) := by decide +kernel
theorem dX11_layAll_99 : decode cX11_layAll 99 = .ok (.iload_n 3, 1) := by decide +kernel
theorem dX11_layAll_100 : decode cX11_layAll 100 = .ok (.iadd, 1) := by decide +kernel
theorem dX11_layAll_101 : decode cX11_layAll 101 = .ok (.aload_n 0, 1) := by decide +kernel
theorem dX11_layAll_102 : decode cX11_layAll 102 = .ok (.getfield 16, 3) := by decide +kernel
theorem dX11_layAll_105 : decode cX11_layAll 105 = .ok (.iload_n 3, 1) := by decide +kernel
theorem dX11_layAll_106 : decode cX11_layAll 106 = .ok (.iaload, 1) := by decide +kernel
theorem dX11_layAll_107 : decode cX11_layAll 107 = .ok (.iastore, 1) := by decide +kernel
theorem dX11_layAll_108 : decode cX11_layAll 108 = .ok (.iinc 3 1, 3) := by decide +kernel
theorem dX11_layAll_111 : decode cX11_layAll 111 = .ok (.goto (-23), 3) := by decide +kernel
theorem dX11_layAll_114 : decode cX11_layAll 114 = .ok (.iconst 0, 1) := by decide +kernel
theorem dX11_layAll_115 : decode cX11_layAll 115 = .ok (.istore_n 3, 1) := by decide +kernel
theorem dX11_layAll_116 : decode cX11_layAll 116 = .ok (.iload_n 3, 1) := by decide +kernel
theorem dX11_layAll_117 : decode cX11_layAll 117 = .ok (.bipush 18, 2) := by decide +kernel
theorem dX11_layAll_119 : decode cX11_layAll 119 = .ok (.if_icmp .ge 23, 3) := by decide +kernel
theorem dX11_layAll_122 : decode cX11_layAll 122 = .ok (.aload_n 1, 1) := by decide +kernel
theorem dX11_layAll_123 : decode cX11_layAll 123 = .ok (.iload_n 2, 1) := by decide +kernel
theorem dX11_layAll_124 : decode cX11_layAll 124 = .ok (.bipush 42, 2) := by decide +kernel
theorem dX11_layAll_126 : decode cX11_layAll 126 = .ok (.iadd, 1) := by decide +kernel
theorem dX11_layAll_127 : decode cX11_layAll 127 = .ok (.iload_n 3, 1) := by decide +kernel
theorem dX11_layAll_128 : decode cX11_layAll 128 = .ok (.iadd, 1) := by decide +kernel
theorem dX11_layAll_129 : decode cX11_layAll 129 = .ok (.aload_n 0, 1) := by decide +kernel
theorem dX11_layAll_130 : decode cX11_layAll 130 = .ok (.getfield 19, 3) := by decide +kernel
theorem dX11_layAll_133 : decode cX11_layAll 133 = .ok (.iload_n 3, 1) := by decide +kernel
theorem dX11_layAll_134 : decode cX11_layAll 134 = .ok (.iaload, 1) := by decide +kernel
theorem dX11_layAll_135 : decode cX11_layAll 135 = .ok (.iastore, 1) := by decide +kernel
theorem dX11_layAll_136 : decode cX11_layAll 136 = .ok (.iinc 3 1, 3) := by decide +kernel
theorem dX11_layAll_139 : decode cX11_layAll 139 = .ok (.goto (-23), 3) := by decide +kernel
theorem dX11_layAll_142 : decode cX11_layAll 142 = .ok (.iconst 0, 1) := by decide +kernel
theorem dX11_layAll_143 : decode cX11_layAll 143 = .ok (.istore_n 3, 1) := by decide +kernel
theorem dX11_layAll_144 : decode cX11_layAll 144 = .ok (.iload_n 3, 1) := by decide +kernel
theorem dX11_layAll_145 : decode cX11_layAll 145 = .ok (.bipush 32, 2) := by decide +kernel
theorem dX11_layAll_147 : decode cX11_layAll 147 = .ok (.if_icmp .ge 23, 3) := by decide +kernel
theorem dX11_layAll_150 : decode cX11_layAll 150 = .ok (.aload_n 1, 1) := by decide +kernel
theorem dX11_layAll_151 : decode cX11_layAll 151 = .ok (.iload_n 2, 1) := by decide +kernel
theorem dX11_layAll_152 : decode cX11_layAll 152 = .ok (.bipush 60, 2) := by decide +kernel
theorem dX11_layAll_154 : decode cX11_layAll 154 = .ok (.iadd, 1) := by decide +kernel
theorem dX11_layAll_155 : decode cX11_layAll 155 = .ok (.iload_n 3, 1) := by decide +kernel
theorem dX11_layAll_156 : decode cX11_layAll 156 = .ok (.iadd, 1) := by decide +kernel
theorem dX11_layAll_157 : decode cX11_layAll 157 = .ok (.aload_n 0, 1) := by decide +kernel
theorem dX11_layAll_158 : decode cX11_layAll 158 = .ok (.getfield 31, 3) := by decide +kernel
theorem dX11_layAll_161 : decode cX11_layAll 161 = .ok (.iload_n 3, 1) := by decide +kernel
theorem dX11_layAll_162 : decode cX11_layAll 162 = .ok (.iaload, 1) := by decide +kernel
theorem dX11_layAll_163 : decode cX11_layAll 163 = .ok (.iastore, 1) := by decide +kernel
theorem dX11_layAll_164 : decode cX11_layAll 164 = .ok (.iinc 3 1, 3) := by decide +kernel
theorem dX11_layAll_167 : decode cX11_layAll 167 = .ok (.goto (-23), 3) := by decide +kernel
theorem dX11_layAll_170 : decode cX11_layAll 170 = .ok (.return_, 1) := by decide +kernel
theorem dX11_takeAll_0 : decode cX11_takeAll 0 = .ok (.aload_n 0, 1) := by decide +kernel
