theorem dX10_note_67 : decode cX10_note 67 = .ok (.invokevirtual 94, 3) := by decide +kernel
theorem dX10_note_70 : decode cX10_note 70 = .ok (.ireturn, 1) := by decide +kernel
theorem dX10_note_71 : decode cX10_note 71 = .ok (.aload_n 0, 1) := by decide +kernel
theorem dX10_note_72 : decode cX10_note 72 = .ok (.getfield 10, 3) := by decide +kernel
theorem dX10_note_75 : decode cX10_note 75 = .ok (.getfield 228, 3) := by decide +kernel
theorem dX10_note_78 : decode cX10_note 78 = .ok (.iload_n 1, 1) := by decide +kernel
theorem dX10_note_79 : decode cX10_note 79 = .ok (.iload_n 2, 1) := by decide +kernel
theorem dX10_note_80 : decode cX10_note 80 = .ok (.iload_n 3, 1) := by decide +kernel
theorem dX10_note_81 : decode cX10_note 81 = .ok (.iload 4, 2) := by decide +kernel
theorem dX10_note_83 : decode cX10_note 83 = .ok (.invokevirtual 235, 3) := by decide +kernel
theorem dX10_note_86 : decode cX10_note 86 = .ok (.aload_n 0, 1) := by decide +kernel
theorem dX10_note_87 : decode cX10_note 87 = .ok (.getfield 10, 3) := by decide +kernel
theorem dX10_note_90 : decode cX10_note 90 = .ok (.getfield 228, 3) := by decide +kernel
theorem dX10_note_93 : decode cX10_note 93 = .ok (.getfield 84, 3) := by decide +kernel
theorem dX10_note_96 : decode cX10_note 96 = .ok (.ireturn, 1) := by decide +kernel
theorem dX10_mark_0 : decode cX10_mark 0 = .ok (.aload_n 0, 1) := by decide +kernel
theorem dX10_mark_1 : decode cX10_mark 1 = .ok (.iload_n 1, 1) := by decide +kernel
theorem dX10_mark_2 : decode cX10_mark 2 = .ok (.invokevirtual 225, 3) := by decide +kernel
theorem dX10_mark_5 : decode cX10_mark 5 = .ok (.ifCond .eq 26, 3) := by decide +kernel
theorem dX10_mark_8 : decode cX10_mark 8 = .ok (.iload_n 2, 1) := by decide +kernel
theorem dX10_mark_9 : decode cX10_mark 9 = .ok (.sipush 1024, 3) := by decide +kernel
theorem dX10_mark_12 : decode cX10_mark 12 = .ok (.invokestatic 55, 3) := by decide +kernel
theorem dX10_mark_15 : decode cX10_mark 15 = .ok (.ifCond .eq 16, 3) := by decide +kernel
theorem dX10_mark_18 : decode cX10_mark 18 = .ok (.iload_n 3, 1) := by decide +kernel
theorem dX10_mark_19 : decode cX10_mark 19 = .ok (.bipush 10, 2) := by decide +kernel
theorem dX10_mark_21 : decode cX10_mark 21 = .ok (.invokestatic 55, 3) := by decide +kernel
theorem dX10_mark_24 : decode cX10_mark 24 = .ok (.ifCond .eq 7, 3) := by decide +kernel
theorem dX10_mark_27 : decode cX10_mark 27 = .ok (.iconst 1, 1) := by decide +kernel
theorem dX10_mark_28 : decode cX10_mark 28 = .ok (.goto 4, 3) := by decide +kernel
theorem dX10_mark_31 : decode cX10_mark 31 = .ok (.iconst 0, 1) := by decide +kernel
theorem dX10_mark_32 : decode cX10_mark 32 = .ok (.istore 4, 2) := by decide +kernel
theorem dX10_mark_34 : decode cX10_mark 34 = .ok (.iload 4, 2) := by decide +kernel
theorem dX10_mark_36 : decode cX10_mark 36 = .ok (.ifCond .ne 8, 3) := by decide +kernel
theorem dX10_mark_39 : decode cX10_mark 39 = .ok (.aload_n 0, 1) := by decide +kernel
theorem dX10_mark_40 : decode cX10_mark 40 = .ok (.invokevirtual 59, 3) := by decide +kernel
theorem dX10_mark_43 : decode cX10_mark 43 = .ok (.ireturn, 1) := by decide +kernel
theorem dX10_mark_44 : decode cX10_mark 44 = .ok (.aload_n 0, 1) := by decide +kernel
theorem dX10_mark_45 : decode cX10_mark 45 = .ok (.getfield 10, 3) := by decide +kernel
theorem dX10_mark_48 : decode cX10_mark 48 = .ok (.getfield 238, 3) := by decide +kernel
theorem dX10_mark_51 : decode cX10_mark 51 = .ok (.invokevirtual 231, 3) := by decide +kernel
theorem dX10_mark_54 : decode cX10_mark 54 = .ok (.ifCond .eq 8, 3) := by decide +kernel
theorem dX10_mark_57 : decode cX10_mark 57 = .ok (.aload_n 0, 1) := by decide +kernel
theorem dX10_mark_58 : decode cX10_mark 58 = .ok (.invokevirtual 94, 3) := by decide +kernel
theorem dX10_mark_61 : decode cX10_mark 61 = .ok (.ireturn, 1) := by decide +kernel
theorem dX10_mark_62 : decode cX10_mark 62 = .ok (.aload_n 0, 1) := by decide +kernel
theorem dX10_mark_63 : decode cX10_mark 63 = .ok (.getfield 10, 3) := by decide +kernel
theorem dX10_mark_66 : decode cX10_mark 66 = .ok (.getfield 238, 3) := by decide +kernel
theorem dX10_mark_69 : decode cX10_mark 69 = .ok (.iload_n 1, 1) := by decide +kernel
theorem dX10_mark_70 : decode cX10_mark 70 = .ok (.iload_n 2, 1) := by decide +kernel
theorem dX10_mark_71 : decode cX10_mark 71 = .ok (.iload_n 3, 1) := by decide +kernel
theorem dX10_mark_72 : decode cX10_mark 72 = .ok (.iconst 0, 1) := by decide +kernel
theorem dX10_mark_73 : decode cX10_mark 73 = .ok (.invokevirtual 235, 3) := by decide +kernel
theorem dX10_mark_76 : decode cX10_mark 76 = .ok (.aload_n 0, 1) := by decide +kernel
theorem dX10_mark_77 : decode cX10_mark 77 = .ok (.getfield 10, 3) := by decide +kernel
theorem dX10_mark_80 : decode cX10_mark 80 = .ok (.getfield 238, 3) := by decide +kernel
theorem dX10_mark_83 : decode cX10_mark 83 = .ok (.getfield 84, 3) := by decide +kernel
theorem dX10_mark_86 : decode cX10_mark 86 = .ok (.ireturn, 1) := by decide +kernel
theorem dX10_forget_0 : decode cX10_forget 0 = .ok (.iload_n 1, 1) := by decide +kernel
theorem dX10_forget_1 : decode cX10_forget 1 = .ok (.iconst 2, 1) := by decide +kernel
theorem dX10_forget_2 : decode cX10_forget 2 = .ok (.invokestatic 55, 3) := by decide +kernel
theorem dX10_forget_5 : decode cX10_forget 5 = .ok (.ifCond .ne 8, 3) := by decide +kernel
theorem dX10_forget_8 : decode cX10_forget 8 = .ok (.aload_n 0, 1) := by decide +kernel
theorem dX10_forget_9 : decode cX10_forget 9 = .ok (.invokevirtual 59, 3) := by decide +kernel
theorem dX10_forget_12 : decode cX10_forget 12 = .ok (.ireturn, 1) := by decide +kernel
theorem dX10_forget_13 : decode cX10_forget 13 = .ok (.iload_n 1, 1) := by decide +kernel
theorem dX10_forget_14 : decode cX10_forget 14 = .ok (.ifCond .ne 13, 3) := by decide +kernel
theorem dX10_forget_17 : decode cX10_forget 17 = .ok (.aload_n 0, 1) := by decide +kernel
theorem dX10_forget_18 : decode cX10_forget 18 = .ok (.getfield 10, 3) := by decide +kernel
theorem dX10_forget_21 : decode cX10_forget 21 = .ok (.getfield 228, 3) := by decide +kernel
theorem dX10_forget_24 : decode cX10_forget 24 = .ok (.goto 10, 3) := by decide +kernel
theorem dX10_forget_27 : decode cX10_forget 27 = .ok (.aload_n 0, 1) := by decide +kernel
theorem dX10_forget_28 : decode cX10_forget 28 = .ok (.getfield 10, 3) := by decide +kernel
theorem dX10_forget_31 : decode cX10_forget 31 = .ok (.getfield 238, 3) := by decide +kernel
theorem dX10_forget_34 : decode cX10_forget 34 = .ok (.astore_n 2, 1) := by decide +kernel
theorem dX10_forget_35 : decode cX10_forget 35 = .ok (.aload_n 2, 1) := by decide +kernel
theorem dX10_forget_36 : decode cX10_forget 36 = .ok (.getfield 84, 3) := by decide +kernel
theorem dX10_forget_39 : decode cX10_forget 39 = .ok (.istore_n 3, 1) := by decide +kernel
theorem dX10_forget_40 : decode cX10_forget 40 = .ok (.aload_n 2, 1) := by decide +kernel
theorem dX10_forget_41 : decode cX10_forget 41 = .ok (.iconst 0, 1) := by decide +kernel
theorem dX10_forget_42 : decode cX10_forget 42 = .ok (.putfield 84, 3) := by decide +kernel
theorem dX10_forget_45 : decode cX10_forget 45 = .ok (.iload_n 3, 1) := by decide +kernel
theorem dX10_forget_46 : decode cX10_forget 46 = .ok (.ireturn, 1) := by decide +kernel
theorem dX10_is_0 : decode cX10_is 0 = .ok (.aload_n 0, 1) := by decide +kernel
theorem dX10_is_1 : decode cX10_is 1 = .ok (.invokevirtual 241, 3) := by decide +kernel
theorem dX10_is_4 : decode cX10_is 4 = .ok (.ireturn, 1) := by decide +kernel
theorem dX10_look_0 : decode cX10_look 0 = .ok (.aload_n 0, 1) := by decide +kernel
theorem dX10_look_1 : decode cX10_look 1 = .ok (.invokevirtual 241, 3) := by decide +kernel
theorem dX10_look_4 : decode cX10_look 4 = .ok (.istore_n 1, 1) := by decide +kernel
theorem dX10_look_5 : decode cX10_look 5 = .ok (.iload_n 1, 1) := by decide +kernel
theorem dX10_look_6 : decode cX10_look 6 = .ok (.ifCond .eq 16, 3) := by decide +kernel
theorem dX10_look_9 : decode cX10_look 9 = .ok (.aload_n 0, 1) := by decide +kernel
theorem dX10_look_10 : decode cX10_look 10 = .ok (.getfield 10, 3) := by decide +kernel
theorem dX10_look_13 : decode cX10_look 13 = .ok (.getfield 123, 3) := by decide +kernel
theorem dX10_look_16 : decode cX10_look 16 = .ok (.getfield 154, 3) := by decide +kernel
theorem dX10_look_19 : decode cX10_look 19 = .ok (.ifCond .ne 5, 3) := by decide +kernel
theorem dX10_look_22 : decode cX10_look 22 = .ok (.iconst (-1), 1) := by decide +kernel
theorem dX10_look_23 : decode cX10_look 23 = .ok (.ireturn, 1) := by decide +kernel
theorem dX10_look_24 : decode cX10_look 24 = .ok (.iconst (-1), 1) := by decide +kernel
theorem dX10_look_25 : decode cX10_look 25 = .ok (.istore_n 2, 1) := by decide +kernel
theorem dX10_look_26 : decode cX10_look 26 = .ok (.bipush 7, 2) := by decide +kernel
theorem dX10_look_28 : decode cX10_look 28 = .ok (.istore_n 3, 1) := by decide +kernel
theorem dX10_look_29 : decode cX10_look 29 = .ok (.iconst 0, 1) := by decide +kernel
theorem dX10_look_30 : decode cX10_look 30 = .ok (.istore 4, 2) := by decide +kernel
theorem dX10_look_32 : decode cX10_look 32 = .ok (.iload 4, 2) := by decide +kernel
theorem dX10_look_34 : decode cX10_look 34 = .ok (.bipush 10, 2) := by decide +kernel
theorem dX10_look_36 : decode cX10_look 36 = .ok (.if_icmp .ge 59, 3) := by decide +kernel
theorem dX10_look_39 : decode cX10_look 39 = .ok (.iconst 0, 1) := by decide +kernel
theorem dX10_look_40 : decode cX10_look 40 = .ok (.istore 5, 2) := by decide +kernel
theorem dX10_look_42 : decode cX10_look 42 = .ok (.iload 5, 2) := by decide +kernel
theorem dX10_look_44 : decode cX10_look 44 = .ok (.bipush 6, 2) := by decide +kernel
theorem dX10_look_46 : decode cX10_look 46 = .ok (.if_icmp .ge 24, 3) := by decide +kernel
theorem dX10_look_49 : decode cX10_look 49 = .ok (.aload_n 0, 1) := by decide +kernel
theorem dX10_look_50 : decode cX10_look 50 = .ok (.getfield 52, 3) := by decide +kernel
theorem dX10_look_53 : decode cX10_look 53 = .ok (.iload 5, 2) := by decide +kernel
theorem dX10_look_55 : decode cX10_look 55 = .ok (.aload_n 0, 1) := by decide +kernel
theorem dX10_look_56 : decode cX10_look 56 = .ok (.iload 5, 2) := by decide +kernel
theorem dX10_look_58 : decode cX10_look 58 = .ok (.iload 4, 2) := by decide +kernel
theorem dX10_look_60 : decode cX10_look 60 = .ok (.invokevirtual 161, 3) := by decide +kernel
theorem dX10_look_63 : decode cX10_look 63 = .ok (.iastore, 1) := by decide +kernel
theorem dX10_look_64 : decode cX10_look 64 = .ok (.iinc 5 1, 3) := by decide +kernel
theorem dX10_look_67 : decode cX10_look 67 = .ok (.goto (-25), 3) := by decide +kernel
theorem dX10_look_70 : decode cX10_look 70 = .ok (.aload_n 0, 1) := by decide +kernel
theorem dX10_look_71 : decode cX10_look 71 = .ok (.iload_n 1, 1) := by decide +kernel
theorem dX10_look_72 : decode cX10_look 72 = .ok (.invokevirtual 244, 3) := by decide +kernel
theorem dX10_look_75 : decode cX10_look 75 = .ok (.istore 5, 2) := by decide +kernel
theorem dX10_look_77 : decode cX10_look 77 = .ok (.iload 5, 2) := by decide +kernel
theorem dX10_look_79 : decode cX10_look 79 = .ok (.iload_n 3, 1) := by decide +kernel
theorem dX10_look_80 : decode cX10_look 80 = .ok (.if_icmp .ge 9, 3) := by decide +kernel
theorem dX10_look_83 : decode cX10_look 83 = .ok (.iload 4, 2) := by decide +kernel
theorem dX10_look_85 : decode cX10_look 85 = .ok (.istore_n 2, 1) := by decide +kernel
theorem dX10_look_86 : decode cX10_look 86 = .ok (.iload 5, 2) := by decide +kernel
theorem dX10_look_88 : decode cX10_look 88 = .ok (.istore_n 3, 1) := by decide +kernel
theorem dX10_look_89 : decode cX10_look 89 = .ok (.iinc 4 1, 3) := by decide +kernel
theorem dX10_look_92 : decode cX10_look 92 = .ok (.goto (-60), 3) := by decide +kernel
theorem dX10_look_95 : decode cX10_look 95 = .ok (.iload_n 2, 1) := by decide +kernel
theorem dX10_look_96 : decode cX10_look 96 = .ok (.ireturn, 1) := by decide +kernel
theorem dX10_kinds_0 : decode cX10_kinds 0 = .ok (.aload_n 0, 1) := by decide +kernel
theorem dX10_kinds_1 : decode cX10_kinds 1 = .ok (.invokevirtual 247, 3) := by decide +kernel
theorem dX10_kinds_4 : decode cX10_kinds 4 = .ok (.ireturn, 1) := by decide +kernel
theorem dX10_ask_0 : decode cX10_ask 0 = .ok (.aload_n 0, 1) := by decide +kernel
theorem dX10_ask_1 : decode cX10_ask 1 = .ok (.invokevirtual 247, 3) := by decide +kernel
theorem dX10_ask_4 : decode cX10_ask 4 = .ok (.istore_n 1, 1) := by decide +kernel
theorem dX10_ask_5 : decode cX10_ask 5 = .ok (.iload_n 1, 1) := by decide +kernel
theorem dX10_ask_6 : decode cX10_ask 6 = .ok (.ifCond .ne 5, 3) := by decide +kernel
theorem dX10_ask_9 : decode cX10_ask 9 = .ok (.iconst (-1), 1) := by decide +kernel
theorem dX10_ask_10 : decode cX10_ask 10 = .ok (.ireturn, 1) := by decide +kernel
theorem dX10_ask_11 : decode cX10_ask 11 = .ok (.iconst (-1), 1) := by decide +kernel
theorem dX10_ask_12 : decode cX10_ask 12 = .ok (.istore_n 2, 1) := by decide +kernel
theorem dX10_ask_13 : decode cX10_ask 13 = .ok (.bipush 7, 2) := by decide +kernel
theorem dX10_ask_15 : decode cX10_ask 15 = .ok (.istore_n 3, 1) := by decide +kernel
theorem dX10_ask_16 : decode cX10_ask 16 = .ok (.iconst 1, 1) := by decide +kernel
theorem dX10_ask_17 : decode cX10_ask 17 = .ok (.istore 4, 2) := by decide +kernel
theorem dX10_ask_19 : decode cX10_ask 19 = .ok (.iload 4, 2) := by decide +kernel
theorem dX10_ask_21 : decode cX10_ask 21 = .ok (.aload_n 0, 1) := by decide +kernel
theorem dX10_ask_22 : decode cX10_ask 22 = .ok (.getfield 10, 3) := by decide +kernel
theorem dX10_ask_25 : decode cX10_ask 25 = .ok (.getfield 63, 3) := by decide +kernel
theorem dX10_ask_28 : decode cX10_ask 28 = .ok (.invokevirtual 142, 3) := by decide +kernel
theorem dX10_ask_31 : decode cX10_ask 31 = .ok (.if_icmp .gt 75, 3) := by decide +kernel
theorem dX10_ask_34 : decode cX10_ask 34 = .ok (.iconst 0, 1) := by decide +kernel
theorem dX10_ask_35 : decode cX10_ask 35 = .ok (.istore 5, 2) := by decide +kernel
theorem dX10_ask_37 : decode cX10_ask 37 = .ok (.iload 5, 2) := by decide +kernel
theorem dX10_ask_39 : decode cX10_ask 39 = .ok (.bipush 6, 2) := by decide +kernel
theorem dX10_ask_41 : decode cX10_ask 41 = .ok (.if_icmp .ge 40, 3) := by decide +kernel
theorem dX10_ask_44 : decode cX10_ask 44 = .ok (.aload_n 0, 1) := by decide +kernel
theorem dX10_ask_45 : decode cX10_ask 45 = .ok (.getfield 52, 3) := by decide +kernel
theorem dX10_ask_48 : decode cX10_ask 48 = .ok (.iload 5, 2) := by decide +kernel
theorem dX10_ask_50 : decode cX10_ask 50 = .ok (.iload 5, 2) := by decide +kernel
theorem dX10_ask_52 : decode cX10_ask 52 = .ok (.aload_n 0, 1) := by decide +kernel
theorem dX10_ask_53 : decode cX10_ask 53 = .ok (.getfield 10, 3) := by decide +kernel
theorem dX10_ask_56 : decode cX10_ask 56 = .ok (.getfield 63, 3) := by decide +kernel
theorem dX10_ask_59 : decode cX10_ask 59 = .ok (.iload 4, 2) := by decide +kernel
theorem dX10_ask_61 : decode cX10_ask 61 = .ok (.aload_n 0, 1) := by decide +kernel
theorem dX10_ask_62 : decode cX10_ask 62 = .ok (.getfield 10, 3) := by decide +kernel
theorem dX10_ask_65 : decode cX10_ask 65 = .ok (.getfield 123, 3) := by decide +kernel
theorem dX10_ask_68 : decode cX10_ask 68 = .ok (.getfield 170, 3) := by decide +kernel
theorem dX10_ask_71 : decode cX10_ask 71 = .ok (.invokestatic 184, 3) := by decide +kernel
theorem dX10_ask_74 : decode cX10_ask 74 = .ok (.iastore, 1) := by decide +kernel
theorem dX10_ask_75 : decode cX10_ask 75 = .ok (.iinc 5 1, 3) := by decide +kernel
theorem dX10_ask_78 : decode cX10_ask 78 = .ok (.goto (-41), 3) := by decide +kernel
theorem dX10_ask_81 : decode cX10_ask 81 = .ok (.aload_n 0, 1) := by decide +kernel
theorem dX10_ask_82 : decode cX10_ask 82 = .ok (.iload_n 1, 1) := by decide +kernel
theorem dX10_ask_83 : decode cX10_ask 83 = .ok (.invokevirtual 244, 3) := by decide +kernel
theorem dX10_ask_86 : decode cX10_ask 86 = .ok (.istore 5, 2) := by decide +kernel
theorem dX10_ask_88 : decode cX10_ask 88 = .ok (.iload 5, 2) := by decide +kernel
theorem dX10_ask_90 : decode cX10_ask 90 = .ok (.iload_n 3, 1) := by decide +kernel
theorem dX10_ask_91 : decode cX10_ask 91 = .ok (.if_icmp .ge 9, 3) := by decide +kernel
theorem dX10_ask_94 : decode cX10_ask 94 = .ok (.iload 4, 2) := by decide +kernel
theorem dX10_ask_96 : decode cX10_ask 96 = .ok (.istore_n 2, 1) := by decide +kernel
theorem dX10_ask_97 : decode cX10_ask 97 = .ok (.iload 5, 2) := by decide +kernel
theorem dX10_ask_99 : decode cX10_ask 99 = .ok (.istore_n 3, 1) := by decide +kernel
theorem dX10_ask_100 : decode cX10_ask 100 = .ok (.iinc 4 1, 3) := by decide +kernel
theorem dX10_ask_103 : decode cX10_ask 103 = .ok (.goto (-84), 3) := by decide +kernel
theorem dX10_ask_106 : decode cX10_ask 106 = .ok (.iload_n 2, 1) := by decide +kernel
theorem dX10_ask_107 : decode cX10_ask 107 = .ok (.ireturn, 1) := by decide +kernel
theorem dX10_evenings_0 : decode cX10_evenings 0 = .ok (.iload_n 1, 1) := by decide +kernel
theorem dX10_evenings_1 : decode cX10_evenings 1 = .ok (.ldc 250, 2) := by decide +kernel
theorem dX10_evenings_3 : decode cX10_evenings 3 = .ok (.invokestatic 55, 3) := by decide +kernel
theorem dX10_evenings_6 : decode cX10_evenings 6 = .ok (.ifCond .eq 12, 3) := by decide +kernel
theorem dX10_evenings_9 : decode cX10_evenings 9 = .ok (.iload_n 2, 1) := by decide +kernel
theorem dX10_evenings_10 : decode cX10_evenings 10 = .ok (.bipush 61, 2) := by decide +kernel
theorem dX10_evenings_12 : decode cX10_evenings 12 = .ok (.invokestatic 55, 3) := by decide +kernel
theorem dX10_evenings_15 : decode cX10_evenings 15 = .ok (.ifCond .ne 8, 3) := by decide +kernel
theorem dX10_evenings_18 : decode cX10_evenings 18 = .ok (.aload_n 0, 1) := by decide +kernel
theorem dX10_evenings_19 : decode cX10_evenings 19 = .ok (.invokevirtual 59, 3) := by decide +kernel
theorem dX10_evenings_22 : decode cX10_evenings 22 = .ok (.ireturn, 1) := by decide +kernel
theorem dX10_evenings_23 : decode cX10_evenings 23 = .ok (.aload_n 0, 1) := by decide +kernel
theorem dX10_evenings_24 : decode cX10_evenings 24 = .ok (.getfield 10, 3) := by decide +kernel
theorem dX10_evenings_27 : decode cX10_evenings 27 = .ok (.getfield 63, 3) := by decide +kernel
theorem dX10_evenings_30 : decode cX10_evenings 30 = .ok (.getfield 67, 3) := by decide +kernel
theorem dX10_evenings_33 : decode cX10_evenings 33 = .ok (.istore_n 3, 1) := by decide +kernel
theorem dX10_evenings_34 : decode cX10_evenings 34 = .ok (.iload_n 3, 1) := by decide +kernel
theorem dX10_evenings_35 : decode cX10_evenings 35 = .ok (.ifCond .ne 5, 3) := by decide +kernel
theorem dX10_evenings_38 : decode cX10_evenings 38 = .ok (.iconst 0, 1) := by decide +kernel
theorem dX10_evenings_39 : decode cX10_evenings 39 = .ok (.ireturn, 1) := by decide +kernel
theorem dX10_evenings_40 : decode cX10_evenings 40 = .ok (.iconst 0, 1) := by decide +kernel
theorem dX10_evenings_41 : decode cX10_evenings 41 = .ok (.istore 4, 2) := by decide +kernel
theorem dX10_evenings_43 : decode cX10_evenings 43 = .ok (.iload_n 1, 1) := by decide +kernel
theorem dX10_evenings_44 : decode cX10_evenings 44 = .ok (.i2l, 1) := by decide +kernel
theorem dX10_evenings_45 : decode cX10_evenings 45 = .ok (.lstore 5, 2) := by decide +kernel
theorem dX10_evenings_47 : decode cX10_evenings 47 = .ok (.iconst 0, 1) := by decide +kernel
theorem dX10_evenings_48 : decode cX10_evenings 48 = .ok (.istore 7, 2) := by decide +kernel
theorem dX10_evenings_50 : decode cX10_evenings 50 = .ok (.iload 7, 2) := by decide +kernel
theorem dX10_evenings_52 : decode cX10_evenings 52 = .ok (.iload_n 2, 1) := by decide +kernel
theorem dX10_evenings_53 : decode cX10_evenings 53 = .ok (.if_icmp .ge 97, 3) := by decide +kernel
theorem dX10_evenings_56 : decode cX10_evenings 56 = .ok (.lload 5, 2) := by decide +kernel
theorem dX10_evenings_58 : decode cX10_evenings 58 = .ok (.ldc2_w 251, 3) := by decide +kernel
theorem dX10_evenings_61 : decode cX10_evenings 61 = .ok (.lmul, 1) := by decide +kernel
theorem dX10_evenings_62 : decode cX10_evenings 62 = .ok (.ldc2_w 253, 3) := by decide +kernel
theorem dX10_evenings_65 : decode cX10_evenings 65 = .ok (.ladd, 1) := by decide +kernel
theorem dX10_evenings_66 : decode cX10_evenings 66 = .ok (.ldc2_w 255, 3) := by decide +kernel
theorem dX10_evenings_69 : decode cX10_evenings 69 = .ok (.lrem, 1) := by decide +kernel
theorem dX10_evenings_70 : decode cX10_evenings 70 = .ok (.lstore 5, 2) := by decide +kernel
theorem dX10_evenings_72 : decode cX10_evenings 72 = .ok (.lload 5, 2) := by decide +kernel
theorem dX10_evenings_74 : decode cX10_evenings 74 = .ok (.ldc2_w 257, 3) := by decide +kernel
theorem dX10_evenings_77 : decode cX10_evenings 77 = .ok (.ldiv, 1) := by decide +kernel
theorem dX10_evenings_78 : decode cX10_evenings 78 = .ok (.iload_n 3, 1) := by decide +kernel
theorem dX10_evenings_79 : decode cX10_evenings 79 = .ok (.i2l, 1) := by decide +kernel
theorem dX10_evenings_80 : decode cX10_evenings 80 = .ok (.lrem, 1) := by decide +kernel
theorem dX10_evenings_81 : decode cX10_evenings 81 = .ok (.l2i, 1) := by decide +kernel
theorem dX10_evenings_82 : decode cX10_evenings 82 = .ok (.istore 8, 2) := by decide +kernel
theorem dX10_evenings_84 : decode cX10_evenings 84 = .ok (.lload 5, 2) := by decide +kernel
theorem dX10_evenings_86 : decode cX10_evenings 86 = .ok (.ldc2_w 259, 3) := by decide +kernel
theorem dX10_evenings_89 : decode cX10_evenings 89 = .ok (.ldiv, 1) := by decide +kernel
theorem dX10_evenings_90 : decode cX10_evenings 90 = .ok (.ldc2_w 261, 3) := by decide +kernel
theorem dX10_evenings_93 : decode cX10_evenings 93 = .ok (.lrem, 1) := by decide +kernel
theorem dX10_evenings_94 : decode cX10_evenings 94 = .ok (.l2i, 1) := by decide +kernel
theorem dX10_evenings_95 : decode cX10_evenings 95 = .ok (.istore 9, 2) := by decide +kernel
theorem dX10_evenings_97 : decode cX10_evenings 97 = .ok (.aload_n 0, 1) := by decide +kernel
theorem dX10_evenings_98 : decode cX10_evenings 98 = .ok (.getfield 44, 3) := by decide +kernel
theorem dX10_evenings_101 : decode cX10_evenings 101 = .ok (.aload_n 0, 1) := by decide +kernel
theorem dX10_evenings_102 : decode cX10_evenings 102 = .ok (.getfield 10, 3) := by decide +kernel
theorem dX10_evenings_105 : decode cX10_evenings 105 = .ok (.getfield 63, 3) := by decide +kernel
theorem dX10_evenings_108 : decode cX10_evenings 108 = .ok (.invokevirtual 142, 3) := by decide +kernel
theorem dX10_evenings_111 : decode cX10_evenings 111 = .ok (.invokevirtual 145, 3) := by decide +kernel
theorem dX10_evenings_114 : decode cX10_evenings 114 = .ok (.iload 4, 2) := by decide +kernel
theorem dX10_evenings_116 : decode cX10_evenings 116 = .ok (.aload_n 0, 1) := by decide +kernel
theorem dX10_evenings_117 : decode cX10_evenings 117 = .ok (.getfield 44, 3) := by decide +kernel
theorem dX10_evenings_120 : decode cX10_evenings 120 = .ok (.aload_n 0, 1) := by decide +kernel
theorem dX10_evenings_121 : decode cX10_evenings 121 = .ok (.getfield 10, 3) := by decide +kernel
theorem dX10_evenings_124 : decode cX10_evenings 124 = .ok (.getfield 63, 3) := by decide +kernel
theorem dX10_evenings_127 : decode cX10_evenings 127 = .ok (.iload 9, 2) := by decide +kernel
theorem dX10_evenings_129 : decode cX10_evenings 129 = .ok (.aload_n 0, 1) := by decide +kernel
theorem dX10_evenings_130 : decode cX10_evenings 130 = .ok (.getfield 10, 3) := by decide +kernel
theorem dX10_evenings_133 : decode cX10_evenings 133 = .ok (.getfield 77, 3) := by decide +kernel
theorem dX10_evenings_136 : decode cX10_evenings 136 = .ok (.iload 8, 2) := by decide +kernel
theorem dX10_evenings_138 : decode cX10_evenings 138 = .ok (.invokevirtual 193, 3) := by decide +kernel
theorem dX10_evenings_141 : decode cX10_evenings 141 = .ok (.iadd, 1) := by decide +kernel
theorem dX10_evenings_142 : decode cX10_evenings 142 = .ok (.istore 4, 2) := by decide +kernel
theorem dX10_evenings_144 : decode cX10_evenings 144 = .ok (.iinc 7 1, 3) := by decide +kernel
theorem dX10_evenings_147 : decode cX10_evenings 147 = .ok (.goto (-97), 3) := by decide +kernel
theorem dX10_evenings_150 : decode cX10_evenings 150 = .ok (.iload 4, 2) := by decide +kernel
theorem dX10_evenings_152 : decode cX10_evenings 152 = .ok (.ireturn, 1) := by decide +kernel
theorem dX10_part_0 : decode cX10_part 0 = .ok (.iload_n 1, 1) := by decide +kernel
theorem dX10_part_1 : decode cX10_part 1 = .ok (.iconst 2, 1) := by decide +kernel
theorem dX10_part_2 : decode cX10_part 2 = .ok (.invokestatic 55, 3) := by decide +kernel
theorem dX10_part_5 : decode cX10_part 5 = .ok (.ifCond .ne 9, 3) := by decide +kernel
theorem dX10_part_8 : decode cX10_part 8 = .ok (.aload_n 0, 1) := by decide +kernel
theorem dX10_part_9 : decode cX10_part 9 = .ok (.invokevirtual 59, 3) := by decide +kernel
theorem dX10_part_12 : decode cX10_part 12 = .ok (.i2l, 1) := by decide +kernel
theorem dX10_part_13 : decode cX10_part 13 = .ok (.lreturn, 1) := by decide +kernel
theorem dX10_part_14 : decode cX10_part 14 = .ok (.iload_n 1, 1) := by decide +kernel
theorem dX10_part_15 : decode cX10_part 15 = .ok (.ifCond .ne 13, 3) := by decide +kernel
theorem dX10_part_18 : decode cX10_part 18 = .ok (.aload_n 0, 1) := by decide +kernel
theorem dX10_part_19 : decode cX10_part 19 = .ok (.getfield 30, 3) := by decide +kernel
theorem dX10_part_22 : decode cX10_part 22 = .ok (.getfield 263, 3) := by decide +kernel
theorem dX10_part_25 : decode cX10_part 25 = .ok (.goto 10, 3) := by decide +kernel
theorem dX10_part_28 : decode cX10_part 28 = .ok (.aload_n 0, 1) := by decide +kernel
theorem dX10_part_29 : decode cX10_part 29 = .ok (.getfield 30, 3) := by decide +kernel
theorem dX10_part_32 : decode cX10_part 32 = .ok (.getfield 267, 3) := by decide +kernel
theorem dX10_part_35 : decode cX10_part 35 = .ok (.lreturn, 1) := by decide +kernel
theorem dX10_image_0 : decode cX10_image 0 = .ok (.iload_n 1, 1) := by decide +kernel
theorem dX10_image_1 : decode cX10_image 1 = .ok (.iconst 2, 1) := by decide +kernel
theorem dX10_image_2 : decode cX10_image 2 = .ok (.invokestatic 55, 3) := by decide +kernel
theorem dX10_image_5 : decode cX10_image 5 = .ok (.ifCond .ne 8, 3) := by decide +kernel
theorem dX10_image_8 : decode cX10_image 8 = .ok (.aload_n 0, 1) := by decide +kernel
theorem dX10_image_9 : decode cX10_image 9 = .ok (.invokevirtual 59, 3) := by decide +kernel
theorem dX10_image_12 : decode cX10_image 12 = .ok (.ireturn, 1) := by decide +kernel
theorem dX10_image_13 : decode cX10_image 13 = .ok (.aload_n 0, 1) := by decide +kernel
theorem dX10_image_14 : decode cX10_image 14 = .ok (.getfield 16, 3) := by decide +kernel
theorem dX10_image_17 : decode cX10_image 17 = .ok (.iload_n 1, 1) := by decide +kernel
theorem dX10_image_18 : decode cX10_image 18 = .ok (.aaload, 1) := by decide +kernel
theorem dX10_image_19 : decode cX10_image 19 = .ok (.astore_n 2, 1) := by decide +kernel
theorem dX10_image_20 : decode cX10_image 20 = .ok (.aload_n 2, 1) := by decide +kernel
theorem dX10_image_21 : decode cX10_image 21 = .ok (.ifnonnull 18, 3) := by decide +kernel
theorem dX10_image_24 : decode cX10_image 24 = .ok (.new 7, 3) := by decide +kernel
theorem dX10_image_27 : decode cX10_image 27 = .ok (.dup, 1) := by decide +kernel
theorem dX10_image_28 : decode cX10_image 28 = .ok (.invokespecial 9, 3) := by decide +kernel
theorem dX10_image_31 : decode cX10_image 31 = .ok (.astore_n 2, 1) := by decide +kernel
theorem dX10_image_32 : decode cX10_image 32 = .ok (.aload_n 0, 1) := by decide +kernel
theorem dX10_image_33 : decode cX10_image 33 = .ok (.getfield 16, 3) := by decide +kernel
theorem dX10_image_36 : decode cX10_image 36 = .ok (.iload_n 1, 1) := by decide +kernel
theorem dX10_image_37 : decode cX10_image 37 = .ok (.aload_n 2, 1) := by decide +kernel
theorem dX10_image_38 : decode cX10_image 38 = .ok (.aastore, 1) := by decide +kernel
theorem dX10_image_39 : decode cX10_image 39 = .ok (.aload_n 2, 1) := by decide +kernel
theorem dX10_image_40 : decode cX10_image 40 = .ok (.aload_n 0, 1) := by decide +kernel
theorem dX10_image_41 : decode cX10_image 41 = .ok (.getfield 10, 3) := by decide +kernel
theorem dX10_image_44 : decode cX10_image 44 = .ok (.invokevirtual 119, 3) := by decide +kernel
theorem dX10_image_47 : decode cX10_image 47 = .ok (.iconst 1, 1) := by decide +kernel
theorem dX10_image_48 : decode cX10_image 48 = .ok (.ireturn, 1) := by decide +kernel
theorem dX10_from_0 : decode cX10_from 0 = .ok (.iload_n 1, 1) := by decide +kernel
theorem dX10_from_1 : decode cX10_from 1 = .ok (.iconst 2, 1) := by decide +kernel
theorem dX10_from_2 : decode cX10_from 2 = .ok (.invokestatic 55, 3) := by decide +kernel
theorem dX10_from_5 : decode cX10_from 5 = .ok (.ifCond .ne 8, 3) := by decide +kernel
theorem dX10_from_8 : decode cX10_from 8 = .ok (.aload_n 0, 1) := by decide +kernel
theorem dX10_from_9 : decode cX10_from 9 = .ok (.invokevirtual 59, 3) := by decide +kernel
theorem dX10_from_12 : decode cX10_from 12 = .ok (.ireturn, 1) := by decide +kernel
theorem dX10_from_13 : decode cX10_from 13 = .ok (.aload_n 0, 1) := by decide +kernel
theorem dX10_from_14 : decode cX10_from 14 = .ok (.getfield 16, 3) := by decide +kernel
theorem dX10_from_17 : decode cX10_from 17 = .ok (.iload_n 1, 1) := by decide +kernel
theorem dX10_from_18 : decode cX10_from 18 = .ok (.aaload, 1) := by decide +kernel
theorem dX10_from_19 : decode cX10_from 19 = .ok (.astore_n 2, 1) := by decide +kernel
theorem dX10_from_20 : decode cX10_from 20 = .ok (.aload_n 2, 1) := by decide +kernel
theorem dX10_from_21 : decode cX10_from 21 = .ok (.ifnonnull 8, 3) := by decide +kernel
theorem dX10_from_24 : decode cX10_from 24 = .ok (.aload_n 0, 1) := by decide +kernel
theorem dX10_from_25 : decode cX10_from 25 = .ok (.invokevirtual 91, 3) := by decide +kernel
theorem dX10_from_28 : decode cX10_from 28 = .ok (.ireturn, 1) := by decide +kernel
theorem dX10_from_29 : decode cX10_from 29 = .ok (.aload_n 0, 1) := by decide +kernel
theorem dX10_from_30 : decode cX10_from 30 = .ok (.getfield 10, 3) := by decide +kernel
theorem dX10_from_33 : decode cX10_from 33 = .ok (.aload_n 2, 1) := by decide +kernel
theorem dX10_from_34 : decode cX10_from 34 = .ok (.invokevirtual 119, 3) := by decide +kernel
theorem dX10_from_37 : decode cX10_from 37 = .ok (.iconst 1, 1) := by decide +kernel
theorem dX10_from_38 : decode cX10_from 38 = .ok (.ireturn, 1) := by decide +kernel
theorem dX10_status_0 : decode cX10_status 0 = .ok (.iload_n 1, 1) := by decide +kernel
theorem dX10_status_1 : decode cX10_status 1 = .ok (.tableswitch 42 0 2 #[27, 32, 37], 27) := by decide +kernel
theorem dX10_status_28 : decode cX10_status 28 = .ok (.aload_n 0, 1) := by decide +kernel
theorem dX10_status_29 : decode cX10_status 29 = .ok (.getfield 270, 3) := by decide +kernel
theorem dX10_status_32 : decode cX10_status 32 = .ok (.ireturn, 1) := by decide +kernel
theorem dX10_status_33 : decode cX10_status 33 = .ok (.aload_n 0, 1) := by decide +kernel
theorem dX10_status_34 : decode cX10_status 34 = .ok (.getfield 273, 3) := by decide +kernel
theorem dX10_status_37 : decode cX10_status 37 = .ok (.ireturn, 1) := by decide +kernel
theorem dX10_status_38 : decode cX10_status 38 = .ok (.aload_n 0, 1) := by decide +kernel
theorem dX10_status_39 : decode cX10_status 39 = .ok (.getfield 276, 3) := by decide +kernel
theorem dX10_status_42 : decode cX10_status 42 = .ok (.ireturn, 1) := by decide +kernel
theorem dX10_status_43 : decode cX10_status 43 = .ok (.aload_n 0, 1) := by decide +kernel
theorem dX10_status_44 : decode cX10_status 44 = .ok (.invokevirtual 59, 3) := by decide +kernel
theorem dX10_status_47 : decode cX10_status 47 = .ok (.pop, 1) := by decide +kernel
theorem dX10_status_48 : decode cX10_status 48 = .ok (.iconst (-1), 1) := by decide +kernel
theorem dX10_status_49 : decode cX10_status 49 = .ok (.ireturn, 1) := by decide +kernel
theorem dX10_count_0 : decode cX10_count 0 = .ok (.iload_n 1, 1) := by decide +kernel
theorem dX10_count_1 : decode cX10_count 1 = .ok (.bipush 10, 2) := by decide +kernel
theorem dX10_count_3 : decode cX10_count 3 = .ok (.invokestatic 55, 3) := by decide +kernel
theorem dX10_count_6 : decode cX10_count 6 = .ok (.ifCond .eq 11, 3) := by decide +kernel
theorem dX10_count_9 : decode cX10_count 9 = .ok (.aload_n 0, 1) := by decide +kernel
theorem dX10_count_10 : decode cX10_count 10 = .ok (.iload_n 1, 1) := by decide +kernel
theorem dX10_count_11 : decode cX10_count 11 = .ok (.invokevirtual 279, 3) := by decide +kernel
theorem dX10_count_14 : decode cX10_count 14 = .ok (.goto 7, 3) := by decide +kernel
theorem dX10_count_17 : decode cX10_count 17 = .ok (.aload_n 0, 1) := by decide +kernel
theorem dX10_count_18 : decode cX10_count 18 = .ok (.invokevirtual 59, 3) := by decide +kernel
theorem dX10_count_21 : decode cX10_count 21 = .ok (.ireturn, 1) := by decide +kernel
theorem dX10_digest_0 : decode cX10_digest 0 = .ok (.ldc2_w 282, 3) := by decide +kernel
theorem dX10_digest_3 : decode cX10_digest 3 = .ok (.lstore_n 1, 1) := by decide +kernel
theorem dX10_digest_4 : decode cX10_digest 4 = .ok (.iconst 0, 1) := by decide +kernel
theorem dX10_digest_5 : decode cX10_digest 5 = .ok (.istore_n 3, 1) := by decide +kernel
theorem dX10_digest_6 : decode cX10_digest 6 = .ok (.iload_n 3, 1) := by decide +kernel
theorem dX10_digest_7 : decode cX10_digest 7 = .ok (.bipush 10, 2) := by decide +kernel
theorem dX10_digest_9 : decode cX10_digest 9 = .ok (.if_icmp .ge 22, 3) := by decide +kernel
theorem dX10_digest_12 : decode cX10_digest 12 = .ok (.ldc2_w 284, 3) := by decide +kernel
theorem dX10_digest_15 : decode cX10_digest 15 = .ok (.lload_n 1, 1) := by decide +kernel
theorem dX10_digest_16 : decode cX10_digest 16 = .ok (.lmul, 1) := by decide +kernel
theorem dX10_digest_17 : decode cX10_digest 17 = .ok (.aload_n 0, 1) := by decide +kernel
theorem dX10_digest_18 : decode cX10_digest 18 = .ok (.iload_n 3, 1) := by decide +kernel
theorem dX10_digest_19 : decode cX10_digest 19 = .ok (.invokevirtual 279, 3) := by decide +kernel
theorem dX10_digest_22 : decode cX10_digest 22 = .ok (.i2l, 1) := by decide +kernel
theorem dX10_digest_23 : decode cX10_digest 23 = .ok (.ladd, 1) := by decide +kernel
theorem dX10_digest_24 : decode cX10_digest 24 = .ok (.lstore_n 1, 1) := by decide +kernel
theorem dX10_digest_25 : decode cX10_digest 25 = .ok (.iinc 3 1, 3) := by decide +kernel
theorem dX10_digest_28 : decode cX10_digest 28 = .ok (.goto (-22), 3) := by decide +kernel
theorem dX10_digest_31 : decode cX10_digest 31 = .ok (.iconst 0, 1) := by decide +kernel
theorem dX10_digest_32 : decode cX10_digest 32 = .ok (.istore_n 3, 1) := by decide +kernel
theorem dX10_digest_33 : decode cX10_digest 33 = .ok (.iload_n 3, 1) := by decide +kernel
theorem dX10_digest_34 : decode cX10_digest 34 = .ok (.aload_n 0, 1) := by decide +kernel
theorem dX10_digest_35 : decode cX10_digest 35 = .ok (.getfield 10, 3) := by decide +kernel
theorem dX10_digest_38 : decode cX10_digest 38 = .ok (.getfield 63, 3) := by decide +kernel
theorem dX10_digest_41 : decode cX10_digest 41 = .ok (.getfield 67, 3) := by decide +kernel
theorem dX10_digest_44 : decode cX10_digest 44 = .ok (.if_icmp .ge 28, 3) := by decide +kernel
theorem dX10_digest_47 : decode cX10_digest 47 = .ok (.ldc2_w 284, 3) := by decide +kernel
theorem dX10_digest_50 : decode cX10_digest 50 = .ok (.lload_n 1, 1) := by decide +kernel
theorem dX10_digest_51 : decode cX10_digest 51 = .ok (.lmul, 1) := by decide +kernel
theorem dX10_digest_52 : decode cX10_digest 52 = .ok (.aload_n 0, 1) := by decide +kernel
theorem dX10_digest_53 : decode cX10_digest 53 = .ok (.getfield 10, 3) := by decide +kernel
theorem dX10_digest_56 : decode cX10_digest 56 = .ok (.getfield 63, 3) := by decide +kernel
theorem dX10_digest_59 : decode cX10_digest 59 = .ok (.iload_n 3, 1) := by decide +kernel
theorem dX10_digest_60 : decode cX10_digest 60 = .ok (.invokevirtual 151, 3) := by decide +kernel
theorem dX10_digest_63 : decode cX10_digest 63 = .ok (.i2l, 1) := by decide +kernel
theorem dX10_digest_64 : decode cX10_digest 64 = .ok (.ladd, 1) := by decide +kernel
theorem dX10_digest_65 : decode cX10_digest 65 = .ok (.lstore_n 1, 1) := by decide +kernel
theorem dX10_digest_66 : decode cX10_digest 66 = .ok (.iinc 3 1, 3) := by decide +kernel
theorem dX10_digest_69 : decode cX10_digest 69 = .ok (.goto (-36), 3) := by decide +kernel
theorem dX10_digest_72 : decode cX10_digest 72 = .ok (.ldc2_w 284, 3) := by decide +kernel
theorem dX10_digest_75 : decode cX10_digest 75 = .ok (.lload_n 1, 1) := by decide +kernel
theorem dX10_digest_76 : decode cX10_digest 76 = .ok (.lmul, 1) := by decide +kernel
theorem dX10_digest_77 : decode cX10_digest 77 = .ok (.aload_n 0, 1) := by decide +kernel
theorem dX10_digest_78 : decode cX10_digest 78 = .ok (.getfield 10, 3) := by decide +kernel
theorem dX10_digest_81 : decode cX10_digest 81 = .ok (.getfield 123, 3) := by decide +kernel
theorem dX10_digest_84 : decode cX10_digest 84 = .ok (.getfield 154, 3) := by decide +kernel
theorem dX10_digest_87 : decode cX10_digest 87 = .ok (.i2l, 1) := by decide +kernel
theorem dX10_digest_88 : decode cX10_digest 88 = .ok (.ladd, 1) := by decide +kernel
theorem dX10_digest_89 : decode cX10_digest 89 = .ok (.lstore_n 1, 1) := by decide +kernel
theorem dX10_digest_90 : decode cX10_digest 90 = .ok (.ldc2_w 284, 3) := by decide +kernel
theorem dX10_digest_93 : decode cX10_digest 93 = .ok (.lload_n 1, 1) := by decide +kernel
theorem dX10_digest_94 : decode cX10_digest 94 = .ok (.lmul, 1) := by decide +kernel
theorem dX10_digest_95 : decode cX10_digest 95 = .ok (.aload_n 0, 1) := by decide +kernel
theorem dX10_digest_96 : decode cX10_digest 96 = .ok (.getfield 10, 3) := by decide +kernel
theorem dX10_digest_99 : decode cX10_digest 99 = .ok (.getfield 123, 3) := by decide +kernel
theorem dX10_digest_102 : decode cX10_digest 102 = .ok (.getfield 170, 3) := by decide +kernel
theorem dX10_digest_105 : decode cX10_digest 105 = .ok (.i2l, 1) := by decide +kernel
theorem dX10_digest_106 : decode cX10_digest 106 = .ok (.ladd, 1) := by decide +kernel
theorem dX10_digest_107 : decode cX10_digest 107 = .ok (.lstore_n 1, 1) := by decide +kernel
theorem dX10_digest_108 : decode cX10_digest 108 = .ok (.aload_n 0, 1) := by decide +kernel
theorem dX10_digest_109 : decode cX10_digest 109 = .ok (.getfield 10, 3) := by decide +kernel
theorem dX10_digest_112 : decode cX10_digest 112 = .ok (.getfield 228, 3) := by decide +kernel
theorem dX10_digest_115 : decode cX10_digest 115 = .ok (.lload_n 1, 1) := by decide +kernel
theorem dX10_digest_116 : decode cX10_digest 116 = .ok (.iconst 4, 1) := by decide +kernel
theorem dX10_digest_117 : decode cX10_digest 117 = .ok (.invokevirtual 286, 3) := by decide +kernel
theorem dX10_digest_120 : decode cX10_digest 120 = .ok (.lstore_n 1, 1) := by decide +kernel
theorem dX10_digest_121 : decode cX10_digest 121 = .ok (.aload_n 0, 1) := by decide +kernel
theorem dX10_digest_122 : decode cX10_digest 122 = .ok (.getfield 10, 3) := by decide +kernel
theorem dX10_digest_125 : decode cX10_digest 125 = .ok (.getfield 238, 3) := by decide +kernel
theorem dX10_digest_128 : decode cX10_digest 128 = .ok (.lload_n 1, 1) := by decide +kernel
theorem dX10_digest_129 : decode cX10_digest 129 = .ok (.iconst 3, 1) := by decide +kernel
theorem dX10_digest_130 : decode cX10_digest 130 = .ok (.invokevirtual 286, 3) := by decide +kernel
theorem dX10_digest_133 : decode cX10_digest 133 = .ok (.lstore_n 1, 1) := by decide +kernel
theorem dX10_digest_134 : decode cX10_digest 134 = .ok (.ldc2_w 284, 3) := by decide +kernel
theorem dX10_digest_137 : decode cX10_digest 137 = .ok (.lload_n 1, 1) := by decide +kernel
theorem dX10_digest_138 : decode cX10_digest 138 = .ok (.lmul, 1) := by decide +kernel
theorem dX10_digest_139 : decode cX10_digest 139 = .ok (.aload_n 0, 1) := by decide +kernel
theorem dX10_digest_140 : decode cX10_digest 140 = .ok (.getfield 30, 3) := by decide +kernel
theorem dX10_digest_143 : decode cX10_digest 143 = .ok (.getfield 263, 3) := by decide +kernel
theorem dX10_digest_146 : decode cX10_digest 146 = .ok (.ladd, 1) := by decide +kernel
theorem dX10_digest_147 : decode cX10_digest 147 = .ok (.lstore_n 1, 1) := by decide +kernel
theorem dX10_digest_148 : decode cX10_digest 148 = .ok (.ldc2_w 284, 3) := by decide +kernel
theorem dX10_digest_151 : decode cX10_digest 151 = .ok (.lload_n 1, 1) := by decide +kernel
theorem dX10_digest_152 : decode cX10_digest 152 = .ok (.lmul, 1) := by decide +kernel
theorem dX10_digest_153 : decode cX10_digest 153 = .ok (.aload_n 0, 1) := by decide +kernel
theorem dX10_digest_154 : decode cX10_digest 154 = .ok (.getfield 30, 3) := by decide +kernel
theorem dX10_digest_157 : decode cX10_digest 157 = .ok (.getfield 267, 3) := by decide +kernel
theorem dX10_digest_160 : decode cX10_digest 160 = .ok (.ladd, 1) := by decide +kernel
theorem dX10_digest_161 : decode cX10_digest 161 = .ok (.lreturn, 1) := by decide +kernel
theorem dX10_isBelow_0 : decode cX10_isBelow 0 = .ok (.iload_n 0, 1) := by decide +kernel
theorem dX10_isBelow_1 : decode cX10_isBelow 1 = .ok (.ifCond .lt 12, 3) := by decide +kernel
theorem dX10_isBelow_4 : decode cX10_isBelow 4 = .ok (.iload_n 0, 1) := by decide +kernel
theorem dX10_isBelow_5 : decode cX10_isBelow 5 = .ok (.iload_n 1, 1) := by decide +kernel
theorem dX10_isBelow_6 : decode cX10_isBelow 6 = .ok (.if_icmp .ge 7, 3) := by decide +kernel
theorem dX10_isBelow_9 : decode cX10_isBelow 9 = .ok (.iconst 1, 1) := by decide +kernel
theorem dX10_isBelow_10 : decode cX10_isBelow 10 = .ok (.goto 4, 3) := by decide +kernel
theorem dX10_isBelow_13 : decode cX10_isBelow 13 = .ok (.iconst 0, 1) := by decide +kernel
theorem dX10_isBelow_14 : decode cX10_isBelow 14 = .ok (.ireturn, 1) := by decide +kernel
theorem dX10_isSetOfWords_0 : decode cX10_isSetOfWords 0 = .ok (.iload_n 1, 1) := by decide +kernel
theorem dX10_isSetOfWords_1 : decode cX10_isSetOfWords 1 = .ok (.iconst 1, 1) := by decide +kernel
theorem dX10_isSetOfWords_2 : decode cX10_isSetOfWords 2 = .ok (.if_icmp .lt 21, 3) := by decide +kernel
theorem dX10_isSetOfWords_5 : decode cX10_isSetOfWords 5 = .ok (.iload_n 1, 1) := by decide +kernel
theorem dX10_isSetOfWords_6 : decode cX10_isSetOfWords 6 = .ok (.aload_n 0, 1) := by decide +kernel
theorem dX10_isSetOfWords_7 : decode cX10_isSetOfWords 7 = .ok (.getfield 10, 3) := by decide +kernel
theorem dX10_isSetOfWords_10 : decode cX10_isSetOfWords 10 = .ok (.getfield 63, 3) := by decide +kernel
theorem dX10_isSetOfWords_13 : decode cX10_isSetOfWords 13 = .ok (.invokevirtual 142, 3) := by decide +kernel
theorem dX10_isSetOfWords_16 : decode cX10_isSetOfWords 16 = .ok (.if_icmp .gt 7, 3) := by decide +kernel
theorem dX10_isSetOfWords_19 : decode cX10_isSetOfWords 19 = .ok (.iconst 1, 1) := by decide +kernel
theorem dX10_isSetOfWords_20 : decode cX10_isSetOfWords 20 = .ok (.goto 4, 3) := by decide +kernel
theorem dX10_isSetOfWords_23 : decode cX10_isSetOfWords 23 = .ok (.iconst 0, 1) := by decide +kernel
theorem dX10_isSetOfWords_24 : decode cX10_isSetOfWords 24 = .ok (.ireturn, 1) := by decide +kernel
theorem dX10_refuseBad_0 : decode cX10_refuseBad 0 = .ok (.aload_n 0, 1) := by decide +kernel
theorem dX10_refuseBad_1 : decode cX10_refuseBad 1 = .ok (.dup, 1) := by decide +kernel
theorem dX10_refuseBad_2 : decode cX10_refuseBad 2 = .ok (.getfield 270, 3) := by decide +kernel
theorem dX10_refuseBad_5 : decode cX10_refuseBad 5 = .ok (.iconst 1, 1) := by decide +kernel
theorem dX10_refuseBad_6 : decode cX10_refuseBad 6 = .ok (.iadd, 1) := by decide +kernel
theorem dX10_refuseBad_7 : decode cX10_refuseBad 7 = .ok (.putfield 270, 3) := by decide +kernel
theorem dX10_refuseBad_10 : decode cX10_refuseBad 10 = .ok (.bipush (-2), 2) := by decide +kernel
theorem dX10_refuseBad_12 : decode cX10_refuseBad 12 = .ok (.ireturn, 1) := by decide +kernel
theorem dX10_refuseNo_0 : decode cX10_refuseNo 0 = .ok (.aload_n 0, 1) := by decide +kernel
theorem dX10_refuseNo_1 : decode cX10_refuseNo 1 = .ok (.dup, 1) := by decide +kernel
theorem dX10_refuseNo_2 : decode cX10_refuseNo 2 = .ok (.getfield 273, 3) := by decide +kernel
theorem dX10_refuseNo_5 : decode cX10_refuseNo 5 = .ok (.iconst 1, 1) := by decide +kernel
theorem dX10_refuseNo_6 : decode cX10_refuseNo 6 = .ok (.iadd, 1) := by decide +kernel
theorem dX10_refuseNo_7 : decode cX10_refuseNo 7 = .ok (.putfield 273, 3) := by decide +kernel
theorem dX10_refuseNo_10 : decode cX10_refuseNo 10 = .ok (.bipush (-3), 2) := by decide +kernel
theorem dX10_refuseNo_12 : decode cX10_refuseNo 12 = .ok (.ireturn, 1) := by decide +kernel
theorem dX10_refuseFull_0 : decode cX10_refuseFull 0 = .ok (.aload_n 0, 1) := by decide +kernel
theorem dX10_refuseFull_1 : decode cX10_refuseFull 1 = .ok (.dup, 1) := by decide +kernel
theorem dX10_refuseFull_2 : decode cX10_refuseFull 2 = .ok (.getfield 276, 3) := by decide +kernel
theorem dX10_refuseFull_5 : decode cX10_refuseFull 5 = .ok (.iconst 1, 1) := by decide +kernel
theorem dX10_refuseFull_6 : decode cX10_refuseFull 6 = .ok (.iadd, 1) := by decide +kernel
theorem dX10_refuseFull_7 : decode cX10_refuseFull 7 = .ok (.putfield 276, 3) := by decide +kernel
theorem dX10_refuseFull_10 : decode cX10_refuseFull 10 = .ok (.bipush (-4), 2) := by decide +kernel
theorem dX10_refuseFull_12 : decode cX10_refuseFull 12 = .ok (.ireturn, 1) := by decide +kernel
theorem dX10_howMany_0 : decode cX10_howMany 0 = .ok (.iload_n 1, 1) := by decide +kernel
theorem dX10_howMany_1 : decode cX10_howMany 1 = .ok (.tableswitch 147 0 8 #[51, 62, 76, 87, 98, 106, 114, 125, 136], 51) := by decide +kernel
theorem dX10_howMany_52 : decode cX10_howMany 52 = .ok (.aload_n 0, 1) := by decide +kernel
theorem dX10_howMany_53 : decode cX10_howMany 53 = .ok (.getfield 10, 3) := by decide +kernel
theorem dX10_howMany_56 : decode cX10_howMany 56 = .ok (.getfield 63, 3) := by decide +kernel
theorem dX10_howMany_59 : decode cX10_howMany 59 = .ok (.getfield 67, 3) := by decide +kernel
theorem dX10_howMany_62 : decode cX10_howMany 62 = .ok (.ireturn, 1) := by decide +kernel
theorem dX10_howMany_63 : decode cX10_howMany 63 = .ok (.aload_n 0, 1) := by decide +kernel
theorem dX10_howMany_64 : decode cX10_howMany 64 = .ok (.getfield 10, 3) := by decide +kernel
theorem dX10_howMany_67 : decode cX10_howMany 67 = .ok (.getfield 123, 3) := by decide +kernel
theorem dX10_howMany_70 : decode cX10_howMany 70 = .ok (.getfield 154, 3) := by decide +kernel
theorem dX10_howMany_73 : decode cX10_howMany 73 = .ok (.invokestatic 202, 3) := by decide +kernel
theorem dX10_howMany_76 : decode cX10_howMany 76 = .ok (.ireturn, 1) := by decide +kernel
theorem dX10_howMany_77 : decode cX10_howMany 77 = .ok (.aload_n 0, 1) := by decide +kernel
theorem dX10_howMany_78 : decode cX10_howMany 78 = .ok (.getfield 10, 3) := by decide +kernel
theorem dX10_howMany_81 : decode cX10_howMany 81 = .ok (.getfield 123, 3) := by decide +kernel
theorem dX10_howMany_84 : decode cX10_howMany 84 = .ok (.invokevirtual 197, 3) := by decide +kernel
theorem dX10_howMany_87 : decode cX10_howMany 87 = .ok (.ireturn, 1) := by decide +kernel
theorem dX10_howMany_88 : decode cX10_howMany 88 = .ok (.aload_n 0, 1) := by decide +kernel
theorem dX10_howMany_89 : decode cX10_howMany 89 = .ok (.getfield 10, 3) := by decide +kernel
theorem dX10_howMany_92 : decode cX10_howMany 92 = .ok (.getfield 123, 3) := by decide +kernel
theorem dX10_howMany_95 : decode cX10_howMany 95 = .ok (.getfield 139, 3) := by decide +kernel
theorem dX10_howMany_98 : decode cX10_howMany 98 = .ok (.ireturn, 1) := by decide +kernel
theorem dX10_howMany_99 : decode cX10_howMany 99 = .ok (.aload_n 0, 1) := by decide +kernel
theorem dX10_howMany_100 : decode cX10_howMany 100 = .ok (.getfield 10, 3) := by decide +kernel
theorem dX10_howMany_103 : decode cX10_howMany 103 = .ok (.getfield 136, 3) := by decide +kernel
theorem dX10_howMany_106 : decode cX10_howMany 106 = .ok (.ireturn, 1) := by decide +kernel
theorem dX10_howMany_107 : decode cX10_howMany 107 = .ok (.aload_n 0, 1) := by decide +kernel
theorem dX10_howMany_108 : decode cX10_howMany 108 = .ok (.getfield 10, 3) := by decide +kernel
theorem dX10_howMany_111 : decode cX10_howMany 111 = .ok (.getfield 77, 3) := by decide +kernel
theorem dX10_howMany_114 : decode cX10_howMany 114 = .ok (.ireturn, 1) := by decide +kernel
theorem dX10_howMany_115 : decode cX10_howMany 115 = .ok (.aload_n 0, 1) := by decide +kernel
theorem dX10_howMany_116 : decode cX10_howMany 116 = .ok (.getfield 10, 3) := by decide +kernel
theorem dX10_howMany_119 : decode cX10_howMany 119 = .ok (.getfield 228, 3) := by decide +kernel
theorem dX10_howMany_122 : decode cX10_howMany 122 = .ok (.getfield 84, 3) := by decide +kernel
theorem dX10_howMany_125 : decode cX10_howMany 125 = .ok (.ireturn, 1) := by decide +kernel
theorem dX10_howMany_126 : decode cX10_howMany 126 = .ok (.aload_n 0, 1) := by decide +kernel
theorem dX10_howMany_127 : decode cX10_howMany 127 = .ok (.getfield 10, 3) := by decide +kernel
theorem dX10_howMany_130 : decode cX10_howMany 130 = .ok (.getfield 238, 3) := by decide +kernel
theorem dX10_howMany_133 : decode cX10_howMany 133 = .ok (.getfield 84, 3) := by decide +kernel
theorem dX10_howMany_136 : decode cX10_howMany 136 = .ok (.ireturn, 1) := by decide +kernel
theorem dX10_howMany_137 : decode cX10_howMany 137 = .ok (.aload_n 0, 1) := by decide +kernel
theorem dX10_howMany_138 : decode cX10_howMany 138 = .ok (.getfield 10, 3) := by decide +kernel
theorem dX10_howMany_141 : decode cX10_howMany 141 = .ok (.getfield 80, 3) := by decide +kernel
theorem dX10_howMany_144 : decode cX10_howMany 144 = .ok (.getfield 84, 3) := by decide +kernel
theorem dX10_howMany_147 : decode cX10_howMany 147 = .ok (.ireturn, 1) := by decide +kernel
theorem dX10_howMany_148 : decode cX10_howMany 148 = .ok (.aload_n 0, 1) := by decide +kernel
theorem dX10_howMany_149 : decode cX10_howMany 149 = .ok (.getfield 23, 3) := by decide +kernel
theorem dX10_howMany_152 : decode cX10_howMany 152 = .ok (.getfield 100, 3) := by decide +kernel
theorem dX10_howMany_155 : decode cX10_howMany 155 = .ok (.getfield 104, 3) := by decide +kernel
theorem dX10_howMany_158 : decode cX10_howMany 158 = .ok (.ireturn, 1) := by decide +kernel
theorem dX10_replyNow_0 : decode cX10_replyNow 0 = .ok (.iload_n 1, 1) := by decide +kernel
theorem dX10_replyNow_1 : decode cX10_replyNow 1 = .ok (.aload_n 0, 1) := by decide +kernel
theorem dX10_replyNow_2 : decode cX10_replyNow 2 = .ok (.getfield 10, 3) := by decide +kernel
theorem dX10_replyNow_5 : decode cX10_replyNow 5 = .ok (.getfield 63, 3) := by decide +kernel
theorem dX10_replyNow_8 : decode cX10_replyNow 8 = .ok (.aload_n 0, 1) := by decide +kernel
theorem dX10_replyNow_9 : decode cX10_replyNow 9 = .ok (.getfield 10, 3) := by decide +kernel
theorem dX10_replyNow_12 : decode cX10_replyNow 12 = .ok (.getfield 136, 3) := by decide +kernel
theorem dX10_replyNow_15 : decode cX10_replyNow 15 = .ok (.aload_n 0, 1) := by decide +kernel
theorem dX10_replyNow_16 : decode cX10_replyNow 16 = .ok (.getfield 10, 3) := by decide +kernel
theorem dX10_replyNow_19 : decode cX10_replyNow 19 = .ok (.getfield 123, 3) := by decide +kernel
theorem dX10_replyNow_22 : decode cX10_replyNow 22 = .ok (.getfield 154, 3) := by decide +kernel
theorem dX10_replyNow_25 : decode cX10_replyNow 25 = .ok (.aload_n 0, 1) := by decide +kernel
theorem dX10_replyNow_26 : decode cX10_replyNow 26 = .ok (.getfield 10, 3) := by decide +kernel
theorem dX10_replyNow_29 : decode cX10_replyNow 29 = .ok (.getfield 123, 3) := by decide +kernel
theorem dX10_replyNow_32 : decode cX10_replyNow 32 = .ok (.invokevirtual 197, 3) := by decide +kernel
theorem dX10_replyNow_35 : decode cX10_replyNow 35 = .ok (.iload_n 2, 1) := by decide +kernel
theorem dX10_replyNow_36 : decode cX10_replyNow 36 = .ok (.invokestatic 290, 3) := by decide +kernel
theorem dX10_replyNow_39 : decode cX10_replyNow 39 = .ok (.ireturn, 1) := by decide +kernel
theorem dX10_leftByHonest_0 : decode cX10_leftByHonest 0 = .ok (.aload_n 0, 1) := by decide +kernel
theorem dX10_leftByHonest_1 : decode cX10_leftByHonest 1 = .ok (.getfield 10, 3) := by decide +kernel
theorem dX10_leftByHonest_4 : decode cX10_leftByHonest 4 = .ok (.getfield 123, 3) := by decide +kernel
theorem dX10_leftByHonest_7 : decode cX10_leftByHonest 7 = .ok (.getfield 154, 3) := by decide +kernel
theorem dX10_leftByHonest_10 : decode cX10_leftByHonest 10 = .ok (.istore_n 2, 1) := by decide +kernel
theorem dX10_leftByHonest_11 : decode cX10_leftByHonest 11 = .ok (.aload_n 0, 1) := by decide +kernel
theorem dX10_leftByHonest_12 : decode cX10_leftByHonest 12 = .ok (.getfield 10, 3) := by decide +kernel
theorem dX10_leftByHonest_15 : decode cX10_leftByHonest 15 = .ok (.getfield 136, 3) := by decide +kernel
theorem dX10_leftByHonest_18 : decode cX10_leftByHonest 18 = .ok (.iload_n 2, 1) := by decide +kernel
theorem dX10_leftByHonest_19 : decode cX10_leftByHonest 19 = .ok (.invokestatic 294, 3) := by decide +kernel
theorem dX10_leftByHonest_22 : decode cX10_leftByHonest 22 = .ok (.istore_n 3, 1) := by decide +kernel
theorem dX10_leftByHonest_23 : decode cX10_leftByHonest 23 = .ok (.iconst 0, 1) := by decide +kernel
theorem dX10_leftByHonest_24 : decode cX10_leftByHonest 24 = .ok (.istore 4, 2) := by decide +kernel
theorem dX10_leftByHonest_26 : decode cX10_leftByHonest 26 = .ok (.iload 4, 2) := by decide +kernel
theorem dX10_leftByHonest_28 : decode cX10_leftByHonest 28 = .ok (.bipush 10, 2) := by decide +kernel
theorem dX10_leftByHonest_30 : decode cX10_leftByHonest 30 = .ok (.if_icmp .ge 34, 3) := by decide +kernel
theorem dX10_leftByHonest_33 : decode cX10_leftByHonest 33 = .ok (.iload_n 1, 1) := by decide +kernel
theorem dX10_leftByHonest_34 : decode cX10_leftByHonest 34 = .ok (.iload 4, 2) := by decide +kernel
theorem dX10_leftByHonest_36 : decode cX10_leftByHonest 36 = .ok (.ishr, 1) := by decide +kernel
theorem dX10_leftByHonest_37 : decode cX10_leftByHonest 37 = .ok (.iconst 1, 1) := by decide +kernel
theorem dX10_leftByHonest_38 : decode cX10_leftByHonest 38 = .ok (.iand, 1) := by decide +kernel
theorem dX10_leftByHonest_39 : decode cX10_leftByHonest 39 = .ok (.ifCond .eq 19, 3) := by decide +kernel
theorem dX10_leftByHonest_42 : decode cX10_leftByHonest 42 = .ok (.iload_n 2, 1) := by decide +kernel
theorem dX10_leftByHonest_43 : decode cX10_leftByHonest 43 = .ok (.aload_n 0, 1) := by decide +kernel
theorem dX10_leftByHonest_44 : decode cX10_leftByHonest 44 = .ok (.getfield 10, 3) := by decide +kernel
theorem dX10_leftByHonest_47 : decode cX10_leftByHonest 47 = .ok (.getfield 63, 3) := by decide +kernel
theorem dX10_leftByHonest_50 : decode cX10_leftByHonest 50 = .ok (.iload_n 3, 1) := by decide +kernel
theorem dX10_leftByHonest_51 : decode cX10_leftByHonest 51 = .ok (.iload 4, 2) := by decide +kernel
theorem dX10_leftByHonest_53 : decode cX10_leftByHonest 53 = .ok (.invokevirtual 297, 3) := by decide +kernel
theorem dX10_leftByHonest_56 : decode cX10_leftByHonest 56 = .ok (.iand, 1) := by decide +kernel
theorem dX10_leftByHonest_57 : decode cX10_leftByHonest 57 = .ok (.istore_n 2, 1) := by decide +kernel
theorem dX10_leftByHonest_58 : decode cX10_leftByHonest 58 = .ok (.iinc 4 1, 3) := by decide +kernel
theorem dX10_leftByHonest_61 : decode cX10_leftByHonest 61 = .ok (.goto (-35), 3) := by decide +kernel
theorem dX10_leftByHonest_64 : decode cX10_leftByHonest 64 = .ok (.iload_n 2, 1) := by decide +kernel
theorem dX10_leftByHonest_65 : decode cX10_leftByHonest 65 = .ok (.ireturn, 1) := by decide +kernel
theorem dX10_reckonPairs_0 : decode cX10_reckonPairs 0 = .ok (.iconst 0, 1) := by decide +kernel
theorem dX10_reckonPairs_1 : decode cX10_reckonPairs 1 = .ok (.istore_n 1, 1) := by decide +kernel
theorem dX10_reckonPairs_2 : decode cX10_reckonPairs 2 = .ok (.iload_n 1, 1) := by decide +kernel
theorem dX10_reckonPairs_3 : decode cX10_reckonPairs 3 = .ok (.bipush 6, 2) := by decide +kernel
theorem dX10_reckonPairs_5 : decode cX10_reckonPairs 5 = .ok (.if_icmp .ge 71, 3) := by decide +kernel
theorem dX10_reckonPairs_8 : decode cX10_reckonPairs 8 = .ok (.iconst 0, 1) := by decide +kernel
theorem dX10_reckonPairs_9 : decode cX10_reckonPairs 9 = .ok (.istore_n 2, 1) := by decide +kernel
theorem dX10_reckonPairs_10 : decode cX10_reckonPairs 10 = .ok (.iload_n 2, 1) := by decide +kernel
theorem dX10_reckonPairs_11 : decode cX10_reckonPairs 11 = .ok (.bipush 6, 2) := by decide +kernel
theorem dX10_reckonPairs_13 : decode cX10_reckonPairs 13 = .ok (.if_icmp .ge 57, 3) := by decide +kernel
theorem dX10_reckonPairs_16 : decode cX10_reckonPairs 16 = .ok (.aload_n 0, 1) := by decide +kernel
theorem dX10_reckonPairs_17 : decode cX10_reckonPairs 17 = .ok (.getfield 44, 3) := by decide +kernel
theorem dX10_reckonPairs_20 : decode cX10_reckonPairs 20 = .ok (.aload_n 0, 1) := by decide +kernel
theorem dX10_reckonPairs_21 : decode cX10_reckonPairs 21 = .ok (.getfield 10, 3) := by decide +kernel
theorem dX10_reckonPairs_24 : decode cX10_reckonPairs 24 = .ok (.getfield 123, 3) := by decide +kernel
theorem dX10_reckonPairs_27 : decode cX10_reckonPairs 27 = .ok (.invokevirtual 190, 3) := by decide +kernel
theorem dX10_reckonPairs_30 : decode cX10_reckonPairs 30 = .ok (.aload_n 0, 1) := by decide +kernel
theorem dX10_reckonPairs_31 : decode cX10_reckonPairs 31 = .ok (.getfield 48, 3) := by decide +kernel
theorem dX10_reckonPairs_34 : decode cX10_reckonPairs 34 = .ok (.iload_n 1, 1) := by decide +kernel
theorem dX10_reckonPairs_35 : decode cX10_reckonPairs 35 = .ok (.bipush 6, 2) := by decide +kernel
theorem dX10_reckonPairs_37 : decode cX10_reckonPairs 37 = .ok (.imul, 1) := by decide +kernel
theorem dX10_reckonPairs_38 : decode cX10_reckonPairs 38 = .ok (.iload_n 2, 1) := by decide +kernel
theorem dX10_reckonPairs_39 : decode cX10_reckonPairs 39 = .ok (.iadd, 1) := by decide +kernel
theorem dX10_reckonPairs_40 : decode cX10_reckonPairs 40 = .ok (.aload_n 0, 1) := by decide +kernel
theorem dX10_reckonPairs_41 : decode cX10_reckonPairs 41 = .ok (.getfield 44, 3) := by decide +kernel
theorem dX10_reckonPairs_44 : decode cX10_reckonPairs 44 = .ok (.aload_n 0, 1) := by decide +kernel
theorem dX10_reckonPairs_45 : decode cX10_reckonPairs 45 = .ok (.getfield 10, 3) := by decide +kernel
theorem dX10_reckonPairs_48 : decode cX10_reckonPairs 48 = .ok (.getfield 63, 3) := by decide +kernel
theorem dX10_reckonPairs_51 : decode cX10_reckonPairs 51 = .ok (.iload_n 1, 1) := by decide +kernel
theorem dX10_reckonPairs_52 : decode cX10_reckonPairs 52 = .ok (.iload_n 2, 1) := by decide +kernel
theorem dX10_reckonPairs_53 : decode cX10_reckonPairs 53 = .ok (.aload_n 0, 1) := by decide +kernel
theorem dX10_reckonPairs_54 : decode cX10_reckonPairs 54 = .ok (.getfield 10, 3) := by decide +kernel
theorem dX10_reckonPairs_57 : decode cX10_reckonPairs 57 = .ok (.getfield 136, 3) := by decide +kernel
theorem dX10_reckonPairs_60 : decode cX10_reckonPairs 60 = .ok (.invokevirtual 193, 3) := by decide +kernel
theorem dX10_reckonPairs_63 : decode cX10_reckonPairs 63 = .ok (.iastore, 1) := by decide +kernel
theorem dX10_reckonPairs_64 : decode cX10_reckonPairs 64 = .ok (.iinc 2 1, 3) := by decide +kernel
theorem dX10_reckonPairs_67 : decode cX10_reckonPairs 67 = .ok (.goto (-57), 3) := by decide +kernel
theorem dX10_reckonPairs_70 : decode cX10_reckonPairs 70 = .ok (.iinc 1 1, 3) := by decide +kernel
theorem dX10_reckonPairs_73 : decode cX10_reckonPairs 73 = .ok (.goto (-71), 3) := by decide +kernel
theorem dX10_reckonPairs_76 : decode cX10_reckonPairs 76 = .ok (.return_, 1) := by decide +kernel
theorem dX10_pairRests_0 : decode cX10_pairRests 0 = .ok (.aload_n 0, 1) := by decide +kernel
theorem dX10_pairRests_1 : decode cX10_pairRests 1 = .ok (.getfield 48, 3) := by decide +kernel
theorem dX10_pairRests_4 : decode cX10_pairRests 4 = .ok (.iload_n 1, 1) := by decide +kernel
theorem dX10_pairRests_5 : decode cX10_pairRests 5 = .ok (.bipush 6, 2) := by decide +kernel
theorem dX10_pairRests_7 : decode cX10_pairRests 7 = .ok (.imul, 1) := by decide +kernel
theorem dX10_pairRests_8 : decode cX10_pairRests 8 = .ok (.iload_n 2, 1) := by decide +kernel
theorem dX10_pairRests_9 : decode cX10_pairRests 9 = .ok (.iadd, 1) := by decide +kernel
theorem dX10_pairRests_10 : decode cX10_pairRests 10 = .ok (.iaload, 1) := by decide +kernel
theorem dX10_pairRests_11 : decode cX10_pairRests 11 = .ok (.istore_n 3, 1) := by decide +kernel
theorem dX10_pairRests_12 : decode cX10_pairRests 12 = .ok (.iconst 0, 1) := by decide +kernel
theorem dX10_pairRests_13 : decode cX10_pairRests 13 = .ok (.istore 4, 2) := by decide +kernel
theorem dX10_pairRests_15 : decode cX10_pairRests 15 = .ok (.iload 4, 2) := by decide +kernel
theorem dX10_pairRests_17 : decode cX10_pairRests 17 = .ok (.bipush 6, 2) := by decide +kernel
theorem dX10_pairRests_19 : decode cX10_pairRests 19 = .ok (.if_icmp .ge 43, 3) := by decide +kernel
theorem dX10_pairRests_22 : decode cX10_pairRests 22 = .ok (.aload_n 0, 1) := by decide +kernel
theorem dX10_pairRests_23 : decode cX10_pairRests 23 = .ok (.getfield 48, 3) := by decide +kernel
theorem dX10_pairRests_26 : decode cX10_pairRests 26 = .ok (.iload 4, 2) := by decide +kernel
theorem dX10_pairRests_28 : decode cX10_pairRests 28 = .ok (.bipush 6, 2) := by decide +kernel
theorem dX10_pairRests_30 : decode cX10_pairRests 30 = .ok (.imul, 1) := by decide +kernel
theorem dX10_pairRests_31 : decode cX10_pairRests 31 = .ok (.iload_n 2, 1) := by decide +kernel
theorem dX10_pairRests_32 : decode cX10_pairRests 32 = .ok (.iadd, 1) := by decide +kernel
theorem dX10_pairRests_33 : decode cX10_pairRests 33 = .ok (.iaload, 1) := by decide +kernel
theorem dX10_pairRests_34 : decode cX10_pairRests 34 = .ok (.iload_n 3, 1) := by decide +kernel
theorem dX10_pairRests_35 : decode cX10_pairRests 35 = .ok (.if_icmp .lt 19, 3) := by decide +kernel
theorem dX10_pairRests_38 : decode cX10_pairRests 38 = .ok (.aload_n 0, 1) := by decide +kernel
theorem dX10_pairRests_39 : decode cX10_pairRests 39 = .ok (.getfield 48, 3) := by decide +kernel
theorem dX10_pairRests_42 : decode cX10_pairRests 42 = .ok (.iload_n 1, 1) := by decide +kernel
theorem dX10_pairRests_43 : decode cX10_pairRests 43 = .ok (.bipush 6, 2) := by decide +kernel
theorem dX10_pairRests_45 : decode cX10_pairRests 45 = .ok (.imul, 1) := by decide +kernel
theorem dX10_pairRests_46 : decode cX10_pairRests 46 = .ok (.iload 4, 2) := by decide +kernel
theorem dX10_pairRests_48 : decode cX10_pairRests 48 = .ok (.iadd, 1) := by decide +kernel
theorem dX10_pairRests_49 : decode cX10_pairRests 49 = .ok (.iaload, 1) := by decide +kernel
theorem dX10_pairRests_50 : decode cX10_pairRests 50 = .ok (.iload_n 3, 1) := by decide +kernel
theorem dX10_pairRests_51 : decode cX10_pairRests 51 = .ok (.if_icmp .le 5, 3) := by decide +kernel
theorem dX10_pairRests_54 : decode cX10_pairRests 54 = .ok (.iconst 0, 1) := by decide +kernel
theorem dX10_pairRests_55 : decode cX10_pairRests 55 = .ok (.ireturn, 1) := by decide +kernel
theorem dX10_pairRests_56 : decode cX10_pairRests 56 = .ok (.iinc 4 1, 3) := by decide +kernel
theorem dX10_pairRests_59 : decode cX10_pairRests 59 = .ok (.goto (-44), 3) := by decide +kernel
theorem dX10_pairRests_62 : decode cX10_pairRests 62 = .ok (.iconst 1, 1) := by decide +kernel
theorem dX10_pairRests_63 : decode cX10_pairRests 63 = .ok (.ireturn, 1) := by decide +kernel
theorem dX10_fittingHolders_0 : decode cX10_fittingHolders 0 = .ok (.iconst 0, 1) := by decide +kernel
theorem dX10_fittingHolders_1 : decode cX10_fittingHolders 1 = .ok (.istore_n 1, 1) := by decide +kernel
theorem dX10_fittingHolders_2 : decode cX10_fittingHolders 2 = .ok (.iconst 0, 1) := by decide +kernel
theorem dX10_fittingHolders_3 : decode cX10_fittingHolders 3 = .ok (.istore_n 2, 1) := by decide +kernel
theorem dX10_fittingHolders_4 : decode cX10_fittingHolders 4 = .ok (.iload_n 2, 1) := by decide +kernel
theorem dX10_fittingHolders_5 : decode cX10_fittingHolders 5 = .ok (.bipush 6, 2) := by decide +kernel
theorem dX10_fittingHolders_7 : decode cX10_fittingHolders 7 = .ok (.if_icmp .ge 23, 3) := by decide +kernel
theorem dX10_fittingHolders_10 : decode cX10_fittingHolders 10 = .ok (.aload_n 0, 1) := by decide +kernel
theorem dX10_fittingHolders_11 : decode cX10_fittingHolders 11 = .ok (.iload_n 2, 1) := by decide +kernel
theorem dX10_fittingHolders_12 : decode cX10_fittingHolders 12 = .ok (.invokevirtual 300, 3) := by decide +kernel
theorem dX10_fittingHolders_15 : decode cX10_fittingHolders 15 = .ok (.ifCond .eq 9, 3) := by decide +kernel
theorem dX10_fittingHolders_18 : decode cX10_fittingHolders 18 = .ok (.iload_n 1, 1) := by decide +kernel
theorem dX10_fittingHolders_19 : decode cX10_fittingHolders 19 = .ok (.iconst 1, 1) := by decide +kernel
theorem dX10_fittingHolders_20 : decode cX10_fittingHolders 20 = .ok (.iload_n 2, 1) := by decide +kernel
theorem dX10_fittingHolders_21 : decode cX10_fittingHolders 21 = .ok (.ishl, 1) := by decide +kernel
theorem dX10_fittingHolders_22 : decode cX10_fittingHolders 22 = .ok (.ior, 1) := by decide +kernel
theorem dX10_fittingHolders_23 : decode cX10_fittingHolders 23 = .ok (.istore_n 1, 1) := by decide +kernel
theorem dX10_fittingHolders_24 : decode cX10_fittingHolders 24 = .ok (.iinc 2 1, 3) := by decide +kernel
theorem dX10_fittingHolders_27 : decode cX10_fittingHolders 27 = .ok (.goto (-23), 3) := by decide +kernel
theorem dX10_fittingHolders_30 : decode cX10_fittingHolders 30 = .ok (.iload_n 1, 1) := by decide +kernel
theorem dX10_fittingHolders_31 : decode cX10_fittingHolders 31 = .ok (.ireturn, 1) := by decide +kernel
theorem dX10_allNotesFit_0 : decode cX10_allNotesFit 0 = .ok (.aload_n 0, 1) := by decide +kernel
theorem dX10_allNotesFit_1 : decode cX10_allNotesFit 1 = .ok (.getfield 10, 3) := by decide +kernel
theorem dX10_allNotesFit_4 : decode cX10_allNotesFit 4 = .ok (.getfield 228, 3) := by decide +kernel
theorem dX10_allNotesFit_7 : decode cX10_allNotesFit 7 = .ok (.astore_n 2, 1) := by decide +kernel
theorem dX10_allNotesFit_8 : decode cX10_allNotesFit 8 = .ok (.iconst 0, 1) := by decide +kernel
theorem dX10_allNotesFit_9 : decode cX10_allNotesFit 9 = .ok (.istore_n 3, 1) := by decide +kernel
theorem dX10_allNotesFit_10 : decode cX10_allNotesFit 10 = .ok (.iload_n 3, 1) := by decide +kernel
theorem dX10_allNotesFit_11 : decode cX10_allNotesFit 11 = .ok (.aload_n 2, 1) := by decide +kernel
theorem dX10_allNotesFit_12 : decode cX10_allNotesFit 12 = .ok (.getfield 84, 3) := by decide +kernel
theorem dX10_allNotesFit_15 : decode cX10_allNotesFit 15 = .ok (.if_icmp .ge 60, 3) := by decide +kernel
theorem dX10_allNotesFit_18 : decode cX10_allNotesFit 18 = .ok (.iload_n 1, 1) := by decide +kernel
theorem dX10_allNotesFit_19 : decode cX10_allNotesFit 19 = .ok (.aload_n 0, 1) := by decide +kernel
theorem dX10_allNotesFit_20 : decode cX10_allNotesFit 20 = .ok (.getfield 10, 3) := by decide +kernel
theorem dX10_allNotesFit_23 : decode cX10_allNotesFit 23 = .ok (.getfield 63, 3) := by decide +kernel
theorem dX10_allNotesFit_26 : decode cX10_allNotesFit 26 = .ok (.aload_n 0, 1) := by decide +kernel
theorem dX10_allNotesFit_27 : decode cX10_allNotesFit 27 = .ok (.getfield 10, 3) := by decide +kernel
theorem dX10_allNotesFit_30 : decode cX10_allNotesFit 30 = .ok (.getfield 136, 3) := by decide +kernel
theorem dX10_allNotesFit_33 : decode cX10_allNotesFit 33 = .ok (.aload_n 2, 1) := by decide +kernel
theorem dX10_allNotesFit_34 : decode cX10_allNotesFit 34 = .ok (.iload_n 3, 1) := by decide +kernel
theorem dX10_allNotesFit_35 : decode cX10_allNotesFit 35 = .ok (.iconst 0, 1) := by decide +kernel
theorem dX10_allNotesFit_36 : decode cX10_allNotesFit 36 = .ok (.invokevirtual 303, 3) := by decide +kernel
theorem dX10_allNotesFit_39 : decode cX10_allNotesFit 39 = .ok (.aload_n 2, 1) := by decide +kernel
theorem dX10_allNotesFit_40 : decode cX10_allNotesFit 40 = .ok (.iload_n 3, 1) := by decide +kernel
theorem dX10_allNotesFit_41 : decode cX10_allNotesFit 41 = .ok (.iconst 1, 1) := by decide +kernel
theorem dX10_allNotesFit_42 : decode cX10_allNotesFit 42 = .ok (.invokevirtual 303, 3) := by decide +kernel
theorem dX10_allNotesFit_45 : decode cX10_allNotesFit 45 = .ok (.aload_n 2, 1) := by decide +kernel
theorem dX10_allNotesFit_46 : decode cX10_allNotesFit 46 = .ok (.iload_n 3, 1) := by decide +kernel
theorem dX10_allNotesFit_47 : decode cX10_allNotesFit 47 = .ok (.iconst 2, 1) := by decide +kernel
theorem dX10_allNotesFit_48 : decode cX10_allNotesFit 48 = .ok (.invokevirtual 303, 3) := by decide +kernel
theorem dX10_allNotesFit_51 : decode cX10_allNotesFit 51 = .ok (.invokestatic 290, 3) := by decide +kernel
theorem dX10_allNotesFit_54 : decode cX10_allNotesFit 54 = .ok (.istore 4, 2) := by decide +kernel
theorem dX10_allNotesFit_56 : decode cX10_allNotesFit 56 = .ok (.iload 4, 2) := by decide +kernel
theorem dX10_allNotesFit_58 : decode cX10_allNotesFit 58 = .ok (.aload_n 2, 1) := by decide +kernel
theorem dX10_allNotesFit_59 : decode cX10_allNotesFit 59 = .ok (.iload_n 3, 1) := by decide +kernel
theorem dX10_allNotesFit_60 : decode cX10_allNotesFit 60 = .ok (.iconst 3, 1) := by decide +kernel
theorem dX10_allNotesFit_61 : decode cX10_allNotesFit 61 = .ok (.invokevirtual 303, 3) := by decide +kernel
theorem dX10_allNotesFit_64 : decode cX10_allNotesFit 64 = .ok (.if_icmp .eq 5, 3) := by decide +kernel
theorem dX10_allNotesFit_67 : decode cX10_allNotesFit 67 = .ok (.iconst 0, 1) := by decide +kernel
theorem dX10_allNotesFit_68 : decode cX10_allNotesFit 68 = .ok (.ireturn, 1) := by decide +kernel
theorem dX10_allNotesFit_69 : decode cX10_allNotesFit 69 = .ok (.iinc 3 1, 3) := by decide +kernel
theorem dX10_allNotesFit_72 : decode cX10_allNotesFit 72 = .ok (.goto (-62), 3) := by decide +kernel
theorem dX10_allNotesFit_75 : decode cX10_allNotesFit 75 = .ok (.iconst 1, 1) := by decide +kernel
theorem dX10_allNotesFit_76 : decode cX10_allNotesFit 76 = .ok (.ireturn, 1) := by decide +kernel
theorem dX10_fittingGuessers_0 : decode cX10_fittingGuessers 0 = .ok (.iconst 0, 1) := by decide +kernel
theorem dX10_fittingGuessers_1 : decode cX10_fittingGuessers 1 = .ok (.istore_n 1, 1) := by decide +kernel
theorem dX10_fittingGuessers_2 : decode cX10_fittingGuessers 2 = .ok (.iconst 0, 1) := by decide +kernel
theorem dX10_fittingGuessers_3 : decode cX10_fittingGuessers 3 = .ok (.istore_n 2, 1) := by decide +kernel
theorem dX10_fittingGuessers_4 : decode cX10_fittingGuessers 4 = .ok (.iload_n 2, 1) := by decide +kernel
theorem dX10_fittingGuessers_5 : decode cX10_fittingGuessers 5 = .ok (.bipush 6, 2) := by decide +kernel
theorem dX10_fittingGuessers_7 : decode cX10_fittingGuessers 7 = .ok (.if_icmp .ge 23, 3) := by decide +kernel
theorem dX10_fittingGuessers_10 : decode cX10_fittingGuessers 10 = .ok (.aload_n 0, 1) := by decide +kernel
theorem dX10_fittingGuessers_11 : decode cX10_fittingGuessers 11 = .ok (.iload_n 2, 1) := by decide +kernel
theorem dX10_fittingGuessers_12 : decode cX10_fittingGuessers 12 = .ok (.invokevirtual 306, 3) := by decide +kernel
theorem dX10_fittingGuessers_15 : decode cX10_fittingGuessers 15 = .ok (.ifCond .eq 9, 3) := by decide +kernel
theorem dX10_fittingGuessers_18 : decode cX10_fittingGuessers 18 = .ok (.iload_n 1, 1) := by decide +kernel
theorem dX10_fittingGuessers_19 : decode cX10_fittingGuessers 19 = .ok (.iconst 1, 1) := by decide +kernel
theorem dX10_fittingGuessers_20 : decode cX10_fittingGuessers 20 = .ok (.iload_n 2, 1) := by decide +kernel
theorem dX10_fittingGuessers_21 : decode cX10_fittingGuessers 21 = .ok (.ishl, 1) := by decide +kernel
theorem dX10_fittingGuessers_22 : decode cX10_fittingGuessers 22 = .ok (.ior, 1) := by decide +kernel
theorem dX10_fittingGuessers_23 : decode cX10_fittingGuessers 23 = .ok (.istore_n 1, 1) := by decide +kernel
theorem dX10_fittingGuessers_24 : decode cX10_fittingGuessers 24 = .ok (.iinc 2 1, 3) := by decide +kernel
theorem dX10_fittingGuessers_27 : decode cX10_fittingGuessers 27 = .ok (.goto (-23), 3) := by decide +kernel
theorem dX10_fittingGuessers_30 : decode cX10_fittingGuessers 30 = .ok (.iload_n 1, 1) := by decide +kernel
theorem dX10_fittingGuessers_31 : decode cX10_fittingGuessers 31 = .ok (.ireturn, 1) := by decide +kernel
theorem dX10_allMarksFit_0 : decode cX10_allMarksFit 0 = .ok (.aload_n 0, 1) := by decide +kernel
theorem dX10_allMarksFit_1 : decode cX10_allMarksFit 1 = .ok (.getfield 10, 3) := by decide +kernel
theorem dX10_allMarksFit_4 : decode cX10_allMarksFit 4 = .ok (.getfield 238, 3) := by decide +kernel
theorem dX10_allMarksFit_7 : decode cX10_allMarksFit 7 = .ok (.astore_n 2, 1) := by decide +kernel
theorem dX10_allMarksFit_8 : decode cX10_allMarksFit 8 = .ok (.iconst 0, 1) := by decide +kernel
theorem dX10_allMarksFit_9 : decode cX10_allMarksFit 9 = .ok (.istore_n 3, 1) := by decide +kernel
theorem dX10_allMarksFit_10 : decode cX10_allMarksFit 10 = .ok (.iload_n 3, 1) := by decide +kernel
theorem dX10_allMarksFit_11 : decode cX10_allMarksFit 11 = .ok (.aload_n 2, 1) := by decide +kernel
theorem dX10_allMarksFit_12 : decode cX10_allMarksFit 12 = .ok (.getfield 84, 3) := by decide +kernel
theorem dX10_allMarksFit_15 : decode cX10_allMarksFit 15 = .ok (.if_icmp .ge 43, 3) := by decide +kernel
theorem dX10_allMarksFit_18 : decode cX10_allMarksFit 18 = .ok (.iload_n 1, 1) := by decide +kernel
theorem dX10_allMarksFit_19 : decode cX10_allMarksFit 19 = .ok (.aload_n 0, 1) := by decide +kernel
theorem dX10_allMarksFit_20 : decode cX10_allMarksFit 20 = .ok (.getfield 10, 3) := by decide +kernel
theorem dX10_allMarksFit_23 : decode cX10_allMarksFit 23 = .ok (.getfield 63, 3) := by decide +kernel
theorem dX10_allMarksFit_26 : decode cX10_allMarksFit 26 = .ok (.aload_n 2, 1) := by decide +kernel
theorem dX10_allMarksFit_27 : decode cX10_allMarksFit 27 = .ok (.iload_n 3, 1) := by decide +kernel
theorem dX10_allMarksFit_28 : decode cX10_allMarksFit 28 = .ok (.iconst 0, 1) := by decide +kernel
theorem dX10_allMarksFit_29 : decode cX10_allMarksFit 29 = .ok (.invokevirtual 303, 3) := by decide +kernel
theorem dX10_allMarksFit_32 : decode cX10_allMarksFit 32 = .ok (.aload_n 2, 1) := by decide +kernel
theorem dX10_allMarksFit_33 : decode cX10_allMarksFit 33 = .ok (.iload_n 3, 1) := by decide +kernel
theorem dX10_allMarksFit_34 : decode cX10_allMarksFit 34 = .ok (.iconst 1, 1) := by decide +kernel
theorem dX10_allMarksFit_35 : decode cX10_allMarksFit 35 = .ok (.invokevirtual 303, 3) := by decide +kernel
theorem dX10_allMarksFit_38 : decode cX10_allMarksFit 38 = .ok (.invokestatic 184, 3) := by decide +kernel
theorem dX10_allMarksFit_41 : decode cX10_allMarksFit 41 = .ok (.aload_n 2, 1) := by decide +kernel
theorem dX10_allMarksFit_42 : decode cX10_allMarksFit 42 = .ok (.iload_n 3, 1) := by decide +kernel
theorem dX10_allMarksFit_43 : decode cX10_allMarksFit 43 = .ok (.iconst 2, 1) := by decide +kernel
theorem dX10_allMarksFit_44 : decode cX10_allMarksFit 44 = .ok (.invokevirtual 303, 3) := by decide +kernel
theorem dX10_allMarksFit_47 : decode cX10_allMarksFit 47 = .ok (.if_icmp .eq 5, 3) := by decide +kernel
theorem dX10_allMarksFit_50 : decode cX10_allMarksFit 50 = .ok (.iconst 0, 1) := by decide +kernel
theorem dX10_allMarksFit_51 : decode cX10_allMarksFit 51 = .ok (.ireturn, 1) := by decide +kernel
theorem dX10_allMarksFit_52 : decode cX10_allMarksFit 52 = .ok (.iinc 3 1, 3) := by decide +kernel
theorem dX10_allMarksFit_55 : decode cX10_allMarksFit 55 = .ok (.goto (-45), 3) := by decide +kernel
theorem dX10_allMarksFit_58 : decode cX10_allMarksFit 58 = .ok (.iconst 1, 1) := by decide +kernel
theorem dX10_allMarksFit_59 : decode cX10_allMarksFit 59 = .ok (.ireturn, 1) := by decide +kernel
theorem dX10_mostAlike_0 : decode cX10_mostAlike 0 = .ok (.iconst 0, 1) := by decide +kernel
theorem dX10_mostAlike_1 : decode cX10_mostAlike 1 = .ok (.istore_n 2, 1) := by decide +kernel
theorem dX10_mostAlike_2 : decode cX10_mostAlike 2 = .ok (.iconst 0, 1) := by decide +kernel
theorem dX10_mostAlike_3 : decode cX10_mostAlike 3 = .ok (.istore_n 3, 1) := by decide +kernel
theorem dX10_mostAlike_4 : decode cX10_mostAlike 4 = .ok (.iload_n 3, 1) := by decide +kernel
theorem dX10_mostAlike_5 : decode cX10_mostAlike 5 = .ok (.bipush 6, 2) := by decide +kernel
theorem dX10_mostAlike_7 : decode cX10_mostAlike 7 = .ok (.if_icmp .ge 63, 3) := by decide +kernel
theorem dX10_mostAlike_10 : decode cX10_mostAlike 10 = .ok (.iconst 0, 1) := by decide +kernel
theorem dX10_mostAlike_11 : decode cX10_mostAlike 11 = .ok (.istore 4, 2) := by decide +kernel
theorem dX10_mostAlike_13 : decode cX10_mostAlike 13 = .ok (.iconst 0, 1) := by decide +kernel
theorem dX10_mostAlike_14 : decode cX10_mostAlike 14 = .ok (.istore 5, 2) := by decide +kernel
theorem dX10_mostAlike_16 : decode cX10_mostAlike 16 = .ok (.iload 5, 2) := by decide +kernel
theorem dX10_mostAlike_18 : decode cX10_mostAlike 18 = .ok (.bipush 6, 2) := by decide +kernel
theorem dX10_mostAlike_20 : decode cX10_mostAlike 20 = .ok (.if_icmp .ge 37, 3) := by decide +kernel
theorem dX10_mostAlike_23 : decode cX10_mostAlike 23 = .ok (.iload_n 1, 1) := by decide +kernel
theorem dX10_mostAlike_24 : decode cX10_mostAlike 24 = .ok (.iload 5, 2) := by decide +kernel
theorem dX10_mostAlike_26 : decode cX10_mostAlike 26 = .ok (.ishr, 1) := by decide +kernel
theorem dX10_mostAlike_27 : decode cX10_mostAlike 27 = .ok (.iconst 1, 1) := by decide +kernel
theorem dX10_mostAlike_28 : decode cX10_mostAlike 28 = .ok (.iand, 1) := by decide +kernel
theorem dX10_mostAlike_29 : decode cX10_mostAlike 29 = .ok (.ifCond .eq 22, 3) := by decide +kernel
theorem dX10_mostAlike_32 : decode cX10_mostAlike 32 = .ok (.aload_n 0, 1) := by decide +kernel
theorem dX10_mostAlike_33 : decode cX10_mostAlike 33 = .ok (.getfield 52, 3) := by decide +kernel
theorem dX10_mostAlike_36 : decode cX10_mostAlike 36 = .ok (.iload 5, 2) := by decide +kernel
theorem dX10_mostAlike_38 : decode cX10_mostAlike 38 = .ok (.iaload, 1) := by decide +kernel
theorem dX10_mostAlike_39 : decode cX10_mostAlike 39 = .ok (.aload_n 0, 1) := by decide +kernel
theorem dX10_mostAlike_40 : decode cX10_mostAlike 40 = .ok (.getfield 52, 3) := by decide +kernel
theorem dX10_mostAlike_43 : decode cX10_mostAlike 43 = .ok (.iload_n 3, 1) := by decide +kernel
theorem dX10_mostAlike_44 : decode cX10_mostAlike 44 = .ok (.iaload, 1) := by decide +kernel
theorem dX10_mostAlike_45 : decode cX10_mostAlike 45 = .ok (.if_icmp .ne 6, 3) := by decide +kernel
theorem dX10_mostAlike_48 : decode cX10_mostAlike 48 = .ok (.iinc 4 1, 3) := by decide +kernel
theorem dX10_mostAlike_51 : decode cX10_mostAlike 51 = .ok (.iinc 5 1, 3) := by decide +kernel
theorem dX10_mostAlike_54 : decode cX10_mostAlike 54 = .ok (.goto (-38), 3) := by decide +kernel
theorem dX10_mostAlike_57 : decode cX10_mostAlike 57 = .ok (.iload_n 2, 1) := by decide +kernel
theorem dX10_mostAlike_58 : decode cX10_mostAlike 58 = .ok (.iload 4, 2) := by decide +kernel
theorem dX10_mostAlike_60 : decode cX10_mostAlike 60 = .ok (.invokestatic 309, 3) := by decide +kernel
theorem dX10_mostAlike_63 : decode cX10_mostAlike 63 = .ok (.istore_n 2, 1) := by decide +kernel
theorem dX10_mostAlike_64 : decode cX10_mostAlike 64 = .ok (.iinc 3 1, 3) := by decide +kernel
theorem dX10_mostAlike_67 : decode cX10_mostAlike 67 = .ok (.goto (-63), 3) := by decide +kernel
theorem dX10_mostAlike_70 : decode cX10_mostAlike 70 = .ok (.iload_n 2, 1) := by decide +kernel
theorem dX10_mostAlike_71 : decode cX10_mostAlike 71 = .ok (.ireturn, 1) := by decide +kernel
theorem dX10_leastOf_0 : decode cX10_leastOf 0 = .ok (.iconst 0, 1) := by decide +kernel
theorem dX10_leastOf_1 : decode cX10_leastOf 1 = .ok (.istore_n 1, 1) := by decide +kernel
theorem dX10_leastOf_2 : decode cX10_leastOf 2 = .ok (.iload_n 1, 1) := by decide +kernel
theorem dX10_leastOf_3 : decode cX10_leastOf 3 = .ok (.bipush 8, 2) := by decide +kernel
theorem dX10_leastOf_5 : decode cX10_leastOf 5 = .ok (.if_icmp .ge 19, 3) := by decide +kernel
theorem dX10_leastOf_8 : decode cX10_leastOf 8 = .ok (.iload_n 0, 1) := by decide +kernel
theorem dX10_leastOf_9 : decode cX10_leastOf 9 = .ok (.iload_n 1, 1) := by decide +kernel
theorem dX10_leastOf_10 : decode cX10_leastOf 10 = .ok (.ishr, 1) := by decide +kernel
theorem dX10_leastOf_11 : decode cX10_leastOf 11 = .ok (.iconst 1, 1) := by decide +kernel
theorem dX10_leastOf_12 : decode cX10_leastOf 12 = .ok (.iand, 1) := by decide +kernel
theorem dX10_leastOf_13 : decode cX10_leastOf 13 = .ok (.ifCond .eq 5, 3) := by decide +kernel
theorem dX10_leastOf_16 : decode cX10_leastOf 16 = .ok (.iload_n 1, 1) := by decide +kernel
theorem dX10_leastOf_17 : decode cX10_leastOf 17 = .ok (.ireturn, 1) := by decide +kernel
theorem dX10_leastOf_18 : decode cX10_leastOf 18 = .ok (.iinc 1 1, 3) := by decide +kernel
theorem dX10_leastOf_21 : decode cX10_leastOf 21 = .ok (.goto (-19), 3) := by decide +kernel
theorem dX10_leastOf_24 : decode cX10_leastOf 24 = .ok (.iconst (-1), 1) := by decide +kernel
theorem dX10_leastOf_25 : decode cX10_leastOf 25 = .ok (.ireturn, 1) := by decide +kernel
theorem dX11_bad_0 : decode cX11_bad 0 = .ok (.aload_n 0, 1) := by decide +kernel
theorem dX11_bad_1 : decode cX11_bad 1 = .ok (.getfield 1, 3) := by decide +kernel
theorem dX11_bad_4 : decode cX11_bad 4 = .ok (.iconst 0, 1) := by decide +kernel
theorem dX11_bad_5 : decode cX11_bad 5 = .ok (.dup2, 1) := by decide +kernel
theorem dX11_bad_6 : decode cX11_bad 6 = .ok (.iaload, 1) := by decide +kernel
theorem dX11_bad_7 : decode cX11_bad 7 = .ok (.iconst 1, 1) := by decide +kernel
theorem dX11_bad_8 : decode cX11_bad 8 = .ok (.iadd, 1) := by decide +kernel
theorem dX11_bad_9 : decode cX11_bad 9 = .ok (.iastore, 1) := by decide +kernel
theorem dX11_bad_10 : decode cX11_bad 10 = .ok (.bipush (-2), 2) := by decide +kernel
theorem dX11_bad_12 : decode cX11_bad 12 = .ok (.ireturn, 1) := by decide +kernel
theorem dX11_ten_0 : decode cX11_ten 0 = .ok (.aload_n 0, 1) := by decide +kernel
theorem dX11_ten_1 : decode cX11_ten 1 = .ok (.getfield 1, 3) := by decide +kernel
theorem dX11_ten_4 : decode cX11_ten 4 = .ok (.iconst 0, 1) := by decide +kernel
theorem dX11_ten_5 : decode cX11_ten 5 = .ok (.dup2, 1) := by decide +kernel
theorem dX11_ten_6 : decode cX11_ten 6 = .ok (.iaload, 1) := by decide +kernel
theorem dX11_ten_7 : decode cX11_ten 7 = .ok (.iconst 1, 1) := by decide +kernel
theorem dX11_ten_8 : decode cX11_ten 8 = .ok (.iadd, 1) := by decide +kernel
theorem dX11_ten_9 : decode cX11_ten 9 = .ok (.iastore, 1) := by decide +kernel
theorem dX11_ten_10 : decode cX11_ten 10 = .ok (.bipush (-10), 2) := by decide +kernel
theorem dX11_ten_12 : decode cX11_ten 12 = .ok (.ireturn, 1) := by decide +kernel
theorem dX11_no_0 : decode cX11_no 0 = .ok (.aload_n 0, 1) := by decide +kernel
theorem dX11_no_1 : decode cX11_no 1 = .ok (.getfield 1, 3) := by decide +kernel
theorem dX11_no_4 : decode cX11_no 4 = .ok (.iconst 1, 1) := by decide +kernel
theorem dX11_no_5 : decode cX11_no 5 = .ok (.dup2, 1) := by decide +kernel
theorem dX11_no_6 : decode cX11_no 6 = .ok (.iaload, 1) := by decide +kernel
theorem dX11_no_7 : decode cX11_no 7 = .ok (.iconst 1, 1) := by decide +kernel
theorem dX11_no_8 : decode cX11_no 8 = .ok (.iadd, 1) := by decide +kernel
theorem dX11_no_9 : decode cX11_no 9 = .ok (.iastore, 1) := by decide +kernel
theorem dX11_no_10 : decode cX11_no 10 = .ok (.bipush (-3), 2) := by decide +kernel
theorem dX11_no_12 : decode cX11_no 12 = .ok (.ireturn, 1) := by decide +kernel
theorem dX11_full_0 : decode cX11_full 0 = .ok (.aload_n 0, 1) := by decide +kernel
theorem dX11_full_1 : decode cX11_full 1 = .ok (.getfield 1, 3) := by decide +kernel
theorem dX11_full_4 : decode cX11_full 4 = .ok (.iconst 2, 1) := by decide +kernel
theorem dX11_full_5 : decode cX11_full 5 = .ok (.dup2, 1) := by decide +kernel
theorem dX11_full_6 : decode cX11_full 6 = .ok (.iaload, 1) := by decide +kernel
theorem dX11_full_7 : decode cX11_full 7 = .ok (.iconst 1, 1) := by decide +kernel
theorem dX11_full_8 : decode cX11_full 8 = .ok (.iadd, 1) := by decide +kernel
theorem dX11_full_9 : decode cX11_full 9 = .ok (.iastore, 1) := by decide +kernel
theorem dX11_full_10 : decode cX11_full 10 = .ok (.bipush (-4), 2) := by decide +kernel
theorem dX11_full_12 : decode cX11_full 12 = .ok (.ireturn, 1) := by decide +kernel
theorem dX11_in_0 : decode cX11_in 0 = .ok (.iload_n 0, 1) := by decide +kernel
theorem dX11_in_1 : decode cX11_in 1 = .ok (.iload_n 1, 1) := by decide +kernel
theorem dX11_in_2 : decode cX11_in 2 = .ok (.if_icmp .lt 12, 3) := by decide +kernel
theorem dX11_in_5 : decode cX11_in 5 = .ok (.iload_n 0, 1) := by decide +kernel
theorem dX11_in_6 : decode cX11_in 6 = .ok (.iload_n 2, 1) := by decide +kernel
theorem dX11_in_7 : decode cX11_in 7 = .ok (.if_icmp .gt 7, 3) := by decide +kernel
theorem dX11_in_10 : decode cX11_in 10 = .ok (.iconst 1, 1) := by decide +kernel
theorem dX11_in_11 : decode cX11_in 11 = .ok (.goto 4, 3) := by decide +kernel
theorem dX11_in_14 : decode cX11_in 14 = .ok (.iconst 0, 1) := by decide +kernel
theorem dX11_in_15 : decode cX11_in 15 = .ok (.ireturn, 1) := by decide +kernel
theorem dX11_has_0 : decode cX11_has 0 = .ok (.iload_n 0, 1) := by decide +kernel
theorem dX11_has_1 : decode cX11_has 1 = .ok (.iload_n 1, 1) := by decide +kernel
theorem dX11_has_2 : decode cX11_has 2 = .ok (.ishr, 1) := by decide +kernel
theorem dX11_has_3 : decode cX11_has 3 = .ok (.iconst 1, 1) := by decide +kernel
theorem dX11_has_4 : decode cX11_has 4 = .ok (.iand, 1) := by decide +kernel
theorem dX11_has_5 : decode cX11_has 5 = .ok (.iconst 1, 1) := by decide +kernel
theorem dX11_has_6 : decode cX11_has 6 = .ok (.if_icmp .ne 7, 3) := by decide +kernel
theorem dX11_has_9 : decode cX11_has 9 = .ok (.iconst 1, 1) := by decide +kernel
theorem dX11_has_10 : decode cX11_has 10 = .ok (.goto 4, 3) := by decide +kernel
theorem dX11_has_13 : decode cX11_has 13 = .ok (.iconst 0, 1) := by decide +kernel
theorem dX11_has_14 : decode cX11_has 14 = .ok (.ireturn, 1) := by decide +kernel
theorem dX11_bits_0 : decode cX11_bits 0 = .ok (.iconst 0, 1) := by decide +kernel
theorem dX11_bits_1 : decode cX11_bits 1 = .ok (.istore_n 1, 1) := by decide +kernel
theorem dX11_bits_2 : decode cX11_bits 2 = .ok (.iconst 0, 1) := by decide +kernel
theorem dX11_bits_3 : decode cX11_bits 3 = .ok (.istore_n 2, 1) := by decide +kernel
theorem dX11_bits_4 : decode cX11_bits 4 = .ok (.iload_n 2, 1) := by decide +kernel
theorem dX11_bits_5 : decode cX11_bits 5 = .ok (.bipush 10, 2) := by decide +kernel
theorem dX11_bits_7 : decode cX11_bits 7 = .ok (.if_icmp .ge 17, 3) := by decide +kernel
theorem dX11_bits_10 : decode cX11_bits 10 = .ok (.iload_n 1, 1) := by decide +kernel
theorem dX11_bits_11 : decode cX11_bits 11 = .ok (.iload_n 0, 1) := by decide +kernel
theorem dX11_bits_12 : decode cX11_bits 12 = .ok (.iload_n 2, 1) := by decide +kernel
theorem dX11_bits_13 : decode cX11_bits 13 = .ok (.ishr, 1) := by decide +kernel
theorem dX11_bits_14 : decode cX11_bits 14 = .ok (.iconst 1, 1) := by decide +kernel
theorem dX11_bits_15 : decode cX11_bits 15 = .ok (.iand, 1) := by decide +kernel
theorem dX11_bits_16 : decode cX11_bits 16 = .ok (.iadd, 1) := by decide +kernel
theorem dX11_bits_17 : decode cX11_bits 17 = .ok (.istore_n 1, 1) := by decide +kernel
theorem dX11_bits_18 : decode cX11_bits 18 = .ok (.iinc 2 1, 3) := by decide +kernel
theorem dX11_bits_21 : decode cX11_bits 21 = .ok (.goto (-17), 3) := by decide +kernel
theorem dX11_bits_24 : decode cX11_bits 24 = .ok (.iload_n 1, 1) := by decide +kernel
theorem dX11_bits_25 : decode cX11_bits 25 = .ok (.ireturn, 1) := by decide +kernel
theorem dX11_init_0 : decode cX11_init 0 = .ok (.aload_n 0, 1) := by decide +kernel
theorem dX11_init_1 : decode cX11_init 1 = .ok (.invokespecial 7, 3) := by decide +kernel
theorem dX11_init_4 : decode cX11_init 4 = .ok (.aload_n 0, 1) := by decide +kernel
theorem dX11_init_5 : decode cX11_init 5 = .ok (.iconst 3, 1) := by decide +kernel
theorem dX11_init_6 : decode cX11_init 6 = .ok (.newarray .int, 2) := by decide +kernel
theorem dX11_init_8 : decode cX11_init 8 = .ok (.putfield 1, 3) := by decide +kernel
theorem dX11_init_11 : decode cX11_init 11 = .ok (.aload_n 0, 1) := by decide +kernel
theorem dX11_init_12 : decode cX11_init 12 = .ok (.bipush 8, 2) := by decide +kernel
theorem dX11_init_14 : decode cX11_init 14 = .ok (.newarray .int, 2) := by decide +kernel
theorem dX11_init_16 : decode cX11_init 16 = .ok (.putfield 13, 3) := by decide +kernel
theorem dX11_init_19 : decode cX11_init 19 = .ok (.aload_n 0, 1) := by decide +kernel
theorem dX11_init_20 : decode cX11_init 20 = .ok (.bipush 24, 2) := by decide +kernel
theorem dX11_init_22 : decode cX11_init 22 = .ok (.newarray .int, 2) := by decide +kernel
theorem dX11_init_24 : decode cX11_init 24 = .ok (.putfield 16, 3) := by decide +kernel
theorem dX11_init_27 : decode cX11_init 27 = .ok (.aload_n 0, 1) := by decide +kernel
theorem dX11_init_28 : decode cX11_init 28 = .ok (.bipush 18, 2) := by decide +kernel
theorem dX11_init_30 : decode cX11_init 30 = .ok (.newarray .int, 2) := by decide +kernel
theorem dX11_init_32 : decode cX11_init 32 = .ok (.putfield 19, 3) := by decide +kernel
theorem dX11_init_35 : decode cX11_init 35 = .ok (.aload_n 0, 1) := by decide +kernel
theorem dX11_init_36 : decode cX11_init 36 = .ok (.bipush 80, 2) := by decide +kernel
theorem dX11_init_38 : decode cX11_init 38 = .ok (.newarray .int, 2) := by decide +kernel
theorem dX11_init_40 : decode cX11_init 40 = .ok (.putfield 22, 3) := by decide +kernel
theorem dX11_init_43 : decode cX11_init 43 = .ok (.aload_n 0, 1) := by decide +kernel
theorem dX11_init_44 : decode cX11_init 44 = .ok (.sipush 150, 3) := by decide +kernel
theorem dX11_init_47 : decode cX11_init 47 = .ok (.newarray .int, 2) := by decide +kernel
theorem dX11_init_49 : decode cX11_init 49 = .ok (.putfield 25, 3) := by decide +kernel
theorem dX11_init_52 : decode cX11_init 52 = .ok (.aload_n 0, 1) := by decide +kernel
theorem dX11_init_53 : decode cX11_init 53 = .ok (.bipush 92, 2) := by decide +kernel
theorem dX11_init_55 : decode cX11_init 55 = .ok (.newarray .int, 2) := by decide +kernel
theorem dX11_init_57 : decode cX11_init 57 = .ok (.putfield 28, 3) := by decide +kernel
theorem dX11_init_60 : decode cX11_init 60 = .ok (.aload_n 0, 1) := by decide +kernel
theorem dX11_init_61 : decode cX11_init 61 = .ok (.bipush 32, 2) := by decide +kernel
theorem dX11_init_63 : decode cX11_init 63 = .ok (.newarray .int, 2) := by decide +kernel
theorem dX11_init_65 : decode cX11_init 65 = .ok (.putfield 31, 3) := by decide +kernel
theorem dX11_init_68 : decode cX11_init 68 = .ok (.aload_n 0, 1) := by decide +kernel
theorem dX11_init_69 : decode cX11_init 69 = .ok (.iconst 4, 1) := by decide +kernel
theorem dX11_init_70 : decode cX11_init 70 = .ok (.newarray .int, 2) := by decide +kernel
theorem dX11_init_72 : decode cX11_init 72 = .ok (.putfield 34, 3) := by decide +kernel
theorem dX11_init_75 : decode cX11_init 75 = .ok (.aload_n 0, 1) := by decide +kernel
theorem dX11_init_76 : decode cX11_init 76 = .ok (.sipush 256, 3) := by decide +kernel
theorem dX11_init_79 : decode cX11_init 79 = .ok (.newarray .int, 2) := by decide +kernel
theorem dX11_init_81 : decode cX11_init 81 = .ok (.putfield 37, 3) := by decide +kernel
theorem dX11_init_84 : decode cX11_init 84 = .ok (.aload_n 0, 1) := by decide +kernel
theorem dX11_init_85 : decode cX11_init 85 = .ok (.lconst 1, 1) := by decide +kernel
theorem dX11_init_86 : decode cX11_init 86 = .ok (.putfield 40, 3) := by decide +kernel
theorem dX11_init_89 : decode cX11_init 89 = .ok (.aload_n 0, 1) := by decide +kernel
theorem dX11_init_90 : decode cX11_init 90 = .ok (.bipush 36, 2) := by decide +kernel
theorem dX11_init_92 : decode cX11_init 92 = .ok (.newarray .int, 2) := by decide +kernel
theorem dX11_init_94 : decode cX11_init 94 = .ok (.putfield 44, 3) := by decide +kernel
theorem dX11_init_97 : decode cX11_init 97 = .ok (.aload_n 0, 1) := by decide +kernel
theorem dX11_init_98 : decode cX11_init 98 = .ok (.bipush 6, 2) := by decide +kernel
theorem dX11_init_100 : decode cX11_init 100 = .ok (.newarray .int, 2) := by decide +kernel
theorem dX11_init_102 : decode cX11_init 102 = .ok (.putfield 47, 3) := by decide +kernel
theorem dX11_init_105 : decode cX11_init 105 = .ok (.aload_n 0, 1) := by decide +kernel
theorem dX11_init_106 : decode cX11_init 106 = .ok (.iconst 4, 1) := by decide +kernel
theorem dX11_init_107 : decode cX11_init 107 = .ok (.newarray .int, 2) := by decide +kernel
theorem dX11_init_109 : decode cX11_init 109 = .ok (.putfield 50, 3) := by decide +kernel
theorem dX11_init_112 : decode cX11_init 112 = .ok (.aload_n 0, 1) := by decide +kernel
theorem dX11_init_113 : decode cX11_init 113 = .ok (.sipush 184, 3) := by decide +kernel
theorem dX11_init_116 : decode cX11_init 116 = .ok (.newarray .int, 2) := by decide +kernel
theorem dX11_init_118 : decode cX11_init 118 = .ok (.putfield 53, 3) := by decide +kernel
theorem dX11_init_121 : decode cX11_init 121 = .ok (.aload_n 0, 1) := by decide +kernel
theorem dX11_init_122 : decode cX11_init 122 = .ok (.iconst 0, 1) := by decide +kernel
theorem dX11_init_123 : decode cX11_init 123 = .ok (.invokevirtual 56, 3) := by decide +kernel
theorem dX11_init_126 : decode cX11_init 126 = .ok (.return_, 1) := by decide +kernel
theorem dX11_begin_0 : decode cX11_begin 0 = .ok (.aload_n 0, 1) := by decide +kernel
theorem dX11_begin_1 : decode cX11_begin 1 = .ok (.iconst 0, 1) := by decide +kernel
theorem dX11_begin_2 : decode cX11_begin 2 = .ok (.putfield 60, 3) := by decide +kernel
theorem dX11_begin_5 : decode cX11_begin 5 = .ok (.aload_n 0, 1) := by decide +kernel
theorem dX11_begin_6 : decode cX11_begin 6 = .ok (.iload_n 1, 1) := by decide +kernel
theorem dX11_begin_7 : decode cX11_begin 7 = .ok (.putfield 64, 3) := by decide +kernel
theorem dX11_begin_10 : decode cX11_begin 10 = .ok (.aload_n 0, 1) := by decide +kernel
theorem dX11_begin_11 : decode cX11_begin 11 = .ok (.iconst 0, 1) := by decide +kernel
theorem dX11_begin_12 : decode cX11_begin 12 = .ok (.putfield 67, 3) := by decide +kernel
theorem dX11_begin_15 : decode cX11_begin 15 = .ok (.aload_n 0, 1) := by decide +kernel
theorem dX11_begin_16 : decode cX11_begin 16 = .ok (.iconst 0, 1) := by decide +kernel
theorem dX11_begin_17 : decode cX11_begin 17 = .ok (.putfield 70, 3) := by decide +kernel
theorem dX11_begin_20 : decode cX11_begin 20 = .ok (.aload_n 0, 1) := by decide +kernel
theorem dX11_begin_21 : decode cX11_begin 21 = .ok (.iconst 0, 1) := by decide +kernel
theorem dX11_begin_22 : decode cX11_begin 22 = .ok (.putfield 73, 3) := by decide +kernel
theorem dX11_begin_25 : decode cX11_begin 25 = .ok (.aload_n 0, 1) := by decide +kernel
theorem dX11_begin_26 : decode cX11_begin 26 = .ok (.iconst 0, 1) := by decide +kernel
theorem dX11_begin_27 : decode cX11_begin 27 = .ok (.putfield 76, 3) := by decide +kernel
theorem dX11_begin_30 : decode cX11_begin 30 = .ok (.aload_n 0, 1) := by decide +kernel
theorem dX11_begin_31 : decode cX11_begin 31 = .ok (.invokevirtual 79, 3) := by decide +kernel
theorem dX11_begin_34 : decode cX11_begin 34 = .ok (.return_, 1) := by decide +kernel
theorem dX11_beginsAnew_0 : decode cX11_beginsAnew 0 = .ok (.aload_n 0, 1) := by decide +kernel
theorem dX11_beginsAnew_1 : decode cX11_beginsAnew 1 = .ok (.iconst 0, 1) := by decide +kernel
theorem dX11_beginsAnew_2 : decode cX11_beginsAnew 2 = .ok (.putfield 82, 3) := by decide +kernel
theorem dX11_beginsAnew_5 : decode cX11_beginsAnew 5 = .ok (.aload_n 0, 1) := by decide +kernel
theorem dX11_beginsAnew_6 : decode cX11_beginsAnew 6 = .ok (.iconst 1, 1) := by decide +kernel
theorem dX11_beginsAnew_7 : decode cX11_beginsAnew 7 = .ok (.aload_n 0, 1) := by decide +kernel
theorem dX11_beginsAnew_8 : decode cX11_beginsAnew 8 = .ok (.getfield 60, 3) := by decide +kernel
theorem dX11_beginsAnew_11 : decode cX11_beginsAnew 11 = .ok (.ishl, 1) := by decide +kernel
theorem dX11_beginsAnew_12 : decode cX11_beginsAnew 12 = .ok (.iconst 1, 1) := by decide +kernel
theorem dX11_beginsAnew_13 : decode cX11_beginsAnew 13 = .ok (.isub, 1) := by decide +kernel
theorem dX11_beginsAnew_14 : decode cX11_beginsAnew 14 = .ok (.putfield 85, 3) := by decide +kernel
theorem dX11_beginsAnew_17 : decode cX11_beginsAnew 17 = .ok (.aload_n 0, 1) := by decide +kernel
theorem dX11_beginsAnew_18 : decode cX11_beginsAnew 18 = .ok (.iconst 0, 1) := by decide +kernel
theorem dX11_beginsAnew_19 : decode cX11_beginsAnew 19 = .ok (.putfield 88, 3) := by decide +kernel
theorem dX11_beginsAnew_22 : decode cX11_beginsAnew 22 = .ok (.return_, 1) := by decide +kernel
theorem dX11_isLetterNumber_0 : decode cX11_isLetterNumber 0 = .ok (.iload_n 0, 1) := by decide +kernel
theorem dX11_isLetterNumber_1 : decode cX11_isLetterNumber 1 = .ok (.iconst 0, 1) := by decide +kernel
theorem dX11_isLetterNumber_2 : decode cX11_isLetterNumber 2 = .ok (.bipush 9, 2) := by decide +kernel
theorem dX11_isLetterNumber_4 : decode cX11_isLetterNumber 4 = .ok (.invokestatic 91, 3) := by decide +kernel
theorem dX11_isLetterNumber_7 : decode cX11_isLetterNumber 7 = .ok (.ireturn, 1) := by decide +kernel
theorem dX11_isKind_0 : decode cX11_isKind 0 = .ok (.iload_n 0, 1) := by decide +kernel
theorem dX11_isKind_1 : decode cX11_isKind 1 = .ok (.iconst 0, 1) := by decide +kernel
theorem dX11_isKind_2 : decode cX11_isKind 2 = .ok (.iconst 5, 1) := by decide +kernel
theorem dX11_isKind_3 : decode cX11_isKind 3 = .ok (.invokestatic 91, 3) := by decide +kernel
theorem dX11_isKind_6 : decode cX11_isKind 6 = .ok (.ireturn, 1) := by decide +kernel
theorem dX11_isWord_0 : decode cX11_isWord 0 = .ok (.iload_n 1, 1) := by decide +kernel
theorem dX11_isWord_1 : decode cX11_isWord 1 = .ok (.iconst 0, 1) := by decide +kernel
theorem dX11_isWord_2 : decode cX11_isWord 2 = .ok (.aload_n 0, 1) := by decide +kernel
theorem dX11_isWord_3 : decode cX11_isWord 3 = .ok (.getfield 60, 3) := by decide +kernel
theorem dX11_isWord_6 : decode cX11_isWord 6 = .ok (.iconst 1, 1) := by decide +kernel
theorem dX11_isWord_7 : decode cX11_isWord 7 = .ok (.isub, 1) := by decide +kernel
theorem dX11_isWord_8 : decode cX11_isWord 8 = .ok (.invokestatic 91, 3) := by decide +kernel
theorem dX11_isWord_11 : decode cX11_isWord 11 = .ok (.ireturn, 1) := by decide +kernel
theorem dX11_maskOf_0 : decode cX11_maskOf 0 = .ok (.aload_n 0, 1) := by decide +kernel
theorem dX11_maskOf_1 : decode cX11_maskOf 1 = .ok (.getfield 22, 3) := by decide +kernel
theorem dX11_maskOf_4 : decode cX11_maskOf 4 = .ok (.bipush 10, 2) := by decide +kernel
theorem dX11_maskOf_6 : decode cX11_maskOf 6 = .ok (.iload_n 1, 1) := by decide +kernel
theorem dX11_maskOf_7 : decode cX11_maskOf 7 = .ok (.imul, 1) := by decide +kernel
theorem dX11_maskOf_8 : decode cX11_maskOf 8 = .ok (.iload_n 2, 1) := by decide +kernel
theorem dX11_maskOf_9 : decode cX11_maskOf 9 = .ok (.iadd, 1) := by decide +kernel
theorem dX11_maskOf_10 : decode cX11_maskOf 10 = .ok (.iaload, 1) := by decide +kernel
theorem dX11_maskOf_11 : decode cX11_maskOf 11 = .ok (.ireturn, 1) := by decide +kernel
theorem dX11_letterAt_0 : decode cX11_letterAt 0 = .ok (.iload_n 1, 1) := by decide +kernel
theorem dX11_letterAt_1 : decode cX11_letterAt 1 = .ok (.ifCond .ne 9, 3) := by decide +kernel
theorem dX11_letterAt_4 : decode cX11_letterAt 4 = .ok (.sipush 1000, 3) := by decide +kernel
theorem dX11_letterAt_7 : decode cX11_letterAt 7 = .ok (.goto 24, 3) := by decide +kernel
theorem dX11_letterAt_10 : decode cX11_letterAt 10 = .ok (.iload_n 1, 1) := by decide +kernel
theorem dX11_letterAt_11 : decode cX11_letterAt 11 = .ok (.iconst 1, 1) := by decide +kernel
theorem dX11_letterAt_12 : decode cX11_letterAt 12 = .ok (.if_icmp .ne 8, 3) := by decide +kernel
theorem dX11_letterAt_15 : decode cX11_letterAt 15 = .ok (.bipush 100, 2) := by decide +kernel
theorem dX11_letterAt_17 : decode cX11_letterAt 17 = .ok (.goto 14, 3) := by decide +kernel
theorem dX11_letterAt_20 : decode cX11_letterAt 20 = .ok (.iload_n 1, 1) := by decide +kernel
theorem dX11_letterAt_21 : decode cX11_letterAt 21 = .ok (.iconst 2, 1) := by decide +kernel
theorem dX11_letterAt_22 : decode cX11_letterAt 22 = .ok (.if_icmp .ne 8, 3) := by decide +kernel
theorem dX11_letterAt_25 : decode cX11_letterAt 25 = .ok (.bipush 10, 2) := by decide +kernel
theorem dX11_letterAt_27 : decode cX11_letterAt 27 = .ok (.goto 4, 3) := by decide +kernel
theorem dX11_letterAt_30 : decode cX11_letterAt 30 = .ok (.iconst 1, 1) := by decide +kernel
theorem dX11_letterAt_31 : decode cX11_letterAt 31 = .ok (.istore_n 2, 1) := by decide +kernel
theorem dX11_letterAt_32 : decode cX11_letterAt 32 = .ok (.iload_n 0, 1) := by decide +kernel
theorem dX11_letterAt_33 : decode cX11_letterAt 33 = .ok (.iload_n 2, 1) := by decide +kernel
theorem dX11_letterAt_34 : decode cX11_letterAt 34 = .ok (.idiv, 1) := by decide +kernel
theorem dX11_letterAt_35 : decode cX11_letterAt 35 = .ok (.bipush 10, 2) := by decide +kernel
theorem dX11_letterAt_37 : decode cX11_letterAt 37 = .ok (.irem, 1) := by decide +kernel
theorem dX11_letterAt_38 : decode cX11_letterAt 38 = .ok (.ireturn, 1) := by decide +kernel
theorem dX11_setMasks_0 : decode cX11_setMasks 0 = .ok (.iconst 0, 1) := by decide +kernel
theorem dX11_setMasks_1 : decode cX11_setMasks 1 = .ok (.istore_n 2, 1) := by decide +kernel
theorem dX11_setMasks_2 : decode cX11_setMasks 2 = .ok (.iload_n 2, 1) := by decide +kernel
theorem dX11_setMasks_3 : decode cX11_setMasks 3 = .ok (.bipush 10, 2) := by decide +kernel
theorem dX11_setMasks_5 : decode cX11_setMasks 5 = .ok (.if_icmp .ge 64, 3) := by decide +kernel
theorem dX11_setMasks_8 : decode cX11_setMasks 8 = .ok (.iconst 0, 1) := by decide +kernel
theorem dX11_setMasks_9 : decode cX11_setMasks 9 = .ok (.istore_n 3, 1) := by decide +kernel
theorem dX11_setMasks_10 : decode cX11_setMasks 10 = .ok (.iconst 0, 1) := by decide +kernel
theorem dX11_setMasks_11 : decode cX11_setMasks 11 = .ok (.istore 4, 2) := by decide +kernel
theorem dX11_setMasks_13 : decode cX11_setMasks 13 = .ok (.iload 4, 2) := by decide +kernel
theorem dX11_setMasks_15 : decode cX11_setMasks 15 = .ok (.iconst 4, 1) := by decide +kernel
theorem dX11_setMasks_16 : decode cX11_setMasks 16 = .ok (.if_icmp .ge 35, 3) := by decide +kernel
theorem dX11_setMasks_19 : decode cX11_setMasks 19 = .ok (.iload_n 3, 1) := by decide +kernel
theorem dX11_setMasks_20 : decode cX11_setMasks 20 = .ok (.aload_n 0, 1) := by decide +kernel
theorem dX11_setMasks_21 : decode cX11_setMasks 21 = .ok (.getfield 13, 3) := by decide +kernel
theorem dX11_setMasks_24 : decode cX11_setMasks 24 = .ok (.iload_n 1, 1) := by decide +kernel
theorem dX11_setMasks_25 : decode cX11_setMasks 25 = .ok (.iaload, 1) := by decide +kernel
theorem dX11_setMasks_26 : decode cX11_setMasks 26 = .ok (.iload 4, 2) := by decide +kernel
theorem dX11_setMasks_28 : decode cX11_setMasks 28 = .ok (.invokestatic 95, 3) := by decide +kernel
theorem dX11_setMasks_31 : decode cX11_setMasks 31 = .ok (.iload_n 2, 1) := by decide +kernel
theorem dX11_setMasks_32 : decode cX11_setMasks 32 = .ok (.if_icmp .ne 10, 3) := by decide +kernel
theorem dX11_setMasks_35 : decode cX11_setMasks 35 = .ok (.iconst 1, 1) := by decide +kernel
theorem dX11_setMasks_36 : decode cX11_setMasks 36 = .ok (.iload 4, 2) := by decide +kernel
theorem dX11_setMasks_38 : decode cX11_setMasks 38 = .ok (.ishl, 1) := by decide +kernel
theorem dX11_setMasks_39 : decode cX11_setMasks 39 = .ok (.goto 4, 3) := by decide +kernel
theorem dX11_setMasks_42 : decode cX11_setMasks 42 = .ok (.iconst 0, 1) := by decide +kernel
theorem dX11_setMasks_43 : decode cX11_setMasks 43 = .ok (.ior, 1) := by decide +kernel
theorem dX11_setMasks_44 : decode cX11_setMasks 44 = .ok (.istore_n 3, 1) := by decide +kernel
theorem dX11_setMasks_45 : decode cX11_setMasks 45 = .ok (.iinc 4 1, 3) := by decide +kernel
theorem dX11_setMasks_48 : decode cX11_setMasks 48 = .ok (.goto (-35), 3) := by decide +kernel
theorem dX11_setMasks_51 : decode cX11_setMasks 51 = .ok (.aload_n 0, 1) := by decide +kernel
theorem dX11_setMasks_52 : decode cX11_setMasks 52 = .ok (.getfield 22, 3) := by decide +kernel
theorem dX11_setMasks_55 : decode cX11_setMasks 55 = .ok (.bipush 10, 2) := by decide +kernel
theorem dX11_setMasks_57 : decode cX11_setMasks 57 = .ok (.iload_n 1, 1) := by decide +kernel
theorem dX11_setMasks_58 : decode cX11_setMasks 58 = .ok (.imul, 1) := by decide +kernel
theorem dX11_setMasks_59 : decode cX11_setMasks 59 = .ok (.iload_n 2, 1) := by decide +kernel
theorem dX11_setMasks_60 : decode cX11_setMasks 60 = .ok (.iadd, 1) := by decide +kernel
theorem dX11_setMasks_61 : decode cX11_setMasks 61 = .ok (.iload_n 3, 1) := by decide +kernel
theorem dX11_setMasks_62 : decode cX11_setMasks 62 = .ok (.iastore, 1) := by decide +kernel
theorem dX11_setMasks_63 : decode cX11_setMasks 63 = .ok (.iinc 2 1, 3) := by decide +kernel
theorem dX11_setMasks_66 : decode cX11_setMasks 66 = .ok (.goto (-64), 3) := by decide +kernel
theorem dX11_setMasks_69 : decode cX11_setMasks 69 = .ok (.return_, 1) := by decide +kernel
theorem dX11_isThere_0 : decode cX11_isThere 0 = .ok (.iconst 0, 1) := by decide +kernel
theorem dX11_isThere_1 : decode cX11_isThere 1 = .ok (.istore_n 2, 1) := by decide +kernel
theorem dX11_isThere_2 : decode cX11_isThere 2 = .ok (.iconst 0, 1) := by decide +kernel
theorem dX11_isThere_3 : decode cX11_isThere 3 = .ok (.istore_n 3, 1) := by decide +kernel
theorem dX11_isThere_4 : decode cX11_isThere 4 = .ok (.iload_n 3, 1) := by decide +kernel
theorem dX11_isThere_5 : decode cX11_isThere 5 = .ok (.aload_n 0, 1) := by decide +kernel
theorem dX11_isThere_6 : decode cX11_isThere 6 = .ok (.getfield 60, 3) := by decide +kernel
theorem dX11_isThere_9 : decode cX11_isThere 9 = .ok (.if_icmp .ge 29, 3) := by decide +kernel
theorem dX11_isThere_12 : decode cX11_isThere 12 = .ok (.iload_n 2, 1) := by decide +kernel
theorem dX11_isThere_13 : decode cX11_isThere 13 = .ok (.ifCond .ne 13, 3) := by decide +kernel
theorem dX11_isThere_16 : decode cX11_isThere 16 = .ok (.aload_n 0, 1) := by decide +kernel
theorem dX11_isThere_17 : decode cX11_isThere 17 = .ok (.getfield 13, 3) := by decide +kernel
theorem dX11_isThere_20 : decode cX11_isThere 20 = .ok (.iload_n 3, 1) := by decide +kernel
theorem dX11_isThere_21 : decode cX11_isThere 21 = .ok (.iaload, 1) := by decide +kernel
theorem dX11_isThere_22 : decode cX11_isThere 22 = .ok (.iload_n 1, 1) := by decide +kernel
theorem dX11_isThere_23 : decode cX11_isThere 23 = .ok (.if_icmp .ne 7, 3) := by decide +kernel
theorem dX11_isThere_26 : decode cX11_isThere 26 = .ok (.iconst 1, 1) := by decide +kernel
theorem dX11_isThere_27 : decode cX11_isThere 27 = .ok (.goto 4, 3) := by decide +kernel
theorem dX11_isThere_30 : decode cX11_isThere 30 = .ok (.iconst 0, 1) := by decide +kernel
theorem dX11_isThere_31 : decode cX11_isThere 31 = .ok (.istore_n 2, 1) := by decide +kernel
theorem dX11_isThere_32 : decode cX11_isThere 32 = .ok (.iinc 3 1, 3) := by decide +kernel
theorem dX11_isThere_35 : decode cX11_isThere 35 = .ok (.goto (-31), 3) := by decide +kernel
theorem dX11_isThere_38 : decode cX11_isThere 38 = .ok (.iload_n 2, 1) := by decide +kernel
theorem dX11_isThere_39 : decode cX11_isThere 39 = .ok (.ireturn, 1) := by decide +kernel
theorem dX11_addWord_0 : decode cX11_addWord 0 = .ok (.aload_n 0, 1) := by decide +kernel
theorem dX11_addWord_1 : decode cX11_addWord 1 = .ok (.getfield 13, 3) := by decide +kernel
theorem dX11_addWord_4 : decode cX11_addWord 4 = .ok (.aload_n 0, 1) := by decide +kernel
theorem dX11_addWord_5 : decode cX11_addWord 5 = .ok (.getfield 60, 3) := by decide +kernel
theorem dX11_addWord_8 : decode cX11_addWord 8 = .ok (.iload_n 1, 1) := by decide +kernel
theorem dX11_addWord_9 : decode cX11_addWord 9 = .ok (.iastore, 1) := by decide +kernel
theorem dX11_addWord_10 : decode cX11_addWord 10 = .ok (.aload_n 0, 1) := by decide +kernel
theorem dX11_addWord_11 : decode cX11_addWord 11 = .ok (.aload_n 0, 1) := by decide +kernel
theorem dX11_addWord_12 : decode cX11_addWord 12 = .ok (.getfield 60, 3) := by decide +kernel
theorem dX11_addWord_15 : decode cX11_addWord 15 = .ok (.invokevirtual 99, 3) := by decide +kernel
theorem dX11_addWord_18 : decode cX11_addWord 18 = .ok (.aload_n 0, 1) := by decide +kernel
theorem dX11_addWord_19 : decode cX11_addWord 19 = .ok (.dup, 1) := by decide +kernel
theorem dX11_addWord_20 : decode cX11_addWord 20 = .ok (.getfield 60, 3) := by decide +kernel
theorem dX11_addWord_23 : decode cX11_addWord 23 = .ok (.iconst 1, 1) := by decide +kernel
theorem dX11_addWord_24 : decode cX11_addWord 24 = .ok (.iadd, 1) := by decide +kernel
theorem dX11_addWord_25 : decode cX11_addWord 25 = .ok (.putfield 60, 3) := by decide +kernel
theorem dX11_addWord_28 : decode cX11_addWord 28 = .ok (.aload_n 0, 1) := by decide +kernel
theorem dX11_addWord_29 : decode cX11_addWord 29 = .ok (.iconst 0, 1) := by decide +kernel
theorem dX11_addWord_30 : decode cX11_addWord 30 = .ok (.putfield 76, 3) := by decide +kernel
theorem dX11_addWord_33 : decode cX11_addWord 33 = .ok (.aload_n 0, 1) := by decide +kernel
theorem dX11_addWord_34 : decode cX11_addWord 34 = .ok (.invokevirtual 79, 3) := by decide +kernel
theorem dX11_addWord_37 : decode cX11_addWord 37 = .ok (.aload_n 0, 1) := by decide +kernel
theorem dX11_addWord_38 : decode cX11_addWord 38 = .ok (.getfield 60, 3) := by decide +kernel
theorem dX11_addWord_41 : decode cX11_addWord 41 = .ok (.iconst 1, 1) := by decide +kernel
theorem dX11_addWord_42 : decode cX11_addWord 42 = .ok (.isub, 1) := by decide +kernel
theorem dX11_addWord_43 : decode cX11_addWord 43 = .ok (.ireturn, 1) := by decide +kernel
theorem dX11_game_0 : decode cX11_game 0 = .ok (.iload_n 1, 1) := by decide +kernel
theorem dX11_game_1 : decode cX11_game 1 = .ok (.invokestatic 102, 3) := by decide +kernel
theorem dX11_game_4 : decode cX11_game 4 = .ok (.ifCond .ne 8, 3) := by decide +kernel
theorem dX11_game_7 : decode cX11_game 7 = .ok (.aload_n 0, 1) := by decide +kernel
theorem dX11_game_8 : decode cX11_game 8 = .ok (.invokevirtual 106, 3) := by decide +kernel
theorem dX11_game_11 : decode cX11_game 11 = .ok (.ireturn, 1) := by decide +kernel
theorem dX11_game_12 : decode cX11_game 12 = .ok (.aload_n 0, 1) := by decide +kernel
theorem dX11_game_13 : decode cX11_game 13 = .ok (.getfield 60, 3) := by decide +kernel
theorem dX11_game_16 : decode cX11_game 16 = .ok (.istore_n 2, 1) := by decide +kernel
theorem dX11_game_17 : decode cX11_game 17 = .ok (.aload_n 0, 1) := by decide +kernel
theorem dX11_game_18 : decode cX11_game 18 = .ok (.iload_n 1, 1) := by decide +kernel
theorem dX11_game_19 : decode cX11_game 19 = .ok (.invokevirtual 56, 3) := by decide +kernel
theorem dX11_game_22 : decode cX11_game 22 = .ok (.iload_n 2, 1) := by decide +kernel
theorem dX11_game_23 : decode cX11_game 23 = .ok (.ireturn, 1) := by decide +kernel
theorem dX11_holder_0 : decode cX11_holder 0 = .ok (.iload_n 1, 1) := by decide +kernel
theorem dX11_holder_1 : decode cX11_holder 1 = .ok (.invokestatic 102, 3) := by decide +kernel
theorem dX11_holder_4 : decode cX11_holder 4 = .ok (.ifCond .ne 8, 3) := by decide +kernel
theorem dX11_holder_7 : decode cX11_holder 7 = .ok (.aload_n 0, 1) := by decide +kernel
theorem dX11_holder_8 : decode cX11_holder 8 = .ok (.invokevirtual 106, 3) := by decide +kernel
theorem dX11_holder_11 : decode cX11_holder 11 = .ok (.ireturn, 1) := by decide +kernel
theorem dX11_holder_12 : decode cX11_holder 12 = .ok (.aload_n 0, 1) := by decide +kernel
theorem dX11_holder_13 : decode cX11_holder 13 = .ok (.getfield 64, 3) := by decide +kernel
theorem dX11_holder_16 : decode cX11_holder 16 = .ok (.istore_n 2, 1) := by decide +kernel
theorem dX11_holder_17 : decode cX11_holder 17 = .ok (.aload_n 0, 1) := by decide +kernel
theorem dX11_holder_18 : decode cX11_holder 18 = .ok (.iload_n 1, 1) := by decide +kernel
theorem dX11_holder_19 : decode cX11_holder 19 = .ok (.putfield 64, 3) := by decide +kernel
theorem dX11_holder_22 : decode cX11_holder 22 = .ok (.aload_n 0, 1) := by decide +kernel
theorem dX11_holder_23 : decode cX11_holder 23 = .ok (.iconst 0, 1) := by decide +kernel
theorem dX11_holder_24 : decode cX11_holder 24 = .ok (.putfield 76, 3) := by decide +kernel
theorem dX11_holder_27 : decode cX11_holder 27 = .ok (.iload_n 2, 1) := by decide +kernel
theorem dX11_holder_28 : decode cX11_holder 28 = .ok (.ireturn, 1) := by decide +kernel
theorem dX11_word_0 : decode cX11_word 0 = .ok (.iload_n 1, 1) := by decide +kernel
theorem dX11_word_1 : decode cX11_word 1 = .ok (.iconst 0, 1) := by decide +kernel
theorem dX11_word_2 : decode cX11_word 2 = .ok (.sipush 9999, 3) := by decide +kernel
theorem dX11_word_5 : decode cX11_word 5 = .ok (.invokestatic 91, 3) := by decide +kernel
theorem dX11_word_8 : decode cX11_word 8 = .ok (.ifCond .ne 8, 3) := by decide +kernel
theorem dX11_word_11 : decode cX11_word 11 = .ok (.aload_n 0, 1) := by decide +kernel
theorem dX11_word_12 : decode cX11_word 12 = .ok (.invokevirtual 106, 3) := by decide +kernel
theorem dX11_word_15 : decode cX11_word 15 = .ok (.ireturn, 1) := by decide +kernel
theorem dX11_word_16 : decode cX11_word 16 = .ok (.aload_n 0, 1) := by decide +kernel
theorem dX11_word_17 : decode cX11_word 17 = .ok (.iload_n 1, 1) := by decide +kernel
theorem dX11_word_18 : decode cX11_word 18 = .ok (.invokevirtual 110, 3) := by decide +kernel
theorem dX11_word_21 : decode cX11_word 21 = .ok (.ifCond .eq 8, 3) := by decide +kernel
theorem dX11_word_24 : decode cX11_word 24 = .ok (.aload_n 0, 1) := by decide +kernel
theorem dX11_word_25 : decode cX11_word 25 = .ok (.invokevirtual 113, 3) := by decide +kernel
theorem dX11_word_28 : decode cX11_word 28 = .ok (.ireturn, 1) := by decide +kernel
theorem dX11_word_29 : decode cX11_word 29 = .ok (.aload_n 0, 1) := by decide +kernel
theorem dX11_word_30 : decode cX11_word 30 = .ok (.getfield 60, 3) := by decide +kernel
theorem dX11_word_33 : decode cX11_word 33 = .ok (.bipush 8, 2) := by decide +kernel
theorem dX11_word_35 : decode cX11_word 35 = .ok (.if_icmp .ne 10, 3) := by decide +kernel
theorem dX11_word_38 : decode cX11_word 38 = .ok (.aload_n 0, 1) := by decide +kernel
theorem dX11_word_39 : decode cX11_word 39 = .ok (.invokevirtual 116, 3) := by decide +kernel
theorem dX11_word_42 : decode cX11_word 42 = .ok (.goto 8, 3) := by decide +kernel
theorem dX11_word_45 : decode cX11_word 45 = .ok (.aload_n 0, 1) := by decide +kernel
theorem dX11_word_46 : decode cX11_word 46 = .ok (.iload_n 1, 1) := by decide +kernel
theorem dX11_word_47 : decode cX11_word 47 = .ok (.invokevirtual 119, 3) := by decide +kernel
theorem dX11_word_50 : decode cX11_word 50 = .ok (.ireturn, 1) := by decide +kernel
theorem dX11_type_0 : decode cX11_type 0 = .ok (.iload_n 1, 1) := by decide +kernel
theorem dX11_type_1 : decode cX11_type 1 = .ok (.iconst 0, 1) := by decide +kernel
theorem dX11_type_2 : decode cX11_type 2 = .ok (.bipush 127, 2) := by decide +kernel
theorem dX11_type_4 : decode cX11_type 4 = .ok (.invokestatic 91, 3) := by decide +kernel
theorem dX11_type_7 : decode cX11_type 7 = .ok (.ifCond .ne 8, 3) := by decide +kernel
theorem dX11_type_10 : decode cX11_type 10 = .ok (.aload_n 0, 1) := by decide +kernel
theorem dX11_type_11 : decode cX11_type 11 = .ok (.invokevirtual 106, 3) := by decide +kernel
theorem dX11_type_14 : decode cX11_type 14 = .ok (.ireturn, 1) := by decide +kernel
theorem dX11_type_15 : decode cX11_type 15 = .ok (.aload_n 0, 1) := by decide +kernel
theorem dX11_type_16 : decode cX11_type 16 = .ok (.getfield 123, 3) := by decide +kernel
theorem dX11_type_19 : decode cX11_type 19 = .ok (.sipush 150, 3) := by decide +kernel
theorem dX11_type_22 : decode cX11_type 22 = .ok (.if_icmp .ne 8, 3) := by decide +kernel
theorem dX11_type_25 : decode cX11_type 25 = .ok (.aload_n 0, 1) := by decide +kernel
theorem dX11_type_26 : decode cX11_type 26 = .ok (.invokevirtual 116, 3) := by decide +kernel
theorem dX11_type_29 : decode cX11_type 29 = .ok (.ireturn, 1) := by decide +kernel
theorem dX11_type_30 : decode cX11_type 30 = .ok (.aload_n 0, 1) := by decide +kernel
theorem dX11_type_31 : decode cX11_type 31 = .ok (.getfield 25, 3) := by decide +kernel
theorem dX11_type_34 : decode cX11_type 34 = .ok (.aload_n 0, 1) := by decide +kernel
theorem dX11_type_35 : decode cX11_type 35 = .ok (.getfield 123, 3) := by decide +kernel
theorem dX11_type_38 : decode cX11_type 38 = .ok (.iload_n 1, 1) := by decide +kernel
theorem dX11_type_39 : decode cX11_type 39 = .ok (.iastore, 1) := by decide +kernel
theorem dX11_type_40 : decode cX11_type 40 = .ok (.aload_n 0, 1) := by decide +kernel
theorem dX11_type_41 : decode cX11_type 41 = .ok (.dup, 1) := by decide +kernel
theorem dX11_type_42 : decode cX11_type 42 = .ok (.getfield 123, 3) := by decide +kernel
theorem dX11_type_45 : decode cX11_type 45 = .ok (.iconst 1, 1) := by decide +kernel
theorem dX11_type_46 : decode cX11_type 46 = .ok (.iadd, 1) := by decide +kernel
theorem dX11_type_47 : decode cX11_type 47 = .ok (.putfield 123, 3) := by decide +kernel
theorem dX11_type_50 : decode cX11_type 50 = .ok (.aload_n 0, 1) := by decide +kernel
theorem dX11_type_51 : decode cX11_type 51 = .ok (.getfield 123, 3) := by decide +kernel
theorem dX11_type_54 : decode cX11_type 54 = .ok (.ireturn, 1) := by decide +kernel
theorem dX11_clear_0 : decode cX11_clear 0 = .ok (.aload_n 0, 1) := by decide +kernel
theorem dX11_clear_1 : decode cX11_clear 1 = .ok (.getfield 123, 3) := by decide +kernel
theorem dX11_clear_4 : decode cX11_clear 4 = .ok (.istore_n 1, 1) := by decide +kernel
theorem dX11_clear_5 : decode cX11_clear 5 = .ok (.aload_n 0, 1) := by decide +kernel
theorem dX11_clear_6 : decode cX11_clear 6 = .ok (.iconst 0, 1) := by decide +kernel
theorem dX11_clear_7 : decode cX11_clear 7 = .ok (.putfield 123, 3) := by decide +kernel
theorem dX11_clear_10 : decode cX11_clear 10 = .ok (.iload_n 1, 1) := by decide +kernel
theorem dX11_clear_11 : decode cX11_clear 11 = .ok (.ireturn, 1) := by decide +kernel
theorem dX11_here_0 : decode cX11_here 0 = .ok (.aload_n 0, 1) := by decide +kernel
theorem dX11_here_1 : decode cX11_here 1 = .ok (.getfield 126, 3) := by decide +kernel
theorem dX11_here_4 : decode cX11_here 4 = .ok (.aload_n 0, 1) := by decide +kernel
theorem dX11_here_5 : decode cX11_here 5 = .ok (.getfield 123, 3) := by decide +kernel
theorem dX11_here_8 : decode cX11_here 8 = .ok (.if_icmp .ge 15, 3) := by decide +kernel
theorem dX11_here_11 : decode cX11_here 11 = .ok (.aload_n 0, 1) := by decide +kernel
theorem dX11_here_12 : decode cX11_here 12 = .ok (.getfield 25, 3) := by decide +kernel
theorem dX11_here_15 : decode cX11_here 15 = .ok (.aload_n 0, 1) := by decide +kernel
theorem dX11_here_16 : decode cX11_here 16 = .ok (.getfield 126, 3) := by decide +kernel
theorem dX11_here_19 : decode cX11_here 19 = .ok (.iaload, 1) := by decide +kernel
theorem dX11_here_20 : decode cX11_here 20 = .ok (.goto 4, 3) := by decide +kernel
theorem dX11_here_23 : decode cX11_here 23 = .ok (.iconst (-1), 1) := by decide +kernel
theorem dX11_here_24 : decode cX11_here 24 = .ok (.ireturn, 1) := by decide +kernel
theorem dX11_skip_0 : decode cX11_skip 0 = .ok (.aload_n 0, 1) := by decide +kernel
theorem dX11_skip_1 : decode cX11_skip 1 = .ok (.invokevirtual 129, 3) := by decide +kernel
theorem dX11_skip_4 : decode cX11_skip 4 = .ok (.bipush 32, 2) := by decide +kernel
theorem dX11_skip_6 : decode cX11_skip 6 = .ok (.if_icmp .ne 16, 3) := by decide +kernel
theorem dX11_skip_9 : decode cX11_skip 9 = .ok (.aload_n 0, 1) := by decide +kernel
theorem dX11_skip_10 : decode cX11_skip 10 = .ok (.dup, 1) := by decide +kernel
