theorem dX8_step_147 : decode cX8_step 147 = .ok (.aload_n 0, 1) := by decide +kernel
theorem dX8_step_148 : decode cX8_step 148 = .ok (.aload_n 0, 1) := by decide +kernel
theorem dX8_step_149 : decode cX8_step 149 = .ok (.getfield 26, 3) := by decide +kernel
theorem dX8_step_152 : decode cX8_step 152 = .ok (.iconst 1, 1) := by decide +kernel
theorem dX8_step_153 : decode cX8_step 153 = .ok (.iadd, 1) := by decide +kernel
theorem dX8_step_154 : decode cX8_step 154 = .ok (.putfield 19, 3) := by decide +kernel
theorem dX8_step_157 : decode cX8_step 157 = .ok (.return_, 1) := by decide +kernel
theorem dX8_endOfRun_0 : decode cX8_endOfRun 0 = .ok (.iload_n 1, 1) := by decide +kernel
theorem dX8_endOfRun_1 : decode cX8_endOfRun 1 = .ok (.istore 4, 2) := by decide +kernel
theorem dX8_endOfRun_3 : decode cX8_endOfRun 3 = .ok (.iload 4, 2) := by decide +kernel
theorem dX8_endOfRun_5 : decode cX8_endOfRun 5 = .ok (.aload_n 0, 1) := by decide +kernel
theorem dX8_endOfRun_6 : decode cX8_endOfRun 6 = .ok (.getfield 15, 3) := by decide +kernel
theorem dX8_endOfRun_9 : decode cX8_endOfRun 9 = .ok (.if_icmp .ge 39, 3) := by decide +kernel
theorem dX8_endOfRun_12 : decode cX8_endOfRun 12 = .ok (.iload 4, 2) := by decide +kernel
theorem dX8_endOfRun_14 : decode cX8_endOfRun 14 = .ok (.sipush 150, 3) := by decide +kernel
theorem dX8_endOfRun_17 : decode cX8_endOfRun 17 = .ok (.if_icmp .ge 31, 3) := by decide +kernel
theorem dX8_endOfRun_20 : decode cX8_endOfRun 20 = .ok (.aload_n 0, 1) := by decide +kernel
theorem dX8_endOfRun_21 : decode cX8_endOfRun 21 = .ok (.getfield 9, 3) := by decide +kernel
theorem dX8_endOfRun_24 : decode cX8_endOfRun 24 = .ok (.iload 4, 2) := by decide +kernel
theorem dX8_endOfRun_26 : decode cX8_endOfRun 26 = .ok (.baload, 1) := by decide +kernel
theorem dX8_endOfRun_27 : decode cX8_endOfRun 27 = .ok (.iload_n 2, 1) := by decide +kernel
theorem dX8_endOfRun_28 : decode cX8_endOfRun 28 = .ok (.if_icmp .lt 20, 3) := by decide +kernel
theorem dX8_endOfRun_31 : decode cX8_endOfRun 31 = .ok (.aload_n 0, 1) := by decide +kernel
theorem dX8_endOfRun_32 : decode cX8_endOfRun 32 = .ok (.getfield 9, 3) := by decide +kernel
theorem dX8_endOfRun_35 : decode cX8_endOfRun 35 = .ok (.iload 4, 2) := by decide +kernel
theorem dX8_endOfRun_37 : decode cX8_endOfRun 37 = .ok (.baload, 1) := by decide +kernel
theorem dX8_endOfRun_38 : decode cX8_endOfRun 38 = .ok (.iload_n 3, 1) := by decide +kernel
theorem dX8_endOfRun_39 : decode cX8_endOfRun 39 = .ok (.if_icmp .gt 9, 3) := by decide +kernel
theorem dX8_endOfRun_42 : decode cX8_endOfRun 42 = .ok (.iinc 4 1, 3) := by decide +kernel
theorem dX8_endOfRun_45 : decode cX8_endOfRun 45 = .ok (.goto (-42), 3) := by decide +kernel
theorem dX8_endOfRun_48 : decode cX8_endOfRun 48 = .ok (.iload 4, 2) := by decide +kernel
theorem dX8_endOfRun_50 : decode cX8_endOfRun 50 = .ok (.ireturn, 1) := by decide +kernel
theorem dX8_takeNumber_0 : decode cX8_takeNumber 0 = .ok (.aload_n 0, 1) := by decide +kernel
theorem dX8_takeNumber_1 : decode cX8_takeNumber 1 = .ok (.aload_n 0, 1) := by decide +kernel
theorem dX8_takeNumber_2 : decode cX8_takeNumber 2 = .ok (.getfield 19, 3) := by decide +kernel
theorem dX8_takeNumber_5 : decode cX8_takeNumber 5 = .ok (.aload_n 0, 1) := by decide +kernel
theorem dX8_takeNumber_6 : decode cX8_takeNumber 6 = .ok (.getfield 26, 3) := by decide +kernel
theorem dX8_takeNumber_9 : decode cX8_takeNumber 9 = .ok (.isub, 1) := by decide +kernel
theorem dX8_takeNumber_10 : decode cX8_takeNumber 10 = .ok (.iconst 2, 1) := by decide +kernel
theorem dX8_takeNumber_11 : decode cX8_takeNumber 11 = .ok (.if_icmp .gt 7, 3) := by decide +kernel
theorem dX8_takeNumber_14 : decode cX8_takeNumber 14 = .ok (.iconst 2, 1) := by decide +kernel
theorem dX8_takeNumber_15 : decode cX8_takeNumber 15 = .ok (.goto 4, 3) := by decide +kernel
theorem dX8_takeNumber_18 : decode cX8_takeNumber 18 = .ok (.iconst 4, 1) := by decide +kernel
theorem dX8_takeNumber_19 : decode cX8_takeNumber 19 = .ok (.putfield 29, 3) := by decide +kernel
theorem dX8_takeNumber_22 : decode cX8_takeNumber 22 = .ok (.aload_n 0, 1) := by decide +kernel
theorem dX8_takeNumber_23 : decode cX8_takeNumber 23 = .ok (.iconst 0, 1) := by decide +kernel
theorem dX8_takeNumber_24 : decode cX8_takeNumber 24 = .ok (.putfield 35, 3) := by decide +kernel
theorem dX8_takeNumber_27 : decode cX8_takeNumber 27 = .ok (.aload_n 0, 1) := by decide +kernel
theorem dX8_takeNumber_28 : decode cX8_takeNumber 28 = .ok (.getfield 26, 3) := by decide +kernel
theorem dX8_takeNumber_31 : decode cX8_takeNumber 31 = .ok (.istore_n 1, 1) := by decide +kernel
theorem dX8_takeNumber_32 : decode cX8_takeNumber 32 = .ok (.iload_n 1, 1) := by decide +kernel
theorem dX8_takeNumber_33 : decode cX8_takeNumber 33 = .ok (.aload_n 0, 1) := by decide +kernel
theorem dX8_takeNumber_34 : decode cX8_takeNumber 34 = .ok (.getfield 19, 3) := by decide +kernel
theorem dX8_takeNumber_37 : decode cX8_takeNumber 37 = .ok (.if_icmp .ge 38, 3) := by decide +kernel
theorem dX8_takeNumber_40 : decode cX8_takeNumber 40 = .ok (.aload_n 0, 1) := by decide +kernel
theorem dX8_takeNumber_41 : decode cX8_takeNumber 41 = .ok (.getfield 29, 3) := by decide +kernel
theorem dX8_takeNumber_44 : decode cX8_takeNumber 44 = .ok (.iconst 2, 1) := by decide +kernel
theorem dX8_takeNumber_45 : decode cX8_takeNumber 45 = .ok (.if_icmp .ne 30, 3) := by decide +kernel
theorem dX8_takeNumber_48 : decode cX8_takeNumber 48 = .ok (.aload_n 0, 1) := by decide +kernel
theorem dX8_takeNumber_49 : decode cX8_takeNumber 49 = .ok (.bipush 10, 2) := by decide +kernel
theorem dX8_takeNumber_51 : decode cX8_takeNumber 51 = .ok (.aload_n 0, 1) := by decide +kernel
theorem dX8_takeNumber_52 : decode cX8_takeNumber 52 = .ok (.getfield 35, 3) := by decide +kernel
theorem dX8_takeNumber_55 : decode cX8_takeNumber 55 = .ok (.imul, 1) := by decide +kernel
theorem dX8_takeNumber_56 : decode cX8_takeNumber 56 = .ok (.aload_n 0, 1) := by decide +kernel
theorem dX8_takeNumber_57 : decode cX8_takeNumber 57 = .ok (.getfield 9, 3) := by decide +kernel
theorem dX8_takeNumber_60 : decode cX8_takeNumber 60 = .ok (.iload_n 1, 1) := by decide +kernel
theorem dX8_takeNumber_61 : decode cX8_takeNumber 61 = .ok (.baload, 1) := by decide +kernel
theorem dX8_takeNumber_62 : decode cX8_takeNumber 62 = .ok (.iadd, 1) := by decide +kernel
theorem dX8_takeNumber_63 : decode cX8_takeNumber 63 = .ok (.bipush 48, 2) := by decide +kernel
theorem dX8_takeNumber_65 : decode cX8_takeNumber 65 = .ok (.isub, 1) := by decide +kernel
theorem dX8_takeNumber_66 : decode cX8_takeNumber 66 = .ok (.putfield 35, 3) := by decide +kernel
theorem dX8_takeNumber_69 : decode cX8_takeNumber 69 = .ok (.iinc 1 1, 3) := by decide +kernel
theorem dX8_takeNumber_72 : decode cX8_takeNumber 72 = .ok (.goto (-40), 3) := by decide +kernel
theorem dX8_takeNumber_75 : decode cX8_takeNumber 75 = .ok (.return_, 1) := by decide +kernel
theorem dX8_spells_0 : decode cX8_spells 0 = .ok (.aload_n 0, 1) := by decide +kernel
theorem dX8_spells_1 : decode cX8_spells 1 = .ok (.getfield 29, 3) := by decide +kernel
theorem dX8_spells_4 : decode cX8_spells 4 = .ok (.iconst 1, 1) := by decide +kernel
theorem dX8_spells_5 : decode cX8_spells 5 = .ok (.if_icmp .ne 19, 3) := by decide +kernel
theorem dX8_spells_8 : decode cX8_spells 8 = .ok (.aload_n 0, 1) := by decide +kernel
theorem dX8_spells_9 : decode cX8_spells 9 = .ok (.getfield 19, 3) := by decide +kernel
theorem dX8_spells_12 : decode cX8_spells 12 = .ok (.aload_n 0, 1) := by decide +kernel
theorem dX8_spells_13 : decode cX8_spells 13 = .ok (.getfield 26, 3) := by decide +kernel
theorem dX8_spells_16 : decode cX8_spells 16 = .ok (.isub, 1) := by decide +kernel
theorem dX8_spells_17 : decode cX8_spells 17 = .ok (.aload_n 1, 1) := by decide +kernel
theorem dX8_spells_18 : decode cX8_spells 18 = .ok (.invokevirtual 38, 3) := by decide +kernel
theorem dX8_spells_21 : decode cX8_spells 21 = .ok (.if_icmp .eq 5, 3) := by decide +kernel
theorem dX8_spells_24 : decode cX8_spells 24 = .ok (.iconst 0, 1) := by decide +kernel
theorem dX8_spells_25 : decode cX8_spells 25 = .ok (.ireturn, 1) := by decide +kernel
theorem dX8_spells_26 : decode cX8_spells 26 = .ok (.iconst 0, 1) := by decide +kernel
theorem dX8_spells_27 : decode cX8_spells 27 = .ok (.istore_n 2, 1) := by decide +kernel
theorem dX8_spells_28 : decode cX8_spells 28 = .ok (.iload_n 2, 1) := by decide +kernel
theorem dX8_spells_29 : decode cX8_spells 29 = .ok (.aload_n 1, 1) := by decide +kernel
theorem dX8_spells_30 : decode cX8_spells 30 = .ok (.invokevirtual 38, 3) := by decide +kernel
theorem dX8_spells_33 : decode cX8_spells 33 = .ok (.if_icmp .ge 30, 3) := by decide +kernel
theorem dX8_spells_36 : decode cX8_spells 36 = .ok (.aload_n 0, 1) := by decide +kernel
theorem dX8_spells_37 : decode cX8_spells 37 = .ok (.getfield 9, 3) := by decide +kernel
theorem dX8_spells_40 : decode cX8_spells 40 = .ok (.aload_n 0, 1) := by decide +kernel
theorem dX8_spells_41 : decode cX8_spells 41 = .ok (.getfield 26, 3) := by decide +kernel
theorem dX8_spells_44 : decode cX8_spells 44 = .ok (.iload_n 2, 1) := by decide +kernel
theorem dX8_spells_45 : decode cX8_spells 45 = .ok (.iadd, 1) := by decide +kernel
theorem dX8_spells_46 : decode cX8_spells 46 = .ok (.baload, 1) := by decide +kernel
theorem dX8_spells_47 : decode cX8_spells 47 = .ok (.aload_n 1, 1) := by decide +kernel
theorem dX8_spells_48 : decode cX8_spells 48 = .ok (.iload_n 2, 1) := by decide +kernel
theorem dX8_spells_49 : decode cX8_spells 49 = .ok (.invokevirtual 44, 3) := by decide +kernel
theorem dX8_spells_52 : decode cX8_spells 52 = .ok (.if_icmp .eq 5, 3) := by decide +kernel
theorem dX8_spells_55 : decode cX8_spells 55 = .ok (.iconst 0, 1) := by decide +kernel
theorem dX8_spells_56 : decode cX8_spells 56 = .ok (.ireturn, 1) := by decide +kernel
theorem dX8_spells_57 : decode cX8_spells 57 = .ok (.iinc 2 1, 3) := by decide +kernel
theorem dX8_spells_60 : decode cX8_spells 60 = .ok (.goto (-32), 3) := by decide +kernel
theorem dX8_spells_63 : decode cX8_spells 63 = .ok (.iconst 1, 1) := by decide +kernel
theorem dX8_spells_64 : decode cX8_spells 64 = .ok (.ireturn, 1) := by decide +kernel
theorem dX9_init_0 : decode cX9_init 0 = .ok (.aload_n 0, 1) := by decide +kernel
theorem dX9_init_1 : decode cX9_init 1 = .ok (.invokespecial 3, 3) := by decide +kernel
theorem dX9_init_4 : decode cX9_init 4 = .ok (.aload_n 0, 1) := by decide +kernel
theorem dX9_init_5 : decode cX9_init 5 = .ok (.bipush 8, 2) := by decide +kernel
theorem dX9_init_7 : decode cX9_init 7 = .ok (.newarray .int, 2) := by decide +kernel
theorem dX9_init_9 : decode cX9_init 9 = .ok (.putfield 9, 3) := by decide +kernel
theorem dX9_init_12 : decode cX9_init 12 = .ok (.aload_n 0, 1) := by decide +kernel
theorem dX9_init_13 : decode cX9_init 13 = .ok (.bipush 80, 2) := by decide +kernel
theorem dX9_init_15 : decode cX9_init 15 = .ok (.newarray .int, 2) := by decide +kernel
theorem dX9_init_17 : decode cX9_init 17 = .ok (.putfield 15, 3) := by decide +kernel
theorem dX9_init_20 : decode cX9_init 20 = .ok (.aload_n 0, 1) := by decide +kernel
theorem dX9_init_21 : decode cX9_init 21 = .ok (.bipush 80, 2) := by decide +kernel
theorem dX9_init_23 : decode cX9_init 23 = .ok (.newarray .int, 2) := by decide +kernel
theorem dX9_init_25 : decode cX9_init 25 = .ok (.putfield 18, 3) := by decide +kernel
theorem dX9_init_28 : decode cX9_init 28 = .ok (.aload_n 0, 1) := by decide +kernel
theorem dX9_init_29 : decode cX9_init 29 = .ok (.bipush 10, 2) := by decide +kernel
theorem dX9_init_31 : decode cX9_init 31 = .ok (.newarray .int, 2) := by decide +kernel
theorem dX9_init_33 : decode cX9_init 33 = .ok (.putfield 21, 3) := by decide +kernel
theorem dX9_init_36 : decode cX9_init 36 = .ok (.return_, 1) := by decide +kernel
theorem dX9_copyFrom_0 : decode cX9_copyFrom 0 = .ok (.aload_n 0, 1) := by decide +kernel
theorem dX9_copyFrom_1 : decode cX9_copyFrom 1 = .ok (.aload_n 1, 1) := by decide +kernel
theorem dX9_copyFrom_2 : decode cX9_copyFrom 2 = .ok (.getfield 24, 3) := by decide +kernel
theorem dX9_copyFrom_5 : decode cX9_copyFrom 5 = .ok (.putfield 24, 3) := by decide +kernel
theorem dX9_copyFrom_8 : decode cX9_copyFrom 8 = .ok (.aload_n 1, 1) := by decide +kernel
theorem dX9_copyFrom_9 : decode cX9_copyFrom 9 = .ok (.getfield 9, 3) := by decide +kernel
theorem dX9_copyFrom_12 : decode cX9_copyFrom 12 = .ok (.iconst 0, 1) := by decide +kernel
theorem dX9_copyFrom_13 : decode cX9_copyFrom 13 = .ok (.aload_n 0, 1) := by decide +kernel
theorem dX9_copyFrom_14 : decode cX9_copyFrom 14 = .ok (.getfield 9, 3) := by decide +kernel
theorem dX9_copyFrom_17 : decode cX9_copyFrom 17 = .ok (.iconst 0, 1) := by decide +kernel
theorem dX9_copyFrom_18 : decode cX9_copyFrom 18 = .ok (.aload_n 0, 1) := by decide +kernel
theorem dX9_copyFrom_19 : decode cX9_copyFrom 19 = .ok (.getfield 9, 3) := by decide +kernel
theorem dX9_copyFrom_22 : decode cX9_copyFrom 22 = .ok (.arraylength, 1) := by decide +kernel
theorem dX9_copyFrom_23 : decode cX9_copyFrom 23 = .ok (.invokestatic 28, 3) := by decide +kernel
theorem dX9_copyFrom_26 : decode cX9_copyFrom 26 = .ok (.aload_n 1, 1) := by decide +kernel
theorem dX9_copyFrom_27 : decode cX9_copyFrom 27 = .ok (.getfield 15, 3) := by decide +kernel
theorem dX9_copyFrom_30 : decode cX9_copyFrom 30 = .ok (.iconst 0, 1) := by decide +kernel
theorem dX9_copyFrom_31 : decode cX9_copyFrom 31 = .ok (.aload_n 0, 1) := by decide +kernel
theorem dX9_copyFrom_32 : decode cX9_copyFrom 32 = .ok (.getfield 15, 3) := by decide +kernel
theorem dX9_copyFrom_35 : decode cX9_copyFrom 35 = .ok (.iconst 0, 1) := by decide +kernel
theorem dX9_copyFrom_36 : decode cX9_copyFrom 36 = .ok (.aload_n 0, 1) := by decide +kernel
theorem dX9_copyFrom_37 : decode cX9_copyFrom 37 = .ok (.getfield 15, 3) := by decide +kernel
theorem dX9_copyFrom_40 : decode cX9_copyFrom 40 = .ok (.arraylength, 1) := by decide +kernel
theorem dX9_copyFrom_41 : decode cX9_copyFrom 41 = .ok (.invokestatic 28, 3) := by decide +kernel
theorem dX9_copyFrom_44 : decode cX9_copyFrom 44 = .ok (.aload_n 1, 1) := by decide +kernel
theorem dX9_copyFrom_45 : decode cX9_copyFrom 45 = .ok (.getfield 18, 3) := by decide +kernel
theorem dX9_copyFrom_48 : decode cX9_copyFrom 48 = .ok (.iconst 0, 1) := by decide +kernel
theorem dX9_copyFrom_49 : decode cX9_copyFrom 49 = .ok (.aload_n 0, 1) := by decide +kernel
theorem dX9_copyFrom_50 : decode cX9_copyFrom 50 = .ok (.getfield 18, 3) := by decide +kernel
theorem dX9_copyFrom_53 : decode cX9_copyFrom 53 = .ok (.iconst 0, 1) := by decide +kernel
theorem dX9_copyFrom_54 : decode cX9_copyFrom 54 = .ok (.aload_n 0, 1) := by decide +kernel
theorem dX9_copyFrom_55 : decode cX9_copyFrom 55 = .ok (.getfield 18, 3) := by decide +kernel
theorem dX9_copyFrom_58 : decode cX9_copyFrom 58 = .ok (.arraylength, 1) := by decide +kernel
theorem dX9_copyFrom_59 : decode cX9_copyFrom 59 = .ok (.invokestatic 28, 3) := by decide +kernel
theorem dX9_copyFrom_62 : decode cX9_copyFrom 62 = .ok (.aload_n 1, 1) := by decide +kernel
theorem dX9_copyFrom_63 : decode cX9_copyFrom 63 = .ok (.getfield 21, 3) := by decide +kernel
theorem dX9_copyFrom_66 : decode cX9_copyFrom 66 = .ok (.iconst 0, 1) := by decide +kernel
theorem dX9_copyFrom_67 : decode cX9_copyFrom 67 = .ok (.aload_n 0, 1) := by decide +kernel
theorem dX9_copyFrom_68 : decode cX9_copyFrom 68 = .ok (.getfield 21, 3) := by decide +kernel
theorem dX9_copyFrom_71 : decode cX9_copyFrom 71 = .ok (.iconst 0, 1) := by decide +kernel
theorem dX9_copyFrom_72 : decode cX9_copyFrom 72 = .ok (.aload_n 0, 1) := by decide +kernel
theorem dX9_copyFrom_73 : decode cX9_copyFrom 73 = .ok (.getfield 21, 3) := by decide +kernel
theorem dX9_copyFrom_76 : decode cX9_copyFrom 76 = .ok (.arraylength, 1) := by decide +kernel
theorem dX9_copyFrom_77 : decode cX9_copyFrom 77 = .ok (.invokestatic 28, 3) := by decide +kernel
theorem dX9_copyFrom_80 : decode cX9_copyFrom 80 = .ok (.return_, 1) := by decide +kernel
theorem dX9_removeAll_0 : decode cX9_removeAll 0 = .ok (.aload_n 0, 1) := by decide +kernel
theorem dX9_removeAll_1 : decode cX9_removeAll 1 = .ok (.iconst 0, 1) := by decide +kernel
theorem dX9_removeAll_2 : decode cX9_removeAll 2 = .ok (.putfield 24, 3) := by decide +kernel
theorem dX9_removeAll_5 : decode cX9_removeAll 5 = .ok (.iconst 0, 1) := by decide +kernel
theorem dX9_removeAll_6 : decode cX9_removeAll 6 = .ok (.istore_n 1, 1) := by decide +kernel
theorem dX9_removeAll_7 : decode cX9_removeAll 7 = .ok (.iload_n 1, 1) := by decide +kernel
theorem dX9_removeAll_8 : decode cX9_removeAll 8 = .ok (.bipush 10, 2) := by decide +kernel
theorem dX9_removeAll_10 : decode cX9_removeAll 10 = .ok (.if_icmp .ge 16, 3) := by decide +kernel
theorem dX9_removeAll_13 : decode cX9_removeAll 13 = .ok (.aload_n 0, 1) := by decide +kernel
theorem dX9_removeAll_14 : decode cX9_removeAll 14 = .ok (.getfield 21, 3) := by decide +kernel
theorem dX9_removeAll_17 : decode cX9_removeAll 17 = .ok (.iload_n 1, 1) := by decide +kernel
theorem dX9_removeAll_18 : decode cX9_removeAll 18 = .ok (.iconst 0, 1) := by decide +kernel
theorem dX9_removeAll_19 : decode cX9_removeAll 19 = .ok (.iastore, 1) := by decide +kernel
theorem dX9_removeAll_20 : decode cX9_removeAll 20 = .ok (.iinc 1 1, 3) := by decide +kernel
theorem dX9_removeAll_23 : decode cX9_removeAll 23 = .ok (.goto (-16), 3) := by decide +kernel
theorem dX9_removeAll_26 : decode cX9_removeAll 26 = .ok (.return_, 1) := by decide +kernel
theorem dX9_add_0 : decode cX9_add 0 = .ok (.aload_n 0, 1) := by decide +kernel
theorem dX9_add_1 : decode cX9_add 1 = .ok (.getfield 24, 3) := by decide +kernel
theorem dX9_add_4 : decode cX9_add 4 = .ok (.bipush 8, 2) := by decide +kernel
theorem dX9_add_6 : decode cX9_add 6 = .ok (.if_icmp .ge 48, 3) := by decide +kernel
theorem dX9_add_9 : decode cX9_add 9 = .ok (.aload_n 0, 1) := by decide +kernel
theorem dX9_add_10 : decode cX9_add 10 = .ok (.getfield 9, 3) := by decide +kernel
theorem dX9_add_13 : decode cX9_add 13 = .ok (.aload_n 0, 1) := by decide +kernel
theorem dX9_add_14 : decode cX9_add 14 = .ok (.getfield 24, 3) := by decide +kernel
theorem dX9_add_17 : decode cX9_add 17 = .ok (.iload_n 1, 1) := by decide +kernel
theorem dX9_add_18 : decode cX9_add 18 = .ok (.iastore, 1) := by decide +kernel
theorem dX9_add_19 : decode cX9_add 19 = .ok (.aload_n 0, 1) := by decide +kernel
theorem dX9_add_20 : decode cX9_add 20 = .ok (.dup, 1) := by decide +kernel
theorem dX9_add_21 : decode cX9_add 21 = .ok (.getfield 24, 3) := by decide +kernel
theorem dX9_add_24 : decode cX9_add 24 = .ok (.iconst 1, 1) := by decide +kernel
theorem dX9_add_25 : decode cX9_add 25 = .ok (.iadd, 1) := by decide +kernel
theorem dX9_add_26 : decode cX9_add 26 = .ok (.putfield 24, 3) := by decide +kernel
theorem dX9_add_29 : decode cX9_add 29 = .ok (.iconst 0, 1) := by decide +kernel
theorem dX9_add_30 : decode cX9_add 30 = .ok (.istore_n 2, 1) := by decide +kernel
theorem dX9_add_31 : decode cX9_add 31 = .ok (.iload_n 2, 1) := by decide +kernel
theorem dX9_add_32 : decode cX9_add 32 = .ok (.bipush 10, 2) := by decide +kernel
theorem dX9_add_34 : decode cX9_add 34 = .ok (.if_icmp .ge 20, 3) := by decide +kernel
theorem dX9_add_37 : decode cX9_add 37 = .ok (.aload_n 0, 1) := by decide +kernel
theorem dX9_add_38 : decode cX9_add 38 = .ok (.aload_n 0, 1) := by decide +kernel
theorem dX9_add_39 : decode cX9_add 39 = .ok (.getfield 24, 3) := by decide +kernel
theorem dX9_add_42 : decode cX9_add 42 = .ok (.iconst 1, 1) := by decide +kernel
theorem dX9_add_43 : decode cX9_add 43 = .ok (.isub, 1) := by decide +kernel
theorem dX9_add_44 : decode cX9_add 44 = .ok (.iload_n 2, 1) := by decide +kernel
theorem dX9_add_45 : decode cX9_add 45 = .ok (.invokevirtual 34, 3) := by decide +kernel
theorem dX9_add_48 : decode cX9_add 48 = .ok (.iinc 2 1, 3) := by decide +kernel
theorem dX9_add_51 : decode cX9_add 51 = .ok (.goto (-20), 3) := by decide +kernel
theorem dX9_add_54 : decode cX9_add 54 = .ok (.return_, 1) := by decide +kernel
theorem dX9_reckonLetter_0 : decode cX9_reckonLetter 0 = .ok (.aload_n 0, 1) := by decide +kernel
theorem dX9_reckonLetter_1 : decode cX9_reckonLetter 1 = .ok (.getfield 9, 3) := by decide +kernel
theorem dX9_reckonLetter_4 : decode cX9_reckonLetter 4 = .ok (.iload_n 1, 1) := by decide +kernel
theorem dX9_reckonLetter_5 : decode cX9_reckonLetter 5 = .ok (.iaload, 1) := by decide +kernel
theorem dX9_reckonLetter_6 : decode cX9_reckonLetter 6 = .ok (.iload_n 2, 1) := by decide +kernel
theorem dX9_reckonLetter_7 : decode cX9_reckonLetter 7 = .ok (.invokestatic 38, 3) := by decide +kernel
theorem dX9_reckonLetter_10 : decode cX9_reckonLetter 10 = .ok (.istore_n 3, 1) := by decide +kernel
theorem dX9_reckonLetter_11 : decode cX9_reckonLetter 11 = .ok (.aload_n 0, 1) := by decide +kernel
theorem dX9_reckonLetter_12 : decode cX9_reckonLetter 12 = .ok (.getfield 15, 3) := by decide +kernel
theorem dX9_reckonLetter_15 : decode cX9_reckonLetter 15 = .ok (.iload_n 1, 1) := by decide +kernel
theorem dX9_reckonLetter_16 : decode cX9_reckonLetter 16 = .ok (.bipush 10, 2) := by decide +kernel
theorem dX9_reckonLetter_18 : decode cX9_reckonLetter 18 = .ok (.imul, 1) := by decide +kernel
theorem dX9_reckonLetter_19 : decode cX9_reckonLetter 19 = .ok (.iload_n 2, 1) := by decide +kernel
theorem dX9_reckonLetter_20 : decode cX9_reckonLetter 20 = .ok (.iadd, 1) := by decide +kernel
theorem dX9_reckonLetter_21 : decode cX9_reckonLetter 21 = .ok (.iload_n 3, 1) := by decide +kernel
theorem dX9_reckonLetter_22 : decode cX9_reckonLetter 22 = .ok (.iastore, 1) := by decide +kernel
theorem dX9_reckonLetter_23 : decode cX9_reckonLetter 23 = .ok (.iload_n 3, 1) := by decide +kernel
theorem dX9_reckonLetter_24 : decode cX9_reckonLetter 24 = .ok (.ifCond .eq 15, 3) := by decide +kernel
theorem dX9_reckonLetter_27 : decode cX9_reckonLetter 27 = .ok (.aload_n 0, 1) := by decide +kernel
theorem dX9_reckonLetter_28 : decode cX9_reckonLetter 28 = .ok (.getfield 21, 3) := by decide +kernel
theorem dX9_reckonLetter_31 : decode cX9_reckonLetter 31 = .ok (.iload_n 2, 1) := by decide +kernel
theorem dX9_reckonLetter_32 : decode cX9_reckonLetter 32 = .ok (.dup2, 1) := by decide +kernel
theorem dX9_reckonLetter_33 : decode cX9_reckonLetter 33 = .ok (.iaload, 1) := by decide +kernel
theorem dX9_reckonLetter_34 : decode cX9_reckonLetter 34 = .ok (.iconst 1, 1) := by decide +kernel
theorem dX9_reckonLetter_35 : decode cX9_reckonLetter 35 = .ok (.iload_n 1, 1) := by decide +kernel
theorem dX9_reckonLetter_36 : decode cX9_reckonLetter 36 = .ok (.ishl, 1) := by decide +kernel
theorem dX9_reckonLetter_37 : decode cX9_reckonLetter 37 = .ok (.ior, 1) := by decide +kernel
theorem dX9_reckonLetter_38 : decode cX9_reckonLetter 38 = .ok (.iastore, 1) := by decide +kernel
theorem dX9_reckonLetter_39 : decode cX9_reckonLetter 39 = .ok (.iconst 1, 1) := by decide +kernel
theorem dX9_reckonLetter_40 : decode cX9_reckonLetter 40 = .ok (.iload_n 1, 1) := by decide +kernel
theorem dX9_reckonLetter_41 : decode cX9_reckonLetter 41 = .ok (.ishl, 1) := by decide +kernel
theorem dX9_reckonLetter_42 : decode cX9_reckonLetter 42 = .ok (.istore 4, 2) := by decide +kernel
theorem dX9_reckonLetter_44 : decode cX9_reckonLetter 44 = .ok (.iconst 0, 1) := by decide +kernel
theorem dX9_reckonLetter_45 : decode cX9_reckonLetter 45 = .ok (.istore 5, 2) := by decide +kernel
theorem dX9_reckonLetter_47 : decode cX9_reckonLetter 47 = .ok (.iload 5, 2) := by decide +kernel
theorem dX9_reckonLetter_49 : decode cX9_reckonLetter 49 = .ok (.iload_n 1, 1) := by decide +kernel
theorem dX9_reckonLetter_50 : decode cX9_reckonLetter 50 = .ok (.if_icmp .ge 52, 3) := by decide +kernel
theorem dX9_reckonLetter_53 : decode cX9_reckonLetter 53 = .ok (.aload_n 0, 1) := by decide +kernel
theorem dX9_reckonLetter_54 : decode cX9_reckonLetter 54 = .ok (.getfield 15, 3) := by decide +kernel
theorem dX9_reckonLetter_57 : decode cX9_reckonLetter 57 = .ok (.iload 5, 2) := by decide +kernel
theorem dX9_reckonLetter_59 : decode cX9_reckonLetter 59 = .ok (.bipush 10, 2) := by decide +kernel
theorem dX9_reckonLetter_61 : decode cX9_reckonLetter 61 = .ok (.imul, 1) := by decide +kernel
theorem dX9_reckonLetter_62 : decode cX9_reckonLetter 62 = .ok (.iload_n 2, 1) := by decide +kernel
theorem dX9_reckonLetter_63 : decode cX9_reckonLetter 63 = .ok (.iadd, 1) := by decide +kernel
theorem dX9_reckonLetter_64 : decode cX9_reckonLetter 64 = .ok (.iaload, 1) := by decide +kernel
theorem dX9_reckonLetter_65 : decode cX9_reckonLetter 65 = .ok (.iload_n 3, 1) := by decide +kernel
theorem dX9_reckonLetter_66 : decode cX9_reckonLetter 66 = .ok (.if_icmp .ne 30, 3) := by decide +kernel
theorem dX9_reckonLetter_69 : decode cX9_reckonLetter 69 = .ok (.aload_n 0, 1) := by decide +kernel
theorem dX9_reckonLetter_70 : decode cX9_reckonLetter 70 = .ok (.getfield 18, 3) := by decide +kernel
theorem dX9_reckonLetter_73 : decode cX9_reckonLetter 73 = .ok (.iload 5, 2) := by decide +kernel
theorem dX9_reckonLetter_75 : decode cX9_reckonLetter 75 = .ok (.bipush 10, 2) := by decide +kernel
theorem dX9_reckonLetter_77 : decode cX9_reckonLetter 77 = .ok (.imul, 1) := by decide +kernel
theorem dX9_reckonLetter_78 : decode cX9_reckonLetter 78 = .ok (.iload_n 2, 1) := by decide +kernel
theorem dX9_reckonLetter_79 : decode cX9_reckonLetter 79 = .ok (.iadd, 1) := by decide +kernel
theorem dX9_reckonLetter_80 : decode cX9_reckonLetter 80 = .ok (.dup2, 1) := by decide +kernel
theorem dX9_reckonLetter_81 : decode cX9_reckonLetter 81 = .ok (.iaload, 1) := by decide +kernel
theorem dX9_reckonLetter_82 : decode cX9_reckonLetter 82 = .ok (.iconst 1, 1) := by decide +kernel
theorem dX9_reckonLetter_83 : decode cX9_reckonLetter 83 = .ok (.iload_n 1, 1) := by decide +kernel
theorem dX9_reckonLetter_84 : decode cX9_reckonLetter 84 = .ok (.ishl, 1) := by decide +kernel
theorem dX9_reckonLetter_85 : decode cX9_reckonLetter 85 = .ok (.ior, 1) := by decide +kernel
theorem dX9_reckonLetter_86 : decode cX9_reckonLetter 86 = .ok (.iastore, 1) := by decide +kernel
theorem dX9_reckonLetter_87 : decode cX9_reckonLetter 87 = .ok (.iload 4, 2) := by decide +kernel
theorem dX9_reckonLetter_89 : decode cX9_reckonLetter 89 = .ok (.iconst 1, 1) := by decide +kernel
theorem dX9_reckonLetter_90 : decode cX9_reckonLetter 90 = .ok (.iload 5, 2) := by decide +kernel
theorem dX9_reckonLetter_92 : decode cX9_reckonLetter 92 = .ok (.ishl, 1) := by decide +kernel
theorem dX9_reckonLetter_93 : decode cX9_reckonLetter 93 = .ok (.ior, 1) := by decide +kernel
theorem dX9_reckonLetter_94 : decode cX9_reckonLetter 94 = .ok (.istore 4, 2) := by decide +kernel
theorem dX9_reckonLetter_96 : decode cX9_reckonLetter 96 = .ok (.iinc 5 1, 3) := by decide +kernel
theorem dX9_reckonLetter_99 : decode cX9_reckonLetter 99 = .ok (.goto (-52), 3) := by decide +kernel
theorem dX9_reckonLetter_102 : decode cX9_reckonLetter 102 = .ok (.aload_n 0, 1) := by decide +kernel
theorem dX9_reckonLetter_103 : decode cX9_reckonLetter 103 = .ok (.getfield 18, 3) := by decide +kernel
theorem dX9_reckonLetter_106 : decode cX9_reckonLetter 106 = .ok (.iload_n 1, 1) := by decide +kernel
theorem dX9_reckonLetter_107 : decode cX9_reckonLetter 107 = .ok (.bipush 10, 2) := by decide +kernel
theorem dX9_reckonLetter_109 : decode cX9_reckonLetter 109 = .ok (.imul, 1) := by decide +kernel
theorem dX9_reckonLetter_110 : decode cX9_reckonLetter 110 = .ok (.iload_n 2, 1) := by decide +kernel
theorem dX9_reckonLetter_111 : decode cX9_reckonLetter 111 = .ok (.iadd, 1) := by decide +kernel
theorem dX9_reckonLetter_112 : decode cX9_reckonLetter 112 = .ok (.iload 4, 2) := by decide +kernel
theorem dX9_reckonLetter_114 : decode cX9_reckonLetter 114 = .ok (.iastore, 1) := by decide +kernel
theorem dX9_reckonLetter_115 : decode cX9_reckonLetter 115 = .ok (.return_, 1) := by decide +kernel
theorem dX9_reckonMask_0 : decode cX9_reckonMask 0 = .ok (.iconst 0, 1) := by decide +kernel
theorem dX9_reckonMask_1 : decode cX9_reckonMask 1 = .ok (.istore_n 2, 1) := by decide +kernel
theorem dX9_reckonMask_2 : decode cX9_reckonMask 2 = .ok (.iload_n 0, 1) := by decide +kernel
theorem dX9_reckonMask_3 : decode cX9_reckonMask 3 = .ok (.istore_n 3, 1) := by decide +kernel
theorem dX9_reckonMask_4 : decode cX9_reckonMask 4 = .ok (.iconst 3, 1) := by decide +kernel
theorem dX9_reckonMask_5 : decode cX9_reckonMask 5 = .ok (.istore 4, 2) := by decide +kernel
theorem dX9_reckonMask_7 : decode cX9_reckonMask 7 = .ok (.iload 4, 2) := by decide +kernel
theorem dX9_reckonMask_9 : decode cX9_reckonMask 9 = .ok (.ifCond .lt 29, 3) := by decide +kernel
theorem dX9_reckonMask_12 : decode cX9_reckonMask 12 = .ok (.iload_n 3, 1) := by decide +kernel
theorem dX9_reckonMask_13 : decode cX9_reckonMask 13 = .ok (.bipush 10, 2) := by decide +kernel
theorem dX9_reckonMask_15 : decode cX9_reckonMask 15 = .ok (.irem, 1) := by decide +kernel
theorem dX9_reckonMask_16 : decode cX9_reckonMask 16 = .ok (.iload_n 1, 1) := by decide +kernel
theorem dX9_reckonMask_17 : decode cX9_reckonMask 17 = .ok (.if_icmp .ne 10, 3) := by decide +kernel
theorem dX9_reckonMask_20 : decode cX9_reckonMask 20 = .ok (.iload_n 2, 1) := by decide +kernel
theorem dX9_reckonMask_21 : decode cX9_reckonMask 21 = .ok (.iconst 1, 1) := by decide +kernel
theorem dX9_reckonMask_22 : decode cX9_reckonMask 22 = .ok (.iload 4, 2) := by decide +kernel
theorem dX9_reckonMask_24 : decode cX9_reckonMask 24 = .ok (.ishl, 1) := by decide +kernel
theorem dX9_reckonMask_25 : decode cX9_reckonMask 25 = .ok (.ior, 1) := by decide +kernel
theorem dX9_reckonMask_26 : decode cX9_reckonMask 26 = .ok (.istore_n 2, 1) := by decide +kernel
theorem dX9_reckonMask_27 : decode cX9_reckonMask 27 = .ok (.iload_n 3, 1) := by decide +kernel
theorem dX9_reckonMask_28 : decode cX9_reckonMask 28 = .ok (.bipush 10, 2) := by decide +kernel
theorem dX9_reckonMask_30 : decode cX9_reckonMask 30 = .ok (.idiv, 1) := by decide +kernel
theorem dX9_reckonMask_31 : decode cX9_reckonMask 31 = .ok (.istore_n 3, 1) := by decide +kernel
theorem dX9_reckonMask_32 : decode cX9_reckonMask 32 = .ok (.iinc 4 (-1), 3) := by decide +kernel
theorem dX9_reckonMask_35 : decode cX9_reckonMask 35 = .ok (.goto (-28), 3) := by decide +kernel
theorem dX9_reckonMask_38 : decode cX9_reckonMask 38 = .ok (.iload_n 2, 1) := by decide +kernel
theorem dX9_reckonMask_39 : decode cX9_reckonMask 39 = .ok (.ireturn, 1) := by decide +kernel
theorem dX9_all_0 : decode cX9_all 0 = .ok (.iconst 1, 1) := by decide +kernel
theorem dX9_all_1 : decode cX9_all 1 = .ok (.aload_n 0, 1) := by decide +kernel
theorem dX9_all_2 : decode cX9_all 2 = .ok (.getfield 24, 3) := by decide +kernel
theorem dX9_all_5 : decode cX9_all 5 = .ok (.ishl, 1) := by decide +kernel
theorem dX9_all_6 : decode cX9_all 6 = .ok (.iconst 1, 1) := by decide +kernel
theorem dX9_all_7 : decode cX9_all 7 = .ok (.isub, 1) := by decide +kernel
theorem dX9_all_8 : decode cX9_all 8 = .ok (.ireturn, 1) := by decide +kernel
theorem dX9_numberOf_0 : decode cX9_numberOf 0 = .ok (.iconst 0, 1) := by decide +kernel
theorem dX9_numberOf_1 : decode cX9_numberOf 1 = .ok (.istore_n 2, 1) := by decide +kernel
theorem dX9_numberOf_2 : decode cX9_numberOf 2 = .ok (.iload_n 2, 1) := by decide +kernel
theorem dX9_numberOf_3 : decode cX9_numberOf 3 = .ok (.aload_n 0, 1) := by decide +kernel
theorem dX9_numberOf_4 : decode cX9_numberOf 4 = .ok (.getfield 24, 3) := by decide +kernel
theorem dX9_numberOf_7 : decode cX9_numberOf 7 = .ok (.if_icmp .ge 21, 3) := by decide +kernel
theorem dX9_numberOf_10 : decode cX9_numberOf 10 = .ok (.aload_n 0, 1) := by decide +kernel
theorem dX9_numberOf_11 : decode cX9_numberOf 11 = .ok (.getfield 9, 3) := by decide +kernel
theorem dX9_numberOf_14 : decode cX9_numberOf 14 = .ok (.iload_n 2, 1) := by decide +kernel
theorem dX9_numberOf_15 : decode cX9_numberOf 15 = .ok (.iaload, 1) := by decide +kernel
theorem dX9_numberOf_16 : decode cX9_numberOf 16 = .ok (.iload_n 1, 1) := by decide +kernel
theorem dX9_numberOf_17 : decode cX9_numberOf 17 = .ok (.if_icmp .ne 5, 3) := by decide +kernel
theorem dX9_numberOf_20 : decode cX9_numberOf 20 = .ok (.iload_n 2, 1) := by decide +kernel
theorem dX9_numberOf_21 : decode cX9_numberOf 21 = .ok (.ireturn, 1) := by decide +kernel
theorem dX9_numberOf_22 : decode cX9_numberOf 22 = .ok (.iinc 2 1, 3) := by decide +kernel
theorem dX9_numberOf_25 : decode cX9_numberOf 25 = .ok (.goto (-23), 3) := by decide +kernel
theorem dX9_numberOf_28 : decode cX9_numberOf 28 = .ok (.iconst (-1), 1) := by decide +kernel
theorem dX9_numberOf_29 : decode cX9_numberOf 29 = .ok (.ireturn, 1) := by decide +kernel
theorem dX9_codeOf_0 : decode cX9_codeOf 0 = .ok (.iload_n 1, 1) := by decide +kernel
theorem dX9_codeOf_1 : decode cX9_codeOf 1 = .ok (.ifCond .lt 20, 3) := by decide +kernel
theorem dX9_codeOf_4 : decode cX9_codeOf 4 = .ok (.iload_n 1, 1) := by decide +kernel
theorem dX9_codeOf_5 : decode cX9_codeOf 5 = .ok (.aload_n 0, 1) := by decide +kernel
theorem dX9_codeOf_6 : decode cX9_codeOf 6 = .ok (.getfield 24, 3) := by decide +kernel
theorem dX9_codeOf_9 : decode cX9_codeOf 9 = .ok (.if_icmp .ge 12, 3) := by decide +kernel
theorem dX9_codeOf_12 : decode cX9_codeOf 12 = .ok (.aload_n 0, 1) := by decide +kernel
theorem dX9_codeOf_13 : decode cX9_codeOf 13 = .ok (.getfield 9, 3) := by decide +kernel
theorem dX9_codeOf_16 : decode cX9_codeOf 16 = .ok (.iload_n 1, 1) := by decide +kernel
theorem dX9_codeOf_17 : decode cX9_codeOf 17 = .ok (.iaload, 1) := by decide +kernel
theorem dX9_codeOf_18 : decode cX9_codeOf 18 = .ok (.goto 4, 3) := by decide +kernel
theorem dX9_codeOf_21 : decode cX9_codeOf 21 = .ok (.iconst 0, 1) := by decide +kernel
theorem dX9_codeOf_22 : decode cX9_codeOf 22 = .ok (.ireturn, 1) := by decide +kernel
theorem dX9_maskOf_0 : decode cX9_maskOf 0 = .ok (.iload_n 1, 1) := by decide +kernel
theorem dX9_maskOf_1 : decode cX9_maskOf 1 = .ok (.ifCond .lt 35, 3) := by decide +kernel
theorem dX9_maskOf_4 : decode cX9_maskOf 4 = .ok (.iload_n 1, 1) := by decide +kernel
theorem dX9_maskOf_5 : decode cX9_maskOf 5 = .ok (.aload_n 0, 1) := by decide +kernel
theorem dX9_maskOf_6 : decode cX9_maskOf 6 = .ok (.getfield 24, 3) := by decide +kernel
theorem dX9_maskOf_9 : decode cX9_maskOf 9 = .ok (.if_icmp .ge 27, 3) := by decide +kernel
theorem dX9_maskOf_12 : decode cX9_maskOf 12 = .ok (.iload_n 2, 1) := by decide +kernel
theorem dX9_maskOf_13 : decode cX9_maskOf 13 = .ok (.ifCond .lt 23, 3) := by decide +kernel
theorem dX9_maskOf_16 : decode cX9_maskOf 16 = .ok (.iload_n 2, 1) := by decide +kernel
theorem dX9_maskOf_17 : decode cX9_maskOf 17 = .ok (.bipush 10, 2) := by decide +kernel
theorem dX9_maskOf_19 : decode cX9_maskOf 19 = .ok (.if_icmp .ge 17, 3) := by decide +kernel
theorem dX9_maskOf_22 : decode cX9_maskOf 22 = .ok (.aload_n 0, 1) := by decide +kernel
theorem dX9_maskOf_23 : decode cX9_maskOf 23 = .ok (.getfield 15, 3) := by decide +kernel
theorem dX9_maskOf_26 : decode cX9_maskOf 26 = .ok (.iload_n 1, 1) := by decide +kernel
theorem dX9_maskOf_27 : decode cX9_maskOf 27 = .ok (.bipush 10, 2) := by decide +kernel
theorem dX9_maskOf_29 : decode cX9_maskOf 29 = .ok (.imul, 1) := by decide +kernel
theorem dX9_maskOf_30 : decode cX9_maskOf 30 = .ok (.iload_n 2, 1) := by decide +kernel
theorem dX9_maskOf_31 : decode cX9_maskOf 31 = .ok (.iadd, 1) := by decide +kernel
theorem dX9_maskOf_32 : decode cX9_maskOf 32 = .ok (.iaload, 1) := by decide +kernel
theorem dX9_maskOf_33 : decode cX9_maskOf 33 = .ok (.goto 4, 3) := by decide +kernel
theorem dX9_maskOf_36 : decode cX9_maskOf 36 = .ok (.iconst 0, 1) := by decide +kernel
theorem dX9_maskOf_37 : decode cX9_maskOf 37 = .ok (.ireturn, 1) := by decide +kernel
theorem dX9_alikeTo_0 : decode cX9_alikeTo 0 = .ok (.iload_n 1, 1) := by decide +kernel
theorem dX9_alikeTo_1 : decode cX9_alikeTo 1 = .ok (.ifCond .lt 35, 3) := by decide +kernel
theorem dX9_alikeTo_4 : decode cX9_alikeTo 4 = .ok (.iload_n 1, 1) := by decide +kernel
theorem dX9_alikeTo_5 : decode cX9_alikeTo 5 = .ok (.aload_n 0, 1) := by decide +kernel
theorem dX9_alikeTo_6 : decode cX9_alikeTo 6 = .ok (.getfield 24, 3) := by decide +kernel
theorem dX9_alikeTo_9 : decode cX9_alikeTo 9 = .ok (.if_icmp .ge 27, 3) := by decide +kernel
theorem dX9_alikeTo_12 : decode cX9_alikeTo 12 = .ok (.iload_n 2, 1) := by decide +kernel
theorem dX9_alikeTo_13 : decode cX9_alikeTo 13 = .ok (.ifCond .lt 23, 3) := by decide +kernel
theorem dX9_alikeTo_16 : decode cX9_alikeTo 16 = .ok (.iload_n 2, 1) := by decide +kernel
theorem dX9_alikeTo_17 : decode cX9_alikeTo 17 = .ok (.bipush 10, 2) := by decide +kernel
theorem dX9_alikeTo_19 : decode cX9_alikeTo 19 = .ok (.if_icmp .ge 17, 3) := by decide +kernel
theorem dX9_alikeTo_22 : decode cX9_alikeTo 22 = .ok (.aload_n 0, 1) := by decide +kernel
theorem dX9_alikeTo_23 : decode cX9_alikeTo 23 = .ok (.getfield 18, 3) := by decide +kernel
theorem dX9_alikeTo_26 : decode cX9_alikeTo 26 = .ok (.iload_n 1, 1) := by decide +kernel
theorem dX9_alikeTo_27 : decode cX9_alikeTo 27 = .ok (.bipush 10, 2) := by decide +kernel
theorem dX9_alikeTo_29 : decode cX9_alikeTo 29 = .ok (.imul, 1) := by decide +kernel
theorem dX9_alikeTo_30 : decode cX9_alikeTo 30 = .ok (.iload_n 2, 1) := by decide +kernel
theorem dX9_alikeTo_31 : decode cX9_alikeTo 31 = .ok (.iadd, 1) := by decide +kernel
theorem dX9_alikeTo_32 : decode cX9_alikeTo 32 = .ok (.iaload, 1) := by decide +kernel
theorem dX9_alikeTo_33 : decode cX9_alikeTo 33 = .ok (.goto 4, 3) := by decide +kernel
theorem dX9_alikeTo_36 : decode cX9_alikeTo 36 = .ok (.iconst 0, 1) := by decide +kernel
theorem dX9_alikeTo_37 : decode cX9_alikeTo 37 = .ok (.ireturn, 1) := by decide +kernel
theorem dX9_having_0 : decode cX9_having 0 = .ok (.iload_n 1, 1) := by decide +kernel
theorem dX9_having_1 : decode cX9_having 1 = .ok (.ifCond .lt 18, 3) := by decide +kernel
theorem dX9_having_4 : decode cX9_having 4 = .ok (.iload_n 1, 1) := by decide +kernel
theorem dX9_having_5 : decode cX9_having 5 = .ok (.bipush 10, 2) := by decide +kernel
theorem dX9_having_7 : decode cX9_having 7 = .ok (.if_icmp .ge 12, 3) := by decide +kernel
theorem dX9_having_10 : decode cX9_having 10 = .ok (.aload_n 0, 1) := by decide +kernel
theorem dX9_having_11 : decode cX9_having 11 = .ok (.getfield 21, 3) := by decide +kernel
theorem dX9_having_14 : decode cX9_having 14 = .ok (.iload_n 1, 1) := by decide +kernel
theorem dX9_having_15 : decode cX9_having 15 = .ok (.iaload, 1) := by decide +kernel
theorem dX9_having_16 : decode cX9_having 16 = .ok (.goto 4, 3) := by decide +kernel
theorem dX9_having_19 : decode cX9_having 19 = .ok (.iconst 0, 1) := by decide +kernel
theorem dX9_having_20 : decode cX9_having 20 = .ok (.ireturn, 1) := by decide +kernel
theorem dX9_isLacking_0 : decode cX9_isLacking 0 = .ok (.iload_n 1, 1) := by decide +kernel
theorem dX9_isLacking_1 : decode cX9_isLacking 1 = .ok (.aload_n 0, 1) := by decide +kernel
theorem dX9_isLacking_2 : decode cX9_isLacking 2 = .ok (.iload_n 2, 1) := by decide +kernel
theorem dX9_isLacking_3 : decode cX9_isLacking 3 = .ok (.invokevirtual 42, 3) := by decide +kernel
theorem dX9_isLacking_6 : decode cX9_isLacking 6 = .ok (.iconst (-1), 1) := by decide +kernel
theorem dX9_isLacking_7 : decode cX9_isLacking 7 = .ok (.ixor, 1) := by decide +kernel
theorem dX9_isLacking_8 : decode cX9_isLacking 8 = .ok (.iand, 1) := by decide +kernel
theorem dX9_isLacking_9 : decode cX9_isLacking 9 = .ok (.ifCond .eq 7, 3) := by decide +kernel
theorem dX9_isLacking_12 : decode cX9_isLacking 12 = .ok (.iconst 1, 1) := by decide +kernel
theorem dX9_isLacking_13 : decode cX9_isLacking 13 = .ok (.goto 4, 3) := by decide +kernel
theorem dX9_isLacking_16 : decode cX9_isLacking 16 = .ok (.iconst 0, 1) := by decide +kernel
theorem dX9_isLacking_17 : decode cX9_isLacking 17 = .ok (.ireturn, 1) := by decide +kernel
theorem dX9_commonestMask_0 : decode cX9_commonestMask 0 = .ok (.iconst 0, 1) := by decide +kernel
theorem dX9_commonestMask_1 : decode cX9_commonestMask 1 = .ok (.istore_n 3, 1) := by decide +kernel
theorem dX9_commonestMask_2 : decode cX9_commonestMask 2 = .ok (.iconst 0, 1) := by decide +kernel
theorem dX9_commonestMask_3 : decode cX9_commonestMask 3 = .ok (.istore 4, 2) := by decide +kernel
theorem dX9_commonestMask_5 : decode cX9_commonestMask 5 = .ok (.iconst 0, 1) := by decide +kernel
theorem dX9_commonestMask_6 : decode cX9_commonestMask 6 = .ok (.istore 5, 2) := by decide +kernel
theorem dX9_commonestMask_8 : decode cX9_commonestMask 8 = .ok (.iload 5, 2) := by decide +kernel
theorem dX9_commonestMask_10 : decode cX9_commonestMask 10 = .ok (.aload_n 0, 1) := by decide +kernel
theorem dX9_commonestMask_11 : decode cX9_commonestMask 11 = .ok (.getfield 24, 3) := by decide +kernel
theorem dX9_commonestMask_14 : decode cX9_commonestMask 14 = .ok (.if_icmp .ge 68, 3) := by decide +kernel
theorem dX9_commonestMask_17 : decode cX9_commonestMask 17 = .ok (.iload_n 1, 1) := by decide +kernel
theorem dX9_commonestMask_18 : decode cX9_commonestMask 18 = .ok (.iload 5, 2) := by decide +kernel
theorem dX9_commonestMask_20 : decode cX9_commonestMask 20 = .ok (.ishr, 1) := by decide +kernel
theorem dX9_commonestMask_21 : decode cX9_commonestMask 21 = .ok (.iconst 1, 1) := by decide +kernel
theorem dX9_commonestMask_22 : decode cX9_commonestMask 22 = .ok (.iand, 1) := by decide +kernel
theorem dX9_commonestMask_23 : decode cX9_commonestMask 23 = .ok (.ifCond .eq 53, 3) := by decide +kernel
theorem dX9_commonestMask_26 : decode cX9_commonestMask 26 = .ok (.aload_n 0, 1) := by decide +kernel
theorem dX9_commonestMask_27 : decode cX9_commonestMask 27 = .ok (.iload 5, 2) := by decide +kernel
theorem dX9_commonestMask_29 : decode cX9_commonestMask 29 = .ok (.iload_n 2, 1) := by decide +kernel
theorem dX9_commonestMask_30 : decode cX9_commonestMask 30 = .ok (.invokevirtual 46, 3) := by decide +kernel
theorem dX9_commonestMask_33 : decode cX9_commonestMask 33 = .ok (.istore 6, 2) := by decide +kernel
theorem dX9_commonestMask_35 : decode cX9_commonestMask 35 = .ok (.aload_n 0, 1) := by decide +kernel
theorem dX9_commonestMask_36 : decode cX9_commonestMask 36 = .ok (.iload 5, 2) := by decide +kernel
theorem dX9_commonestMask_38 : decode cX9_commonestMask 38 = .ok (.iload_n 2, 1) := by decide +kernel
theorem dX9_commonestMask_39 : decode cX9_commonestMask 39 = .ok (.invokevirtual 49, 3) := by decide +kernel
theorem dX9_commonestMask_42 : decode cX9_commonestMask 42 = .ok (.iload_n 1, 1) := by decide +kernel
theorem dX9_commonestMask_43 : decode cX9_commonestMask 43 = .ok (.iand, 1) := by decide +kernel
theorem dX9_commonestMask_44 : decode cX9_commonestMask 44 = .ok (.invokestatic 52, 3) := by decide +kernel
theorem dX9_commonestMask_47 : decode cX9_commonestMask 47 = .ok (.istore 7, 2) := by decide +kernel
theorem dX9_commonestMask_49 : decode cX9_commonestMask 49 = .ok (.iload 7, 2) := by decide +kernel
theorem dX9_commonestMask_51 : decode cX9_commonestMask 51 = .ok (.iload 4, 2) := by decide +kernel
theorem dX9_commonestMask_53 : decode cX9_commonestMask 53 = .ok (.if_icmp .gt 16, 3) := by decide +kernel
theorem dX9_commonestMask_56 : decode cX9_commonestMask 56 = .ok (.iload 7, 2) := by decide +kernel
theorem dX9_commonestMask_58 : decode cX9_commonestMask 58 = .ok (.iload 4, 2) := by decide +kernel
theorem dX9_commonestMask_60 : decode cX9_commonestMask 60 = .ok (.if_icmp .ne 16, 3) := by decide +kernel
theorem dX9_commonestMask_63 : decode cX9_commonestMask 63 = .ok (.iload 6, 2) := by decide +kernel
theorem dX9_commonestMask_65 : decode cX9_commonestMask 65 = .ok (.iload_n 3, 1) := by decide +kernel
theorem dX9_commonestMask_66 : decode cX9_commonestMask 66 = .ok (.if_icmp .ge 10, 3) := by decide +kernel
theorem dX9_commonestMask_69 : decode cX9_commonestMask 69 = .ok (.iload 6, 2) := by decide +kernel
theorem dX9_commonestMask_71 : decode cX9_commonestMask 71 = .ok (.istore_n 3, 1) := by decide +kernel
theorem dX9_commonestMask_72 : decode cX9_commonestMask 72 = .ok (.iload 7, 2) := by decide +kernel
theorem dX9_commonestMask_74 : decode cX9_commonestMask 74 = .ok (.istore 4, 2) := by decide +kernel
theorem dX9_commonestMask_76 : decode cX9_commonestMask 76 = .ok (.iinc 5 1, 3) := by decide +kernel
theorem dX9_commonestMask_79 : decode cX9_commonestMask 79 = .ok (.goto (-71), 3) := by decide +kernel
theorem dX9_commonestMask_82 : decode cX9_commonestMask 82 = .ok (.iload_n 3, 1) := by decide +kernel
theorem dX9_commonestMask_83 : decode cX9_commonestMask 83 = .ok (.ireturn, 1) := by decide +kernel
theorem dX9_fullestMask_0 : decode cX9_fullestMask 0 = .ok (.iconst 0, 1) := by decide +kernel
theorem dX9_fullestMask_1 : decode cX9_fullestMask 1 = .ok (.istore_n 3, 1) := by decide +kernel
theorem dX9_fullestMask_2 : decode cX9_fullestMask 2 = .ok (.iconst 0, 1) := by decide +kernel
theorem dX9_fullestMask_3 : decode cX9_fullestMask 3 = .ok (.istore 4, 2) := by decide +kernel
theorem dX9_fullestMask_5 : decode cX9_fullestMask 5 = .ok (.iload 4, 2) := by decide +kernel
theorem dX9_fullestMask_7 : decode cX9_fullestMask 7 = .ok (.aload_n 0, 1) := by decide +kernel
theorem dX9_fullestMask_8 : decode cX9_fullestMask 8 = .ok (.getfield 24, 3) := by decide +kernel
theorem dX9_fullestMask_11 : decode cX9_fullestMask 11 = .ok (.if_icmp .ge 58, 3) := by decide +kernel
theorem dX9_fullestMask_14 : decode cX9_fullestMask 14 = .ok (.aload_n 0, 1) := by decide +kernel
theorem dX9_fullestMask_15 : decode cX9_fullestMask 15 = .ok (.iload 4, 2) := by decide +kernel
theorem dX9_fullestMask_17 : decode cX9_fullestMask 17 = .ok (.iload_n 2, 1) := by decide +kernel
theorem dX9_fullestMask_18 : decode cX9_fullestMask 18 = .ok (.invokevirtual 46, 3) := by decide +kernel
theorem dX9_fullestMask_21 : decode cX9_fullestMask 21 = .ok (.istore 5, 2) := by decide +kernel
theorem dX9_fullestMask_23 : decode cX9_fullestMask 23 = .ok (.iload 5, 2) := by decide +kernel
theorem dX9_fullestMask_25 : decode cX9_fullestMask 25 = .ok (.invokestatic 52, 3) := by decide +kernel
theorem dX9_fullestMask_28 : decode cX9_fullestMask 28 = .ok (.iload_n 3, 1) := by decide +kernel
theorem dX9_fullestMask_29 : decode cX9_fullestMask 29 = .ok (.invokestatic 52, 3) := by decide +kernel
theorem dX9_fullestMask_32 : decode cX9_fullestMask 32 = .ok (.isub, 1) := by decide +kernel
theorem dX9_fullestMask_33 : decode cX9_fullestMask 33 = .ok (.istore 6, 2) := by decide +kernel
theorem dX9_fullestMask_35 : decode cX9_fullestMask 35 = .ok (.iload_n 1, 1) := by decide +kernel
theorem dX9_fullestMask_36 : decode cX9_fullestMask 36 = .ok (.iload 4, 2) := by decide +kernel
theorem dX9_fullestMask_38 : decode cX9_fullestMask 38 = .ok (.ishr, 1) := by decide +kernel
theorem dX9_fullestMask_39 : decode cX9_fullestMask 39 = .ok (.iconst 1, 1) := by decide +kernel
theorem dX9_fullestMask_40 : decode cX9_fullestMask 40 = .ok (.iand, 1) := by decide +kernel
theorem dX9_fullestMask_41 : decode cX9_fullestMask 41 = .ok (.ifCond .eq 22, 3) := by decide +kernel
theorem dX9_fullestMask_44 : decode cX9_fullestMask 44 = .ok (.iload 6, 2) := by decide +kernel
theorem dX9_fullestMask_46 : decode cX9_fullestMask 46 = .ok (.ifCond .gt 14, 3) := by decide +kernel
theorem dX9_fullestMask_49 : decode cX9_fullestMask 49 = .ok (.iload 6, 2) := by decide +kernel
theorem dX9_fullestMask_51 : decode cX9_fullestMask 51 = .ok (.ifCond .ne 12, 3) := by decide +kernel
theorem dX9_fullestMask_54 : decode cX9_fullestMask 54 = .ok (.iload 5, 2) := by decide +kernel
theorem dX9_fullestMask_56 : decode cX9_fullestMask 56 = .ok (.iload_n 3, 1) := by decide +kernel
theorem dX9_fullestMask_57 : decode cX9_fullestMask 57 = .ok (.if_icmp .le 6, 3) := by decide +kernel
theorem dX9_fullestMask_60 : decode cX9_fullestMask 60 = .ok (.iload 5, 2) := by decide +kernel
theorem dX9_fullestMask_62 : decode cX9_fullestMask 62 = .ok (.istore_n 3, 1) := by decide +kernel
theorem dX9_fullestMask_63 : decode cX9_fullestMask 63 = .ok (.iinc 4 1, 3) := by decide +kernel
theorem dX9_fullestMask_66 : decode cX9_fullestMask 66 = .ok (.goto (-61), 3) := by decide +kernel
theorem dX9_fullestMask_69 : decode cX9_fullestMask 69 = .ok (.iload_n 3, 1) := by decide +kernel
theorem dX9_fullestMask_70 : decode cX9_fullestMask 70 = .ok (.ireturn, 1) := by decide +kernel
theorem dX9_withMask_0 : decode cX9_withMask 0 = .ok (.iconst 0, 1) := by decide +kernel
theorem dX9_withMask_1 : decode cX9_withMask 1 = .ok (.istore 4, 2) := by decide +kernel
theorem dX9_withMask_3 : decode cX9_withMask 3 = .ok (.iconst 0, 1) := by decide +kernel
theorem dX9_withMask_4 : decode cX9_withMask 4 = .ok (.istore 5, 2) := by decide +kernel
theorem dX9_withMask_6 : decode cX9_withMask 6 = .ok (.iload 5, 2) := by decide +kernel
theorem dX9_withMask_8 : decode cX9_withMask 8 = .ok (.aload_n 0, 1) := by decide +kernel
theorem dX9_withMask_9 : decode cX9_withMask 9 = .ok (.getfield 24, 3) := by decide +kernel
theorem dX9_withMask_12 : decode cX9_withMask 12 = .ok (.if_icmp .ge 29, 3) := by decide +kernel
theorem dX9_withMask_15 : decode cX9_withMask 15 = .ok (.aload_n 0, 1) := by decide +kernel
theorem dX9_withMask_16 : decode cX9_withMask 16 = .ok (.iload 5, 2) := by decide +kernel
theorem dX9_withMask_18 : decode cX9_withMask 18 = .ok (.iload_n 2, 1) := by decide +kernel
theorem dX9_withMask_19 : decode cX9_withMask 19 = .ok (.invokevirtual 46, 3) := by decide +kernel
theorem dX9_withMask_22 : decode cX9_withMask 22 = .ok (.iload_n 3, 1) := by decide +kernel
theorem dX9_withMask_23 : decode cX9_withMask 23 = .ok (.if_icmp .ne 12, 3) := by decide +kernel
theorem dX9_withMask_26 : decode cX9_withMask 26 = .ok (.iload 4, 2) := by decide +kernel
theorem dX9_withMask_28 : decode cX9_withMask 28 = .ok (.iconst 1, 1) := by decide +kernel
theorem dX9_withMask_29 : decode cX9_withMask 29 = .ok (.iload 5, 2) := by decide +kernel
theorem dX9_withMask_31 : decode cX9_withMask 31 = .ok (.ishl, 1) := by decide +kernel
theorem dX9_withMask_32 : decode cX9_withMask 32 = .ok (.ior, 1) := by decide +kernel
theorem dX9_withMask_33 : decode cX9_withMask 33 = .ok (.istore 4, 2) := by decide +kernel
theorem dX9_withMask_35 : decode cX9_withMask 35 = .ok (.iinc 5 1, 3) := by decide +kernel
theorem dX9_withMask_38 : decode cX9_withMask 38 = .ok (.goto (-32), 3) := by decide +kernel
theorem dX9_withMask_41 : decode cX9_withMask 41 = .ok (.iload 4, 2) := by decide +kernel
theorem dX9_withMask_43 : decode cX9_withMask 43 = .ok (.iload_n 1, 1) := by decide +kernel
theorem dX9_withMask_44 : decode cX9_withMask 44 = .ok (.iand, 1) := by decide +kernel
theorem dX9_withMask_45 : decode cX9_withMask 45 = .ok (.ireturn, 1) := by decide +kernel
theorem dX9_unlikeMasks_0 : decode cX9_unlikeMasks 0 = .ok (.iconst 0, 1) := by decide +kernel
theorem dX9_unlikeMasks_1 : decode cX9_unlikeMasks 1 = .ok (.istore_n 3, 1) := by decide +kernel
theorem dX9_unlikeMasks_2 : decode cX9_unlikeMasks 2 = .ok (.iconst 0, 1) := by decide +kernel
theorem dX9_unlikeMasks_3 : decode cX9_unlikeMasks 3 = .ok (.istore 4, 2) := by decide +kernel
theorem dX9_unlikeMasks_5 : decode cX9_unlikeMasks 5 = .ok (.iload 4, 2) := by decide +kernel
theorem dX9_unlikeMasks_7 : decode cX9_unlikeMasks 7 = .ok (.aload_n 0, 1) := by decide +kernel
theorem dX9_unlikeMasks_8 : decode cX9_unlikeMasks 8 = .ok (.getfield 24, 3) := by decide +kernel
theorem dX9_unlikeMasks_11 : decode cX9_unlikeMasks 11 = .ok (.if_icmp .ge 30, 3) := by decide +kernel
theorem dX9_unlikeMasks_14 : decode cX9_unlikeMasks 14 = .ok (.iload_n 1, 1) := by decide +kernel
theorem dX9_unlikeMasks_15 : decode cX9_unlikeMasks 15 = .ok (.iload 4, 2) := by decide +kernel
theorem dX9_unlikeMasks_17 : decode cX9_unlikeMasks 17 = .ok (.ishr, 1) := by decide +kernel
theorem dX9_unlikeMasks_18 : decode cX9_unlikeMasks 18 = .ok (.iconst 1, 1) := by decide +kernel
theorem dX9_unlikeMasks_19 : decode cX9_unlikeMasks 19 = .ok (.iand, 1) := by decide +kernel
theorem dX9_unlikeMasks_20 : decode cX9_unlikeMasks 20 = .ok (.ifCond .eq 15, 3) := by decide +kernel
theorem dX9_unlikeMasks_23 : decode cX9_unlikeMasks 23 = .ok (.iload_n 3, 1) := by decide +kernel
theorem dX9_unlikeMasks_24 : decode cX9_unlikeMasks 24 = .ok (.iconst 1, 1) := by decide +kernel
theorem dX9_unlikeMasks_25 : decode cX9_unlikeMasks 25 = .ok (.aload_n 0, 1) := by decide +kernel
theorem dX9_unlikeMasks_26 : decode cX9_unlikeMasks 26 = .ok (.iload 4, 2) := by decide +kernel
theorem dX9_unlikeMasks_28 : decode cX9_unlikeMasks 28 = .ok (.iload_n 2, 1) := by decide +kernel
theorem dX9_unlikeMasks_29 : decode cX9_unlikeMasks 29 = .ok (.invokevirtual 46, 3) := by decide +kernel
theorem dX9_unlikeMasks_32 : decode cX9_unlikeMasks 32 = .ok (.ishl, 1) := by decide +kernel
theorem dX9_unlikeMasks_33 : decode cX9_unlikeMasks 33 = .ok (.ior, 1) := by decide +kernel
theorem dX9_unlikeMasks_34 : decode cX9_unlikeMasks 34 = .ok (.istore_n 3, 1) := by decide +kernel
theorem dX9_unlikeMasks_35 : decode cX9_unlikeMasks 35 = .ok (.iinc 4 1, 3) := by decide +kernel
theorem dX9_unlikeMasks_38 : decode cX9_unlikeMasks 38 = .ok (.goto (-33), 3) := by decide +kernel
theorem dX9_unlikeMasks_41 : decode cX9_unlikeMasks 41 = .ok (.iload_n 3, 1) := by decide +kernel
theorem dX9_unlikeMasks_42 : decode cX9_unlikeMasks 42 = .ok (.invokestatic 52, 3) := by decide +kernel
theorem dX9_unlikeMasks_45 : decode cX9_unlikeMasks 45 = .ok (.ireturn, 1) := by decide +kernel
theorem dX9_greatestPart_0 : decode cX9_greatestPart 0 = .ok (.iconst 0, 1) := by decide +kernel
theorem dX9_greatestPart_1 : decode cX9_greatestPart 1 = .ok (.istore_n 3, 1) := by decide +kernel
theorem dX9_greatestPart_2 : decode cX9_greatestPart 2 = .ok (.iconst 0, 1) := by decide +kernel
theorem dX9_greatestPart_3 : decode cX9_greatestPart 3 = .ok (.istore 4, 2) := by decide +kernel
theorem dX9_greatestPart_5 : decode cX9_greatestPart 5 = .ok (.iload 4, 2) := by decide +kernel
theorem dX9_greatestPart_7 : decode cX9_greatestPart 7 = .ok (.aload_n 0, 1) := by decide +kernel
theorem dX9_greatestPart_8 : decode cX9_greatestPart 8 = .ok (.getfield 24, 3) := by decide +kernel
theorem dX9_greatestPart_11 : decode cX9_greatestPart 11 = .ok (.if_icmp .ge 35, 3) := by decide +kernel
theorem dX9_greatestPart_14 : decode cX9_greatestPart 14 = .ok (.iload_n 1, 1) := by decide +kernel
theorem dX9_greatestPart_15 : decode cX9_greatestPart 15 = .ok (.iload 4, 2) := by decide +kernel
theorem dX9_greatestPart_17 : decode cX9_greatestPart 17 = .ok (.ishr, 1) := by decide +kernel
theorem dX9_greatestPart_18 : decode cX9_greatestPart 18 = .ok (.iconst 1, 1) := by decide +kernel
theorem dX9_greatestPart_19 : decode cX9_greatestPart 19 = .ok (.iand, 1) := by decide +kernel
theorem dX9_greatestPart_20 : decode cX9_greatestPart 20 = .ok (.ifCond .eq 20, 3) := by decide +kernel
theorem dX9_greatestPart_23 : decode cX9_greatestPart 23 = .ok (.iload_n 3, 1) := by decide +kernel
theorem dX9_greatestPart_24 : decode cX9_greatestPart 24 = .ok (.aload_n 0, 1) := by decide +kernel
theorem dX9_greatestPart_25 : decode cX9_greatestPart 25 = .ok (.iload 4, 2) := by decide +kernel
theorem dX9_greatestPart_27 : decode cX9_greatestPart 27 = .ok (.iload_n 2, 1) := by decide +kernel
theorem dX9_greatestPart_28 : decode cX9_greatestPart 28 = .ok (.invokevirtual 49, 3) := by decide +kernel
theorem dX9_greatestPart_31 : decode cX9_greatestPart 31 = .ok (.iload_n 1, 1) := by decide +kernel
theorem dX9_greatestPart_32 : decode cX9_greatestPart 32 = .ok (.iand, 1) := by decide +kernel
theorem dX9_greatestPart_33 : decode cX9_greatestPart 33 = .ok (.invokestatic 52, 3) := by decide +kernel
theorem dX9_greatestPart_36 : decode cX9_greatestPart 36 = .ok (.invokestatic 57, 3) := by decide +kernel
theorem dX9_greatestPart_39 : decode cX9_greatestPart 39 = .ok (.istore_n 3, 1) := by decide +kernel
theorem dX9_greatestPart_40 : decode cX9_greatestPart 40 = .ok (.iinc 4 1, 3) := by decide +kernel
theorem dX9_greatestPart_43 : decode cX9_greatestPart 43 = .ok (.goto (-38), 3) := by decide +kernel
theorem dX9_greatestPart_46 : decode cX9_greatestPart 46 = .ok (.iload_n 3, 1) := by decide +kernel
theorem dX9_greatestPart_47 : decode cX9_greatestPart 47 = .ok (.ireturn, 1) := by decide +kernel
theorem dX10_init_0 : decode cX10_init 0 = .ok (.aload_n 0, 1) := by decide +kernel
theorem dX10_init_1 : decode cX10_init 1 = .ok (.invokespecial 1, 3) := by decide +kernel
theorem dX10_init_4 : decode cX10_init 4 = .ok (.aload_n 0, 1) := by decide +kernel
theorem dX10_init_5 : decode cX10_init 5 = .ok (.new 7, 3) := by decide +kernel
theorem dX10_init_8 : decode cX10_init 8 = .ok (.dup, 1) := by decide +kernel
theorem dX10_init_9 : decode cX10_init 9 = .ok (.invokespecial 9, 3) := by decide +kernel
theorem dX10_init_12 : decode cX10_init 12 = .ok (.putfield 10, 3) := by decide +kernel
theorem dX10_init_15 : decode cX10_init 15 = .ok (.aload_n 0, 1) := by decide +kernel
theorem dX10_init_16 : decode cX10_init 16 = .ok (.iconst 2, 1) := by decide +kernel
theorem dX10_init_17 : decode cX10_init 17 = .ok (.anewarray 7, 3) := by decide +kernel
theorem dX10_init_20 : decode cX10_init 20 = .ok (.putfield 16, 3) := by decide +kernel
theorem dX10_init_23 : decode cX10_init 23 = .ok (.aload_n 0, 1) := by decide +kernel
theorem dX10_init_24 : decode cX10_init 24 = .ok (.new 20, 3) := by decide +kernel
theorem dX10_init_27 : decode cX10_init 27 = .ok (.dup, 1) := by decide +kernel
theorem dX10_init_28 : decode cX10_init 28 = .ok (.invokespecial 22, 3) := by decide +kernel
theorem dX10_init_31 : decode cX10_init 31 = .ok (.putfield 23, 3) := by decide +kernel
theorem dX10_init_34 : decode cX10_init 34 = .ok (.aload_n 0, 1) := by decide +kernel
theorem dX10_init_35 : decode cX10_init 35 = .ok (.new 27, 3) := by decide +kernel
theorem dX10_init_38 : decode cX10_init 38 = .ok (.dup, 1) := by decide +kernel
theorem dX10_init_39 : decode cX10_init 39 = .ok (.invokespecial 29, 3) := by decide +kernel
theorem dX10_init_42 : decode cX10_init 42 = .ok (.putfield 30, 3) := by decide +kernel
theorem dX10_init_45 : decode cX10_init 45 = .ok (.aload_n 0, 1) := by decide +kernel
theorem dX10_init_46 : decode cX10_init 46 = .ok (.new 34, 3) := by decide +kernel
theorem dX10_init_49 : decode cX10_init 49 = .ok (.dup, 1) := by decide +kernel
theorem dX10_init_50 : decode cX10_init 50 = .ok (.invokespecial 36, 3) := by decide +kernel
theorem dX10_init_53 : decode cX10_init 53 = .ok (.putfield 37, 3) := by decide +kernel
theorem dX10_init_56 : decode cX10_init 56 = .ok (.aload_n 0, 1) := by decide +kernel
theorem dX10_init_57 : decode cX10_init 57 = .ok (.new 41, 3) := by decide +kernel
theorem dX10_init_60 : decode cX10_init 60 = .ok (.dup, 1) := by decide +kernel
theorem dX10_init_61 : decode cX10_init 61 = .ok (.invokespecial 43, 3) := by decide +kernel
theorem dX10_init_64 : decode cX10_init 64 = .ok (.putfield 44, 3) := by decide +kernel
theorem dX10_init_67 : decode cX10_init 67 = .ok (.aload_n 0, 1) := by decide +kernel
theorem dX10_init_68 : decode cX10_init 68 = .ok (.bipush 36, 2) := by decide +kernel
theorem dX10_init_70 : decode cX10_init 70 = .ok (.newarray .int, 2) := by decide +kernel
theorem dX10_init_72 : decode cX10_init 72 = .ok (.putfield 48, 3) := by decide +kernel
theorem dX10_init_75 : decode cX10_init 75 = .ok (.aload_n 0, 1) := by decide +kernel
theorem dX10_init_76 : decode cX10_init 76 = .ok (.bipush 6, 2) := by decide +kernel
theorem dX10_init_78 : decode cX10_init 78 = .ok (.newarray .int, 2) := by decide +kernel
theorem dX10_init_80 : decode cX10_init 80 = .ok (.putfield 52, 3) := by decide +kernel
theorem dX10_init_83 : decode cX10_init 83 = .ok (.return_, 1) := by decide +kernel
theorem dX10_game_0 : decode cX10_game 0 = .ok (.iload_n 1, 1) := by decide +kernel
theorem dX10_game_1 : decode cX10_game 1 = .ok (.bipush 6, 2) := by decide +kernel
theorem dX10_game_3 : decode cX10_game 3 = .ok (.invokestatic 55, 3) := by decide +kernel
theorem dX10_game_6 : decode cX10_game 6 = .ok (.ifCond .ne 8, 3) := by decide +kernel
theorem dX10_game_9 : decode cX10_game 9 = .ok (.aload_n 0, 1) := by decide +kernel
theorem dX10_game_10 : decode cX10_game 10 = .ok (.invokevirtual 59, 3) := by decide +kernel
theorem dX10_game_13 : decode cX10_game 13 = .ok (.ireturn, 1) := by decide +kernel
theorem dX10_game_14 : decode cX10_game 14 = .ok (.aload_n 0, 1) := by decide +kernel
theorem dX10_game_15 : decode cX10_game 15 = .ok (.getfield 10, 3) := by decide +kernel
theorem dX10_game_18 : decode cX10_game 18 = .ok (.getfield 63, 3) := by decide +kernel
theorem dX10_game_21 : decode cX10_game 21 = .ok (.getfield 67, 3) := by decide +kernel
theorem dX10_game_24 : decode cX10_game 24 = .ok (.istore_n 2, 1) := by decide +kernel
theorem dX10_game_25 : decode cX10_game 25 = .ok (.aload_n 0, 1) := by decide +kernel
theorem dX10_game_26 : decode cX10_game 26 = .ok (.getfield 10, 3) := by decide +kernel
theorem dX10_game_29 : decode cX10_game 29 = .ok (.iload_n 1, 1) := by decide +kernel
theorem dX10_game_30 : decode cX10_game 30 = .ok (.invokevirtual 73, 3) := by decide +kernel
theorem dX10_game_33 : decode cX10_game 33 = .ok (.iload_n 2, 1) := by decide +kernel
theorem dX10_game_34 : decode cX10_game 34 = .ok (.ireturn, 1) := by decide +kernel
theorem dX10_holder_0 : decode cX10_holder 0 = .ok (.iload_n 1, 1) := by decide +kernel
theorem dX10_holder_1 : decode cX10_holder 1 = .ok (.bipush 6, 2) := by decide +kernel
theorem dX10_holder_3 : decode cX10_holder 3 = .ok (.invokestatic 55, 3) := by decide +kernel
theorem dX10_holder_6 : decode cX10_holder 6 = .ok (.ifCond .ne 8, 3) := by decide +kernel
theorem dX10_holder_9 : decode cX10_holder 9 = .ok (.aload_n 0, 1) := by decide +kernel
theorem dX10_holder_10 : decode cX10_holder 10 = .ok (.invokevirtual 59, 3) := by decide +kernel
theorem dX10_holder_13 : decode cX10_holder 13 = .ok (.ireturn, 1) := by decide +kernel
theorem dX10_holder_14 : decode cX10_holder 14 = .ok (.aload_n 0, 1) := by decide +kernel
theorem dX10_holder_15 : decode cX10_holder 15 = .ok (.getfield 10, 3) := by decide +kernel
theorem dX10_holder_18 : decode cX10_holder 18 = .ok (.getfield 77, 3) := by decide +kernel
theorem dX10_holder_21 : decode cX10_holder 21 = .ok (.istore_n 2, 1) := by decide +kernel
theorem dX10_holder_22 : decode cX10_holder 22 = .ok (.aload_n 0, 1) := by decide +kernel
theorem dX10_holder_23 : decode cX10_holder 23 = .ok (.getfield 10, 3) := by decide +kernel
theorem dX10_holder_26 : decode cX10_holder 26 = .ok (.iload_n 1, 1) := by decide +kernel
theorem dX10_holder_27 : decode cX10_holder 27 = .ok (.putfield 77, 3) := by decide +kernel
theorem dX10_holder_30 : decode cX10_holder 30 = .ok (.aload_n 0, 1) := by decide +kernel
theorem dX10_holder_31 : decode cX10_holder 31 = .ok (.getfield 10, 3) := by decide +kernel
theorem dX10_holder_34 : decode cX10_holder 34 = .ok (.getfield 80, 3) := by decide +kernel
theorem dX10_holder_37 : decode cX10_holder 37 = .ok (.iconst 0, 1) := by decide +kernel
theorem dX10_holder_38 : decode cX10_holder 38 = .ok (.putfield 84, 3) := by decide +kernel
theorem dX10_holder_41 : decode cX10_holder 41 = .ok (.iload_n 2, 1) := by decide +kernel
theorem dX10_holder_42 : decode cX10_holder 42 = .ok (.ireturn, 1) := by decide +kernel
theorem dX10_word_0 : decode cX10_word 0 = .ok (.iload_n 1, 1) := by decide +kernel
theorem dX10_word_1 : decode cX10_word 1 = .ok (.sipush 10000, 3) := by decide +kernel
theorem dX10_word_4 : decode cX10_word 4 = .ok (.invokestatic 55, 3) := by decide +kernel
theorem dX10_word_7 : decode cX10_word 7 = .ok (.ifCond .ne 8, 3) := by decide +kernel
theorem dX10_word_10 : decode cX10_word 10 = .ok (.aload_n 0, 1) := by decide +kernel
theorem dX10_word_11 : decode cX10_word 11 = .ok (.invokevirtual 59, 3) := by decide +kernel
theorem dX10_word_14 : decode cX10_word 14 = .ok (.ireturn, 1) := by decide +kernel
theorem dX10_word_15 : decode cX10_word 15 = .ok (.aload_n 0, 1) := by decide +kernel
theorem dX10_word_16 : decode cX10_word 16 = .ok (.getfield 10, 3) := by decide +kernel
theorem dX10_word_19 : decode cX10_word 19 = .ok (.getfield 63, 3) := by decide +kernel
theorem dX10_word_22 : decode cX10_word 22 = .ok (.iload_n 1, 1) := by decide +kernel
theorem dX10_word_23 : decode cX10_word 23 = .ok (.invokevirtual 87, 3) := by decide +kernel
theorem dX10_word_26 : decode cX10_word 26 = .ok (.iconst (-1), 1) := by decide +kernel
theorem dX10_word_27 : decode cX10_word 27 = .ok (.if_icmp .eq 8, 3) := by decide +kernel
theorem dX10_word_30 : decode cX10_word 30 = .ok (.aload_n 0, 1) := by decide +kernel
theorem dX10_word_31 : decode cX10_word 31 = .ok (.invokevirtual 91, 3) := by decide +kernel
theorem dX10_word_34 : decode cX10_word 34 = .ok (.ireturn, 1) := by decide +kernel
theorem dX10_word_35 : decode cX10_word 35 = .ok (.aload_n 0, 1) := by decide +kernel
theorem dX10_word_36 : decode cX10_word 36 = .ok (.getfield 10, 3) := by decide +kernel
theorem dX10_word_39 : decode cX10_word 39 = .ok (.getfield 63, 3) := by decide +kernel
theorem dX10_word_42 : decode cX10_word 42 = .ok (.getfield 67, 3) := by decide +kernel
theorem dX10_word_45 : decode cX10_word 45 = .ok (.bipush 8, 2) := by decide +kernel
theorem dX10_word_47 : decode cX10_word 47 = .ok (.if_icmp .lt 8, 3) := by decide +kernel
theorem dX10_word_50 : decode cX10_word 50 = .ok (.aload_n 0, 1) := by decide +kernel
theorem dX10_word_51 : decode cX10_word 51 = .ok (.invokevirtual 94, 3) := by decide +kernel
theorem dX10_word_54 : decode cX10_word 54 = .ok (.ireturn, 1) := by decide +kernel
theorem dX10_word_55 : decode cX10_word 55 = .ok (.aload_n 0, 1) := by decide +kernel
theorem dX10_word_56 : decode cX10_word 56 = .ok (.getfield 10, 3) := by decide +kernel
theorem dX10_word_59 : decode cX10_word 59 = .ok (.iload_n 1, 1) := by decide +kernel
theorem dX10_word_60 : decode cX10_word 60 = .ok (.invokevirtual 97, 3) := by decide +kernel
theorem dX10_word_63 : decode cX10_word 63 = .ok (.aload_n 0, 1) := by decide +kernel
theorem dX10_word_64 : decode cX10_word 64 = .ok (.getfield 10, 3) := by decide +kernel
theorem dX10_word_67 : decode cX10_word 67 = .ok (.getfield 63, 3) := by decide +kernel
theorem dX10_word_70 : decode cX10_word 70 = .ok (.getfield 67, 3) := by decide +kernel
theorem dX10_word_73 : decode cX10_word 73 = .ok (.iconst 1, 1) := by decide +kernel
theorem dX10_word_74 : decode cX10_word 74 = .ok (.isub, 1) := by decide +kernel
theorem dX10_word_75 : decode cX10_word 75 = .ok (.ireturn, 1) := by decide +kernel
theorem dX10_type_0 : decode cX10_type 0 = .ok (.iload_n 1, 1) := by decide +kernel
theorem dX10_type_1 : decode cX10_type 1 = .ok (.sipush 128, 3) := by decide +kernel
theorem dX10_type_4 : decode cX10_type 4 = .ok (.invokestatic 55, 3) := by decide +kernel
theorem dX10_type_7 : decode cX10_type 7 = .ok (.ifCond .ne 8, 3) := by decide +kernel
theorem dX10_type_10 : decode cX10_type 10 = .ok (.aload_n 0, 1) := by decide +kernel
theorem dX10_type_11 : decode cX10_type 11 = .ok (.invokevirtual 59, 3) := by decide +kernel
theorem dX10_type_14 : decode cX10_type 14 = .ok (.ireturn, 1) := by decide +kernel
theorem dX10_type_15 : decode cX10_type 15 = .ok (.aload_n 0, 1) := by decide +kernel
theorem dX10_type_16 : decode cX10_type 16 = .ok (.getfield 23, 3) := by decide +kernel
theorem dX10_type_19 : decode cX10_type 19 = .ok (.getfield 100, 3) := by decide +kernel
theorem dX10_type_22 : decode cX10_type 22 = .ok (.getfield 104, 3) := by decide +kernel
theorem dX10_type_25 : decode cX10_type 25 = .ok (.sipush 150, 3) := by decide +kernel
theorem dX10_type_28 : decode cX10_type 28 = .ok (.if_icmp .lt 8, 3) := by decide +kernel
theorem dX10_type_31 : decode cX10_type 31 = .ok (.aload_n 0, 1) := by decide +kernel
theorem dX10_type_32 : decode cX10_type 32 = .ok (.invokevirtual 94, 3) := by decide +kernel
theorem dX10_type_35 : decode cX10_type 35 = .ok (.ireturn, 1) := by decide +kernel
theorem dX10_type_36 : decode cX10_type 36 = .ok (.aload_n 0, 1) := by decide +kernel
theorem dX10_type_37 : decode cX10_type 37 = .ok (.getfield 23, 3) := by decide +kernel
theorem dX10_type_40 : decode cX10_type 40 = .ok (.getfield 100, 3) := by decide +kernel
theorem dX10_type_43 : decode cX10_type 43 = .ok (.iload_n 1, 1) := by decide +kernel
theorem dX10_type_44 : decode cX10_type 44 = .ok (.invokevirtual 107, 3) := by decide +kernel
theorem dX10_type_47 : decode cX10_type 47 = .ok (.aload_n 0, 1) := by decide +kernel
theorem dX10_type_48 : decode cX10_type 48 = .ok (.getfield 23, 3) := by decide +kernel
theorem dX10_type_51 : decode cX10_type 51 = .ok (.getfield 100, 3) := by decide +kernel
theorem dX10_type_54 : decode cX10_type 54 = .ok (.getfield 104, 3) := by decide +kernel
theorem dX10_type_57 : decode cX10_type 57 = .ok (.ireturn, 1) := by decide +kernel
theorem dX10_clear_0 : decode cX10_clear 0 = .ok (.aload_n 0, 1) := by decide +kernel
theorem dX10_clear_1 : decode cX10_clear 1 = .ok (.getfield 23, 3) := by decide +kernel
theorem dX10_clear_4 : decode cX10_clear 4 = .ok (.getfield 100, 3) := by decide +kernel
theorem dX10_clear_7 : decode cX10_clear 7 = .ok (.getfield 104, 3) := by decide +kernel
theorem dX10_clear_10 : decode cX10_clear 10 = .ok (.istore_n 1, 1) := by decide +kernel
theorem dX10_clear_11 : decode cX10_clear 11 = .ok (.aload_n 0, 1) := by decide +kernel
theorem dX10_clear_12 : decode cX10_clear 12 = .ok (.getfield 23, 3) := by decide +kernel
theorem dX10_clear_15 : decode cX10_clear 15 = .ok (.getfield 100, 3) := by decide +kernel
theorem dX10_clear_18 : decode cX10_clear 18 = .ok (.iconst 0, 1) := by decide +kernel
theorem dX10_clear_19 : decode cX10_clear 19 = .ok (.putfield 104, 3) := by decide +kernel
theorem dX10_clear_22 : decode cX10_clear 22 = .ok (.iload_n 1, 1) := by decide +kernel
theorem dX10_clear_23 : decode cX10_clear 23 = .ok (.ireturn, 1) := by decide +kernel
theorem dX10_read_0 : decode cX10_read 0 = .ok (.aload_n 0, 1) := by decide +kernel
theorem dX10_read_1 : decode cX10_read 1 = .ok (.getfield 23, 3) := by decide +kernel
theorem dX10_read_4 : decode cX10_read 4 = .ok (.invokevirtual 110, 3) := by decide +kernel
theorem dX10_read_7 : decode cX10_read 7 = .ok (.istore_n 1, 1) := by decide +kernel
theorem dX10_read_8 : decode cX10_read 8 = .ok (.iload_n 1, 1) := by decide +kernel
theorem dX10_read_9 : decode cX10_read 9 = .ok (.ifCond .ne 17, 3) := by decide +kernel
theorem dX10_read_12 : decode cX10_read 12 = .ok (.bipush (-10), 2) := by decide +kernel
theorem dX10_read_14 : decode cX10_read 14 = .ok (.aload_n 0, 1) := by decide +kernel
theorem dX10_read_15 : decode cX10_read 15 = .ok (.getfield 23, 3) := by decide +kernel
theorem dX10_read_18 : decode cX10_read 18 = .ok (.getfield 100, 3) := by decide +kernel
theorem dX10_read_21 : decode cX10_read 21 = .ok (.getfield 113, 3) := by decide +kernel
theorem dX10_read_24 : decode cX10_read 24 = .ok (.isub, 1) := by decide +kernel
theorem dX10_read_25 : decode cX10_read 25 = .ok (.ireturn, 1) := by decide +kernel
theorem dX10_read_26 : decode cX10_read 26 = .ok (.aload_n 0, 1) := by decide +kernel
theorem dX10_read_27 : decode cX10_read 27 = .ok (.getfield 10, 3) := by decide +kernel
theorem dX10_read_30 : decode cX10_read 30 = .ok (.aload_n 0, 1) := by decide +kernel
theorem dX10_read_31 : decode cX10_read 31 = .ok (.getfield 23, 3) := by decide +kernel
theorem dX10_read_34 : decode cX10_read 34 = .ok (.getfield 116, 3) := by decide +kernel
theorem dX10_read_37 : decode cX10_read 37 = .ok (.invokevirtual 119, 3) := by decide +kernel
theorem dX10_read_40 : decode cX10_read 40 = .ok (.iload_n 1, 1) := by decide +kernel
theorem dX10_read_41 : decode cX10_read 41 = .ok (.ireturn, 1) := by decide +kernel
theorem dX10_guess_0 : decode cX10_guess 0 = .ok (.iload_n 1, 1) := by decide +kernel
theorem dX10_guess_1 : decode cX10_guess 1 = .ok (.bipush 10, 2) := by decide +kernel
theorem dX10_guess_3 : decode cX10_guess 3 = .ok (.invokestatic 55, 3) := by decide +kernel
theorem dX10_guess_6 : decode cX10_guess 6 = .ok (.ifCond .ne 8, 3) := by decide +kernel
theorem dX10_guess_9 : decode cX10_guess 9 = .ok (.aload_n 0, 1) := by decide +kernel
theorem dX10_guess_10 : decode cX10_guess 10 = .ok (.invokevirtual 59, 3) := by decide +kernel
theorem dX10_guess_13 : decode cX10_guess 13 = .ok (.ireturn, 1) := by decide +kernel
theorem dX10_guess_14 : decode cX10_guess 14 = .ok (.aload_n 0, 1) := by decide +kernel
theorem dX10_guess_15 : decode cX10_guess 15 = .ok (.getfield 10, 3) := by decide +kernel
theorem dX10_guess_18 : decode cX10_guess 18 = .ok (.getfield 123, 3) := by decide +kernel
theorem dX10_guess_21 : decode cX10_guess 21 = .ok (.iload_n 1, 1) := by decide +kernel
theorem dX10_guess_22 : decode cX10_guess 22 = .ok (.invokevirtual 126, 3) := by decide +kernel
theorem dX10_guess_25 : decode cX10_guess 25 = .ok (.ifCond .ne 8, 3) := by decide +kernel
theorem dX10_guess_28 : decode cX10_guess 28 = .ok (.aload_n 0, 1) := by decide +kernel
theorem dX10_guess_29 : decode cX10_guess 29 = .ok (.invokevirtual 91, 3) := by decide +kernel
theorem dX10_guess_32 : decode cX10_guess 32 = .ok (.ireturn, 1) := by decide +kernel
theorem dX10_guess_33 : decode cX10_guess 33 = .ok (.aload_n 0, 1) := by decide +kernel
theorem dX10_guess_34 : decode cX10_guess 34 = .ok (.getfield 10, 3) := by decide +kernel
theorem dX10_guess_37 : decode cX10_guess 37 = .ok (.invokevirtual 130, 3) := by decide +kernel
theorem dX10_guess_40 : decode cX10_guess 40 = .ok (.aload_n 0, 1) := by decide +kernel
theorem dX10_guess_41 : decode cX10_guess 41 = .ok (.getfield 10, 3) := by decide +kernel
theorem dX10_guess_44 : decode cX10_guess 44 = .ok (.iload_n 1, 1) := by decide +kernel
theorem dX10_guess_45 : decode cX10_guess 45 = .ok (.invokevirtual 133, 3) := by decide +kernel
theorem dX10_guess_48 : decode cX10_guess 48 = .ok (.ireturn, 1) := by decide +kernel
theorem dX10_secret_0 : decode cX10_secret 0 = .ok (.iload_n 1, 1) := by decide +kernel
theorem dX10_secret_1 : decode cX10_secret 1 = .ok (.aload_n 0, 1) := by decide +kernel
theorem dX10_secret_2 : decode cX10_secret 2 = .ok (.getfield 10, 3) := by decide +kernel
theorem dX10_secret_5 : decode cX10_secret 5 = .ok (.getfield 63, 3) := by decide +kernel
theorem dX10_secret_8 : decode cX10_secret 8 = .ok (.getfield 67, 3) := by decide +kernel
theorem dX10_secret_11 : decode cX10_secret 11 = .ok (.invokestatic 55, 3) := by decide +kernel
theorem dX10_secret_14 : decode cX10_secret 14 = .ok (.ifCond .ne 8, 3) := by decide +kernel
theorem dX10_secret_17 : decode cX10_secret 17 = .ok (.aload_n 0, 1) := by decide +kernel
theorem dX10_secret_18 : decode cX10_secret 18 = .ok (.invokevirtual 59, 3) := by decide +kernel
theorem dX10_secret_21 : decode cX10_secret 21 = .ok (.ireturn, 1) := by decide +kernel
theorem dX10_secret_22 : decode cX10_secret 22 = .ok (.iload_n 1, 1) := by decide +kernel
theorem dX10_secret_23 : decode cX10_secret 23 = .ok (.aload_n 0, 1) := by decide +kernel
theorem dX10_secret_24 : decode cX10_secret 24 = .ok (.getfield 10, 3) := by decide +kernel
theorem dX10_secret_27 : decode cX10_secret 27 = .ok (.getfield 136, 3) := by decide +kernel
theorem dX10_secret_30 : decode cX10_secret 30 = .ok (.if_icmp .ne 8, 3) := by decide +kernel
theorem dX10_secret_33 : decode cX10_secret 33 = .ok (.aload_n 0, 1) := by decide +kernel
theorem dX10_secret_34 : decode cX10_secret 34 = .ok (.invokevirtual 91, 3) := by decide +kernel
theorem dX10_secret_37 : decode cX10_secret 37 = .ok (.ireturn, 1) := by decide +kernel
theorem dX10_secret_38 : decode cX10_secret 38 = .ok (.aload_n 0, 1) := by decide +kernel
theorem dX10_secret_39 : decode cX10_secret 39 = .ok (.getfield 10, 3) := by decide +kernel
theorem dX10_secret_42 : decode cX10_secret 42 = .ok (.getfield 136, 3) := by decide +kernel
theorem dX10_secret_45 : decode cX10_secret 45 = .ok (.istore_n 2, 1) := by decide +kernel
theorem dX10_secret_46 : decode cX10_secret 46 = .ok (.aload_n 0, 1) := by decide +kernel
theorem dX10_secret_47 : decode cX10_secret 47 = .ok (.getfield 10, 3) := by decide +kernel
theorem dX10_secret_50 : decode cX10_secret 50 = .ok (.invokevirtual 130, 3) := by decide +kernel
theorem dX10_secret_53 : decode cX10_secret 53 = .ok (.aload_n 0, 1) := by decide +kernel
theorem dX10_secret_54 : decode cX10_secret 54 = .ok (.getfield 10, 3) := by decide +kernel
theorem dX10_secret_57 : decode cX10_secret 57 = .ok (.iload_n 1, 1) := by decide +kernel
theorem dX10_secret_58 : decode cX10_secret 58 = .ok (.putfield 136, 3) := by decide +kernel
theorem dX10_secret_61 : decode cX10_secret 61 = .ok (.iload_n 2, 1) := by decide +kernel
theorem dX10_secret_62 : decode cX10_secret 62 = .ok (.ireturn, 1) := by decide +kernel
theorem dX10_anew_0 : decode cX10_anew 0 = .ok (.aload_n 0, 1) := by decide +kernel
theorem dX10_anew_1 : decode cX10_anew 1 = .ok (.getfield 10, 3) := by decide +kernel
theorem dX10_anew_4 : decode cX10_anew 4 = .ok (.getfield 123, 3) := by decide +kernel
theorem dX10_anew_7 : decode cX10_anew 7 = .ok (.getfield 139, 3) := by decide +kernel
theorem dX10_anew_10 : decode cX10_anew 10 = .ok (.istore_n 1, 1) := by decide +kernel
theorem dX10_anew_11 : decode cX10_anew 11 = .ok (.aload_n 0, 1) := by decide +kernel
theorem dX10_anew_12 : decode cX10_anew 12 = .ok (.getfield 10, 3) := by decide +kernel
theorem dX10_anew_15 : decode cX10_anew 15 = .ok (.invokevirtual 130, 3) := by decide +kernel
theorem dX10_anew_18 : decode cX10_anew 18 = .ok (.aload_n 0, 1) := by decide +kernel
theorem dX10_anew_19 : decode cX10_anew 19 = .ok (.getfield 10, 3) := by decide +kernel
theorem dX10_anew_22 : decode cX10_anew 22 = .ok (.getfield 123, 3) := by decide +kernel
theorem dX10_anew_25 : decode cX10_anew 25 = .ok (.aload_n 0, 1) := by decide +kernel
theorem dX10_anew_26 : decode cX10_anew 26 = .ok (.getfield 10, 3) := by decide +kernel
theorem dX10_anew_29 : decode cX10_anew 29 = .ok (.getfield 63, 3) := by decide +kernel
theorem dX10_anew_32 : decode cX10_anew 32 = .ok (.invokevirtual 142, 3) := by decide +kernel
theorem dX10_anew_35 : decode cX10_anew 35 = .ok (.invokevirtual 145, 3) := by decide +kernel
theorem dX10_anew_38 : decode cX10_anew 38 = .ok (.iload_n 1, 1) := by decide +kernel
theorem dX10_anew_39 : decode cX10_anew 39 = .ok (.ireturn, 1) := by decide +kernel
theorem dX10_undo_0 : decode cX10_undo 0 = .ok (.aload_n 0, 1) := by decide +kernel
theorem dX10_undo_1 : decode cX10_undo 1 = .ok (.getfield 10, 3) := by decide +kernel
theorem dX10_undo_4 : decode cX10_undo 4 = .ok (.getfield 80, 3) := by decide +kernel
theorem dX10_undo_7 : decode cX10_undo 7 = .ok (.getfield 84, 3) := by decide +kernel
theorem dX10_undo_10 : decode cX10_undo 10 = .ok (.ifCond .ne 8, 3) := by decide +kernel
theorem dX10_undo_13 : decode cX10_undo 13 = .ok (.aload_n 0, 1) := by decide +kernel
theorem dX10_undo_14 : decode cX10_undo 14 = .ok (.invokevirtual 91, 3) := by decide +kernel
theorem dX10_undo_17 : decode cX10_undo 17 = .ok (.ireturn, 1) := by decide +kernel
theorem dX10_undo_18 : decode cX10_undo 18 = .ok (.aload_n 0, 1) := by decide +kernel
theorem dX10_undo_19 : decode cX10_undo 19 = .ok (.getfield 10, 3) := by decide +kernel
theorem dX10_undo_22 : decode cX10_undo 22 = .ok (.invokevirtual 148, 3) := by decide +kernel
theorem dX10_undo_25 : decode cX10_undo 25 = .ok (.aload_n 0, 1) := by decide +kernel
theorem dX10_undo_26 : decode cX10_undo 26 = .ok (.getfield 10, 3) := by decide +kernel
theorem dX10_undo_29 : decode cX10_undo 29 = .ok (.getfield 123, 3) := by decide +kernel
theorem dX10_undo_32 : decode cX10_undo 32 = .ok (.getfield 139, 3) := by decide +kernel
theorem dX10_undo_35 : decode cX10_undo 35 = .ok (.ireturn, 1) := by decide +kernel
theorem dX10_of_0 : decode cX10_of 0 = .ok (.iload_n 1, 1) := by decide +kernel
theorem dX10_of_1 : decode cX10_of 1 = .ok (.aload_n 0, 1) := by decide +kernel
theorem dX10_of_2 : decode cX10_of 2 = .ok (.getfield 10, 3) := by decide +kernel
theorem dX10_of_5 : decode cX10_of 5 = .ok (.getfield 63, 3) := by decide +kernel
theorem dX10_of_8 : decode cX10_of 8 = .ok (.getfield 67, 3) := by decide +kernel
theorem dX10_of_11 : decode cX10_of 11 = .ok (.invokestatic 55, 3) := by decide +kernel
theorem dX10_of_14 : decode cX10_of 14 = .ok (.ifCond .eq 11, 3) := by decide +kernel
theorem dX10_of_17 : decode cX10_of 17 = .ok (.iload_n 2, 1) := by decide +kernel
theorem dX10_of_18 : decode cX10_of 18 = .ok (.iconst 2, 1) := by decide +kernel
theorem dX10_of_19 : decode cX10_of 19 = .ok (.invokestatic 55, 3) := by decide +kernel
theorem dX10_of_22 : decode cX10_of 22 = .ok (.ifCond .ne 8, 3) := by decide +kernel
theorem dX10_of_25 : decode cX10_of 25 = .ok (.aload_n 0, 1) := by decide +kernel
theorem dX10_of_26 : decode cX10_of 26 = .ok (.invokevirtual 59, 3) := by decide +kernel
theorem dX10_of_29 : decode cX10_of 29 = .ok (.ireturn, 1) := by decide +kernel
theorem dX10_of_30 : decode cX10_of 30 = .ok (.iload_n 2, 1) := by decide +kernel
theorem dX10_of_31 : decode cX10_of 31 = .ok (.ifCond .ne 17, 3) := by decide +kernel
theorem dX10_of_34 : decode cX10_of 34 = .ok (.aload_n 0, 1) := by decide +kernel
theorem dX10_of_35 : decode cX10_of 35 = .ok (.getfield 10, 3) := by decide +kernel
theorem dX10_of_38 : decode cX10_of 38 = .ok (.getfield 63, 3) := by decide +kernel
theorem dX10_of_41 : decode cX10_of 41 = .ok (.iload_n 1, 1) := by decide +kernel
theorem dX10_of_42 : decode cX10_of 42 = .ok (.invokevirtual 151, 3) := by decide +kernel
theorem dX10_of_45 : decode cX10_of 45 = .ok (.goto 17, 3) := by decide +kernel
theorem dX10_of_48 : decode cX10_of 48 = .ok (.aload_n 0, 1) := by decide +kernel
theorem dX10_of_49 : decode cX10_of 49 = .ok (.getfield 10, 3) := by decide +kernel
theorem dX10_of_52 : decode cX10_of 52 = .ok (.getfield 123, 3) := by decide +kernel
theorem dX10_of_55 : decode cX10_of 55 = .ok (.getfield 154, 3) := by decide +kernel
theorem dX10_of_58 : decode cX10_of 58 = .ok (.iload_n 1, 1) := by decide +kernel
theorem dX10_of_59 : decode cX10_of 59 = .ok (.ishr, 1) := by decide +kernel
theorem dX10_of_60 : decode cX10_of 60 = .ok (.iconst 1, 1) := by decide +kernel
theorem dX10_of_61 : decode cX10_of 61 = .ok (.iand, 1) := by decide +kernel
theorem dX10_of_62 : decode cX10_of 62 = .ok (.ireturn, 1) := by decide +kernel
theorem dX10_mask_0 : decode cX10_mask 0 = .ok (.iload_n 1, 1) := by decide +kernel
theorem dX10_mask_1 : decode cX10_mask 1 = .ok (.aload_n 0, 1) := by decide +kernel
theorem dX10_mask_2 : decode cX10_mask 2 = .ok (.getfield 10, 3) := by decide +kernel
theorem dX10_mask_5 : decode cX10_mask 5 = .ok (.getfield 63, 3) := by decide +kernel
theorem dX10_mask_8 : decode cX10_mask 8 = .ok (.getfield 67, 3) := by decide +kernel
theorem dX10_mask_11 : decode cX10_mask 11 = .ok (.invokestatic 55, 3) := by decide +kernel
theorem dX10_mask_14 : decode cX10_mask 14 = .ok (.ifCond .eq 12, 3) := by decide +kernel
theorem dX10_mask_17 : decode cX10_mask 17 = .ok (.iload_n 2, 1) := by decide +kernel
theorem dX10_mask_18 : decode cX10_mask 18 = .ok (.bipush 10, 2) := by decide +kernel
theorem dX10_mask_20 : decode cX10_mask 20 = .ok (.invokestatic 55, 3) := by decide +kernel
theorem dX10_mask_23 : decode cX10_mask 23 = .ok (.ifCond .ne 8, 3) := by decide +kernel
theorem dX10_mask_26 : decode cX10_mask 26 = .ok (.aload_n 0, 1) := by decide +kernel
theorem dX10_mask_27 : decode cX10_mask 27 = .ok (.invokevirtual 59, 3) := by decide +kernel
theorem dX10_mask_30 : decode cX10_mask 30 = .ok (.ireturn, 1) := by decide +kernel
theorem dX10_mask_31 : decode cX10_mask 31 = .ok (.aload_n 0, 1) := by decide +kernel
theorem dX10_mask_32 : decode cX10_mask 32 = .ok (.getfield 10, 3) := by decide +kernel
theorem dX10_mask_35 : decode cX10_mask 35 = .ok (.getfield 63, 3) := by decide +kernel
theorem dX10_mask_38 : decode cX10_mask 38 = .ok (.iload_n 1, 1) := by decide +kernel
theorem dX10_mask_39 : decode cX10_mask 39 = .ok (.iload_n 2, 1) := by decide +kernel
theorem dX10_mask_40 : decode cX10_mask 40 = .ok (.invokevirtual 157, 3) := by decide +kernel
theorem dX10_mask_43 : decode cX10_mask 43 = .ok (.ireturn, 1) := by decide +kernel
theorem dX10_answer_0 : decode cX10_answer 0 = .ok (.iload_n 1, 1) := by decide +kernel
theorem dX10_answer_1 : decode cX10_answer 1 = .ok (.bipush 10, 2) := by decide +kernel
theorem dX10_answer_3 : decode cX10_answer 3 = .ok (.invokestatic 55, 3) := by decide +kernel
theorem dX10_answer_6 : decode cX10_answer 6 = .ok (.ifCond .ne 8, 3) := by decide +kernel
theorem dX10_answer_9 : decode cX10_answer 9 = .ok (.aload_n 0, 1) := by decide +kernel
theorem dX10_answer_10 : decode cX10_answer 10 = .ok (.invokevirtual 59, 3) := by decide +kernel
theorem dX10_answer_13 : decode cX10_answer 13 = .ok (.ireturn, 1) := by decide +kernel
theorem dX10_answer_14 : decode cX10_answer 14 = .ok (.aload_n 0, 1) := by decide +kernel
theorem dX10_answer_15 : decode cX10_answer 15 = .ok (.getfield 10, 3) := by decide +kernel
theorem dX10_answer_18 : decode cX10_answer 18 = .ok (.getfield 123, 3) := by decide +kernel
theorem dX10_answer_21 : decode cX10_answer 21 = .ok (.iload_n 1, 1) := by decide +kernel
theorem dX10_answer_22 : decode cX10_answer 22 = .ok (.invokevirtual 126, 3) := by decide +kernel
theorem dX10_answer_25 : decode cX10_answer 25 = .ok (.ifCond .ne 8, 3) := by decide +kernel
theorem dX10_answer_28 : decode cX10_answer 28 = .ok (.aload_n 0, 1) := by decide +kernel
theorem dX10_answer_29 : decode cX10_answer 29 = .ok (.invokevirtual 91, 3) := by decide +kernel
theorem dX10_answer_32 : decode cX10_answer 32 = .ok (.ireturn, 1) := by decide +kernel
theorem dX10_answer_33 : decode cX10_answer 33 = .ok (.aload_n 0, 1) := by decide +kernel
theorem dX10_answer_34 : decode cX10_answer 34 = .ok (.aload_n 0, 1) := by decide +kernel
theorem dX10_answer_35 : decode cX10_answer 35 = .ok (.getfield 10, 3) := by decide +kernel
theorem dX10_answer_38 : decode cX10_answer 38 = .ok (.getfield 77, 3) := by decide +kernel
theorem dX10_answer_41 : decode cX10_answer 41 = .ok (.iload_n 1, 1) := by decide +kernel
theorem dX10_answer_42 : decode cX10_answer 42 = .ok (.invokevirtual 161, 3) := by decide +kernel
theorem dX10_answer_45 : decode cX10_answer 45 = .ok (.ireturn, 1) := by decide +kernel
theorem dX10_parts_0 : decode cX10_parts 0 = .ok (.iload_n 1, 1) := by decide +kernel
theorem dX10_parts_1 : decode cX10_parts 1 = .ok (.bipush 10, 2) := by decide +kernel
theorem dX10_parts_3 : decode cX10_parts 3 = .ok (.invokestatic 55, 3) := by decide +kernel
theorem dX10_parts_6 : decode cX10_parts 6 = .ok (.ifCond .eq 11, 3) := by decide +kernel
theorem dX10_parts_9 : decode cX10_parts 9 = .ok (.iload_n 2, 1) := by decide +kernel
theorem dX10_parts_10 : decode cX10_parts 10 = .ok (.iconst 2, 1) := by decide +kernel
theorem dX10_parts_11 : decode cX10_parts 11 = .ok (.invokestatic 55, 3) := by decide +kernel
theorem dX10_parts_14 : decode cX10_parts 14 = .ok (.ifCond .ne 8, 3) := by decide +kernel
theorem dX10_parts_17 : decode cX10_parts 17 = .ok (.aload_n 0, 1) := by decide +kernel
theorem dX10_parts_18 : decode cX10_parts 18 = .ok (.invokevirtual 59, 3) := by decide +kernel
theorem dX10_parts_21 : decode cX10_parts 21 = .ok (.ireturn, 1) := by decide +kernel
theorem dX10_parts_22 : decode cX10_parts 22 = .ok (.aload_n 0, 1) := by decide +kernel
theorem dX10_parts_23 : decode cX10_parts 23 = .ok (.getfield 10, 3) := by decide +kernel
theorem dX10_parts_26 : decode cX10_parts 26 = .ok (.getfield 123, 3) := by decide +kernel
theorem dX10_parts_29 : decode cX10_parts 29 = .ok (.getfield 154, 3) := by decide +kernel
theorem dX10_parts_32 : decode cX10_parts 32 = .ok (.istore_n 3, 1) := by decide +kernel
theorem dX10_parts_33 : decode cX10_parts 33 = .ok (.iload_n 2, 1) := by decide +kernel
theorem dX10_parts_34 : decode cX10_parts 34 = .ok (.ifCond .ne 18, 3) := by decide +kernel
theorem dX10_parts_37 : decode cX10_parts 37 = .ok (.aload_n 0, 1) := by decide +kernel
theorem dX10_parts_38 : decode cX10_parts 38 = .ok (.getfield 10, 3) := by decide +kernel
theorem dX10_parts_41 : decode cX10_parts 41 = .ok (.getfield 63, 3) := by decide +kernel
theorem dX10_parts_44 : decode cX10_parts 44 = .ok (.iload_n 3, 1) := by decide +kernel
theorem dX10_parts_45 : decode cX10_parts 45 = .ok (.iload_n 1, 1) := by decide +kernel
theorem dX10_parts_46 : decode cX10_parts 46 = .ok (.invokevirtual 164, 3) := by decide +kernel
theorem dX10_parts_49 : decode cX10_parts 49 = .ok (.goto 15, 3) := by decide +kernel
theorem dX10_parts_52 : decode cX10_parts 52 = .ok (.aload_n 0, 1) := by decide +kernel
theorem dX10_parts_53 : decode cX10_parts 53 = .ok (.getfield 10, 3) := by decide +kernel
theorem dX10_parts_56 : decode cX10_parts 56 = .ok (.getfield 63, 3) := by decide +kernel
theorem dX10_parts_59 : decode cX10_parts 59 = .ok (.iload_n 3, 1) := by decide +kernel
theorem dX10_parts_60 : decode cX10_parts 60 = .ok (.iload_n 1, 1) := by decide +kernel
theorem dX10_parts_61 : decode cX10_parts 61 = .ok (.invokevirtual 167, 3) := by decide +kernel
theorem dX10_parts_64 : decode cX10_parts 64 = .ok (.ireturn, 1) := by decide +kernel
theorem dX10_best_0 : decode cX10_best 0 = .ok (.iconst (-1), 1) := by decide +kernel
theorem dX10_best_1 : decode cX10_best 1 = .ok (.istore_n 1, 1) := by decide +kernel
theorem dX10_best_2 : decode cX10_best 2 = .ok (.bipush 9, 2) := by decide +kernel
theorem dX10_best_4 : decode cX10_best 4 = .ok (.istore_n 2, 1) := by decide +kernel
theorem dX10_best_5 : decode cX10_best 5 = .ok (.iconst 0, 1) := by decide +kernel
theorem dX10_best_6 : decode cX10_best 6 = .ok (.istore_n 3, 1) := by decide +kernel
theorem dX10_best_7 : decode cX10_best 7 = .ok (.iload_n 3, 1) := by decide +kernel
theorem dX10_best_8 : decode cX10_best 8 = .ok (.bipush 10, 2) := by decide +kernel
theorem dX10_best_10 : decode cX10_best 10 = .ok (.if_icmp .ge 60, 3) := by decide +kernel
theorem dX10_best_13 : decode cX10_best 13 = .ok (.aload_n 0, 1) := by decide +kernel
theorem dX10_best_14 : decode cX10_best 14 = .ok (.getfield 10, 3) := by decide +kernel
theorem dX10_best_17 : decode cX10_best 17 = .ok (.getfield 63, 3) := by decide +kernel
theorem dX10_best_20 : decode cX10_best 20 = .ok (.aload_n 0, 1) := by decide +kernel
theorem dX10_best_21 : decode cX10_best 21 = .ok (.getfield 10, 3) := by decide +kernel
theorem dX10_best_24 : decode cX10_best 24 = .ok (.getfield 123, 3) := by decide +kernel
theorem dX10_best_27 : decode cX10_best 27 = .ok (.getfield 154, 3) := by decide +kernel
theorem dX10_best_30 : decode cX10_best 30 = .ok (.iload_n 3, 1) := by decide +kernel
theorem dX10_best_31 : decode cX10_best 31 = .ok (.invokevirtual 167, 3) := by decide +kernel
theorem dX10_best_34 : decode cX10_best 34 = .ok (.istore 4, 2) := by decide +kernel
theorem dX10_best_36 : decode cX10_best 36 = .ok (.aload_n 0, 1) := by decide +kernel
theorem dX10_best_37 : decode cX10_best 37 = .ok (.getfield 10, 3) := by decide +kernel
theorem dX10_best_40 : decode cX10_best 40 = .ok (.getfield 123, 3) := by decide +kernel
theorem dX10_best_43 : decode cX10_best 43 = .ok (.getfield 170, 3) := by decide +kernel
theorem dX10_best_46 : decode cX10_best 46 = .ok (.iload_n 3, 1) := by decide +kernel
theorem dX10_best_47 : decode cX10_best 47 = .ok (.ishr, 1) := by decide +kernel
theorem dX10_best_48 : decode cX10_best 48 = .ok (.iconst 1, 1) := by decide +kernel
theorem dX10_best_49 : decode cX10_best 49 = .ok (.iand, 1) := by decide +kernel
theorem dX10_best_50 : decode cX10_best 50 = .ok (.ifCond .ne 14, 3) := by decide +kernel
theorem dX10_best_53 : decode cX10_best 53 = .ok (.iload 4, 2) := by decide +kernel
theorem dX10_best_55 : decode cX10_best 55 = .ok (.iload_n 2, 1) := by decide +kernel
theorem dX10_best_56 : decode cX10_best 56 = .ok (.if_icmp .ge 8, 3) := by decide +kernel
theorem dX10_best_59 : decode cX10_best 59 = .ok (.iload_n 3, 1) := by decide +kernel
theorem dX10_best_60 : decode cX10_best 60 = .ok (.istore_n 1, 1) := by decide +kernel
theorem dX10_best_61 : decode cX10_best 61 = .ok (.iload 4, 2) := by decide +kernel
theorem dX10_best_63 : decode cX10_best 63 = .ok (.istore_n 2, 1) := by decide +kernel
theorem dX10_best_64 : decode cX10_best 64 = .ok (.iinc 3 1, 3) := by decide +kernel
theorem dX10_best_67 : decode cX10_best 67 = .ok (.goto (-60), 3) := by decide +kernel
theorem dX10_best_70 : decode cX10_best 70 = .ok (.iload_n 1, 1) := by decide +kernel
theorem dX10_best_71 : decode cX10_best 71 = .ok (.ireturn, 1) := by decide +kernel
theorem dX10_surely_0 : decode cX10_surely 0 = .ok (.iload_n 1, 1) := by decide +kernel
theorem dX10_surely_1 : decode cX10_surely 1 = .ok (.iconst 2, 1) := by decide +kernel
theorem dX10_surely_2 : decode cX10_surely 2 = .ok (.invokestatic 55, 3) := by decide +kernel
theorem dX10_surely_5 : decode cX10_surely 5 = .ok (.ifCond .ne 8, 3) := by decide +kernel
theorem dX10_surely_8 : decode cX10_surely 8 = .ok (.aload_n 0, 1) := by decide +kernel
theorem dX10_surely_9 : decode cX10_surely 9 = .ok (.invokevirtual 59, 3) := by decide +kernel
theorem dX10_surely_12 : decode cX10_surely 12 = .ok (.ireturn, 1) := by decide +kernel
theorem dX10_surely_13 : decode cX10_surely 13 = .ok (.aload_n 0, 1) := by decide +kernel
theorem dX10_surely_14 : decode cX10_surely 14 = .ok (.getfield 10, 3) := by decide +kernel
theorem dX10_surely_17 : decode cX10_surely 17 = .ok (.getfield 123, 3) := by decide +kernel
theorem dX10_surely_20 : decode cX10_surely 20 = .ok (.getfield 154, 3) := by decide +kernel
theorem dX10_surely_23 : decode cX10_surely 23 = .ok (.istore_n 2, 1) := by decide +kernel
theorem dX10_surely_24 : decode cX10_surely 24 = .ok (.aload_n 0, 1) := by decide +kernel
theorem dX10_surely_25 : decode cX10_surely 25 = .ok (.getfield 37, 3) := by decide +kernel
theorem dX10_surely_28 : decode cX10_surely 28 = .ok (.aload_n 0, 1) := by decide +kernel
theorem dX10_surely_29 : decode cX10_surely 29 = .ok (.getfield 10, 3) := by decide +kernel
theorem dX10_surely_32 : decode cX10_surely 32 = .ok (.getfield 63, 3) := by decide +kernel
theorem dX10_surely_35 : decode cX10_surely 35 = .ok (.iload_n 2, 1) := by decide +kernel
theorem dX10_surely_36 : decode cX10_surely 36 = .ok (.invokevirtual 173, 3) := by decide +kernel
theorem dX10_surely_39 : decode cX10_surely 39 = .ok (.iload_n 1, 1) := by decide +kernel
theorem dX10_surely_40 : decode cX10_surely 40 = .ok (.ifCond .ne 14, 3) := by decide +kernel
theorem dX10_surely_43 : decode cX10_surely 43 = .ok (.aload_n 0, 1) := by decide +kernel
theorem dX10_surely_44 : decode cX10_surely 44 = .ok (.getfield 37, 3) := by decide +kernel
theorem dX10_surely_47 : decode cX10_surely 47 = .ok (.iload_n 2, 1) := by decide +kernel
theorem dX10_surely_48 : decode cX10_surely 48 = .ok (.invokevirtual 177, 3) := by decide +kernel
theorem dX10_surely_51 : decode cX10_surely 51 = .ok (.goto 18, 3) := by decide +kernel
theorem dX10_surely_54 : decode cX10_surely 54 = .ok (.aload_n 0, 1) := by decide +kernel
theorem dX10_surely_55 : decode cX10_surely 55 = .ok (.getfield 37, 3) := by decide +kernel
theorem dX10_surely_58 : decode cX10_surely 58 = .ok (.aload_n 0, 1) := by decide +kernel
theorem dX10_surely_59 : decode cX10_surely 59 = .ok (.getfield 10, 3) := by decide +kernel
theorem dX10_surely_62 : decode cX10_surely 62 = .ok (.getfield 63, 3) := by decide +kernel
theorem dX10_surely_65 : decode cX10_surely 65 = .ok (.iload_n 2, 1) := by decide +kernel
theorem dX10_surely_66 : decode cX10_surely 66 = .ok (.invokevirtual 180, 3) := by decide +kernel
theorem dX10_surely_69 : decode cX10_surely 69 = .ok (.ireturn, 1) := by decide +kernel
theorem dX10_next_0 : decode cX10_next 0 = .ok (.iload_n 1, 1) := by decide +kernel
theorem dX10_next_1 : decode cX10_next 1 = .ok (.bipush 6, 2) := by decide +kernel
theorem dX10_next_3 : decode cX10_next 3 = .ok (.invokestatic 55, 3) := by decide +kernel
theorem dX10_next_6 : decode cX10_next 6 = .ok (.ifCond .ne 8, 3) := by decide +kernel
theorem dX10_next_9 : decode cX10_next 9 = .ok (.aload_n 0, 1) := by decide +kernel
theorem dX10_next_10 : decode cX10_next 10 = .ok (.invokevirtual 59, 3) := by decide +kernel
theorem dX10_next_13 : decode cX10_next 13 = .ok (.ireturn, 1) := by decide +kernel
theorem dX10_next_14 : decode cX10_next 14 = .ok (.iload_n 1, 1) := by decide +kernel
theorem dX10_next_15 : decode cX10_next 15 = .ok (.aload_n 0, 1) := by decide +kernel
theorem dX10_next_16 : decode cX10_next 16 = .ok (.getfield 10, 3) := by decide +kernel
theorem dX10_next_19 : decode cX10_next 19 = .ok (.getfield 63, 3) := by decide +kernel
theorem dX10_next_22 : decode cX10_next 22 = .ok (.aload_n 0, 1) := by decide +kernel
theorem dX10_next_23 : decode cX10_next 23 = .ok (.getfield 10, 3) := by decide +kernel
theorem dX10_next_26 : decode cX10_next 26 = .ok (.getfield 123, 3) := by decide +kernel
theorem dX10_next_29 : decode cX10_next 29 = .ok (.getfield 154, 3) := by decide +kernel
theorem dX10_next_32 : decode cX10_next 32 = .ok (.aload_n 0, 1) := by decide +kernel
theorem dX10_next_33 : decode cX10_next 33 = .ok (.getfield 10, 3) := by decide +kernel
theorem dX10_next_36 : decode cX10_next 36 = .ok (.getfield 123, 3) := by decide +kernel
theorem dX10_next_39 : decode cX10_next 39 = .ok (.getfield 170, 3) := by decide +kernel
theorem dX10_next_42 : decode cX10_next 42 = .ok (.invokestatic 184, 3) := by decide +kernel
theorem dX10_next_45 : decode cX10_next 45 = .ok (.ireturn, 1) := by decide +kernel
theorem dX10_ends_0 : decode cX10_ends 0 = .ok (.iload_n 1, 1) := by decide +kernel
theorem dX10_ends_1 : decode cX10_ends 1 = .ok (.bipush 6, 2) := by decide +kernel
theorem dX10_ends_3 : decode cX10_ends 3 = .ok (.invokestatic 55, 3) := by decide +kernel
theorem dX10_ends_6 : decode cX10_ends 6 = .ok (.ifCond .eq 11, 3) := by decide +kernel
theorem dX10_ends_9 : decode cX10_ends 9 = .ok (.iload_n 2, 1) := by decide +kernel
theorem dX10_ends_10 : decode cX10_ends 10 = .ok (.iconst 2, 1) := by decide +kernel
theorem dX10_ends_11 : decode cX10_ends 11 = .ok (.invokestatic 55, 3) := by decide +kernel
theorem dX10_ends_14 : decode cX10_ends 14 = .ok (.ifCond .ne 8, 3) := by decide +kernel
theorem dX10_ends_17 : decode cX10_ends 17 = .ok (.aload_n 0, 1) := by decide +kernel
theorem dX10_ends_18 : decode cX10_ends 18 = .ok (.invokevirtual 59, 3) := by decide +kernel
theorem dX10_ends_21 : decode cX10_ends 21 = .ok (.ireturn, 1) := by decide +kernel
theorem dX10_ends_22 : decode cX10_ends 22 = .ok (.aload_n 0, 1) := by decide +kernel
theorem dX10_ends_23 : decode cX10_ends 23 = .ok (.getfield 44, 3) := by decide +kernel
theorem dX10_ends_26 : decode cX10_ends 26 = .ok (.aload_n 0, 1) := by decide +kernel
theorem dX10_ends_27 : decode cX10_ends 27 = .ok (.getfield 10, 3) := by decide +kernel
theorem dX10_ends_30 : decode cX10_ends 30 = .ok (.getfield 123, 3) := by decide +kernel
theorem dX10_ends_33 : decode cX10_ends 33 = .ok (.invokevirtual 190, 3) := by decide +kernel
theorem dX10_ends_36 : decode cX10_ends 36 = .ok (.aload_n 0, 1) := by decide +kernel
theorem dX10_ends_37 : decode cX10_ends 37 = .ok (.getfield 44, 3) := by decide +kernel
theorem dX10_ends_40 : decode cX10_ends 40 = .ok (.aload_n 0, 1) := by decide +kernel
theorem dX10_ends_41 : decode cX10_ends 41 = .ok (.getfield 10, 3) := by decide +kernel
theorem dX10_ends_44 : decode cX10_ends 44 = .ok (.getfield 63, 3) := by decide +kernel
theorem dX10_ends_47 : decode cX10_ends 47 = .ok (.iload_n 1, 1) := by decide +kernel
theorem dX10_ends_48 : decode cX10_ends 48 = .ok (.aload_n 0, 1) := by decide +kernel
theorem dX10_ends_49 : decode cX10_ends 49 = .ok (.getfield 10, 3) := by decide +kernel
theorem dX10_ends_52 : decode cX10_ends 52 = .ok (.getfield 77, 3) := by decide +kernel
theorem dX10_ends_55 : decode cX10_ends 55 = .ok (.aload_n 0, 1) := by decide +kernel
theorem dX10_ends_56 : decode cX10_ends 56 = .ok (.getfield 10, 3) := by decide +kernel
theorem dX10_ends_59 : decode cX10_ends 59 = .ok (.getfield 136, 3) := by decide +kernel
theorem dX10_ends_62 : decode cX10_ends 62 = .ok (.invokevirtual 193, 3) := by decide +kernel
theorem dX10_ends_65 : decode cX10_ends 65 = .ok (.istore_n 3, 1) := by decide +kernel
theorem dX10_ends_66 : decode cX10_ends 66 = .ok (.iload_n 2, 1) := by decide +kernel
theorem dX10_ends_67 : decode cX10_ends 67 = .ok (.ifCond .ne 7, 3) := by decide +kernel
theorem dX10_ends_70 : decode cX10_ends 70 = .ok (.iload_n 3, 1) := by decide +kernel
theorem dX10_ends_71 : decode cX10_ends 71 = .ok (.goto 21, 3) := by decide +kernel
theorem dX10_ends_74 : decode cX10_ends 74 = .ok (.aload_n 0, 1) := by decide +kernel
theorem dX10_ends_75 : decode cX10_ends 75 = .ok (.getfield 44, 3) := by decide +kernel
theorem dX10_ends_78 : decode cX10_ends 78 = .ok (.invokevirtual 197, 3) := by decide +kernel
theorem dX10_ends_81 : decode cX10_ends 81 = .ok (.aload_n 0, 1) := by decide +kernel
theorem dX10_ends_82 : decode cX10_ends 82 = .ok (.getfield 10, 3) := by decide +kernel
theorem dX10_ends_85 : decode cX10_ends 85 = .ok (.getfield 123, 3) := by decide +kernel
theorem dX10_ends_88 : decode cX10_ends 88 = .ok (.invokevirtual 197, 3) := by decide +kernel
theorem dX10_ends_91 : decode cX10_ends 91 = .ok (.isub, 1) := by decide +kernel
theorem dX10_ends_92 : decode cX10_ends 92 = .ok (.ireturn, 1) := by decide +kernel
theorem dX10_mean_0 : decode cX10_mean 0 = .ok (.iload_n 1, 1) := by decide +kernel
theorem dX10_mean_1 : decode cX10_mean 1 = .ok (.bipush 6, 2) := by decide +kernel
theorem dX10_mean_3 : decode cX10_mean 3 = .ok (.invokestatic 55, 3) := by decide +kernel
theorem dX10_mean_6 : decode cX10_mean 6 = .ok (.ifCond .ne 8, 3) := by decide +kernel
theorem dX10_mean_9 : decode cX10_mean 9 = .ok (.aload_n 0, 1) := by decide +kernel
theorem dX10_mean_10 : decode cX10_mean 10 = .ok (.invokevirtual 59, 3) := by decide +kernel
theorem dX10_mean_13 : decode cX10_mean 13 = .ok (.ireturn, 1) := by decide +kernel
theorem dX10_mean_14 : decode cX10_mean 14 = .ok (.aload_n 0, 1) := by decide +kernel
theorem dX10_mean_15 : decode cX10_mean 15 = .ok (.getfield 10, 3) := by decide +kernel
theorem dX10_mean_18 : decode cX10_mean 18 = .ok (.getfield 123, 3) := by decide +kernel
theorem dX10_mean_21 : decode cX10_mean 21 = .ok (.getfield 154, 3) := by decide +kernel
theorem dX10_mean_24 : decode cX10_mean 24 = .ok (.istore_n 2, 1) := by decide +kernel
theorem dX10_mean_25 : decode cX10_mean 25 = .ok (.iconst 0, 1) := by decide +kernel
theorem dX10_mean_26 : decode cX10_mean 26 = .ok (.istore_n 3, 1) := by decide +kernel
theorem dX10_mean_27 : decode cX10_mean 27 = .ok (.iconst 0, 1) := by decide +kernel
theorem dX10_mean_28 : decode cX10_mean 28 = .ok (.istore 4, 2) := by decide +kernel
theorem dX10_mean_30 : decode cX10_mean 30 = .ok (.iload 4, 2) := by decide +kernel
theorem dX10_mean_32 : decode cX10_mean 32 = .ok (.bipush 8, 2) := by decide +kernel
theorem dX10_mean_34 : decode cX10_mean 34 = .ok (.if_icmp .ge 53, 3) := by decide +kernel
theorem dX10_mean_37 : decode cX10_mean 37 = .ok (.iload_n 2, 1) := by decide +kernel
theorem dX10_mean_38 : decode cX10_mean 38 = .ok (.iload 4, 2) := by decide +kernel
theorem dX10_mean_40 : decode cX10_mean 40 = .ok (.ishr, 1) := by decide +kernel
theorem dX10_mean_41 : decode cX10_mean 41 = .ok (.iconst 1, 1) := by decide +kernel
theorem dX10_mean_42 : decode cX10_mean 42 = .ok (.iand, 1) := by decide +kernel
theorem dX10_mean_43 : decode cX10_mean 43 = .ok (.ifCond .eq 38, 3) := by decide +kernel
theorem dX10_mean_46 : decode cX10_mean 46 = .ok (.aload_n 0, 1) := by decide +kernel
theorem dX10_mean_47 : decode cX10_mean 47 = .ok (.getfield 44, 3) := by decide +kernel
theorem dX10_mean_50 : decode cX10_mean 50 = .ok (.aload_n 0, 1) := by decide +kernel
theorem dX10_mean_51 : decode cX10_mean 51 = .ok (.getfield 10, 3) := by decide +kernel
theorem dX10_mean_54 : decode cX10_mean 54 = .ok (.getfield 123, 3) := by decide +kernel
theorem dX10_mean_57 : decode cX10_mean 57 = .ok (.invokevirtual 190, 3) := by decide +kernel
theorem dX10_mean_60 : decode cX10_mean 60 = .ok (.iload_n 3, 1) := by decide +kernel
theorem dX10_mean_61 : decode cX10_mean 61 = .ok (.aload_n 0, 1) := by decide +kernel
theorem dX10_mean_62 : decode cX10_mean 62 = .ok (.getfield 44, 3) := by decide +kernel
theorem dX10_mean_65 : decode cX10_mean 65 = .ok (.aload_n 0, 1) := by decide +kernel
theorem dX10_mean_66 : decode cX10_mean 66 = .ok (.getfield 10, 3) := by decide +kernel
theorem dX10_mean_69 : decode cX10_mean 69 = .ok (.getfield 63, 3) := by decide +kernel
theorem dX10_mean_72 : decode cX10_mean 72 = .ok (.iload_n 1, 1) := by decide +kernel
theorem dX10_mean_73 : decode cX10_mean 73 = .ok (.iconst 0, 1) := by decide +kernel
theorem dX10_mean_74 : decode cX10_mean 74 = .ok (.iload 4, 2) := by decide +kernel
theorem dX10_mean_76 : decode cX10_mean 76 = .ok (.invokevirtual 193, 3) := by decide +kernel
theorem dX10_mean_79 : decode cX10_mean 79 = .ok (.iadd, 1) := by decide +kernel
theorem dX10_mean_80 : decode cX10_mean 80 = .ok (.istore_n 3, 1) := by decide +kernel
theorem dX10_mean_81 : decode cX10_mean 81 = .ok (.iinc 4 1, 3) := by decide +kernel
theorem dX10_mean_84 : decode cX10_mean 84 = .ok (.goto (-54), 3) := by decide +kernel
theorem dX10_mean_87 : decode cX10_mean 87 = .ok (.aload_n 0, 1) := by decide +kernel
theorem dX10_mean_88 : decode cX10_mean 88 = .ok (.getfield 30, 3) := by decide +kernel
theorem dX10_mean_91 : decode cX10_mean 91 = .ok (.iload_n 3, 1) := by decide +kernel
theorem dX10_mean_92 : decode cX10_mean 92 = .ok (.iload_n 2, 1) := by decide +kernel
theorem dX10_mean_93 : decode cX10_mean 93 = .ok (.invokestatic 202, 3) := by decide +kernel
theorem dX10_mean_96 : decode cX10_mean 96 = .ok (.invokevirtual 207, 3) := by decide +kernel
theorem dX10_mean_99 : decode cX10_mean 99 = .ok (.iconst 1, 1) := by decide +kernel
theorem dX10_mean_100 : decode cX10_mean 100 = .ok (.ireturn, 1) := by decide +kernel
theorem dX10_luck_0 : decode cX10_luck 0 = .ok (.iload_n 1, 1) := by decide +kernel
theorem dX10_luck_1 : decode cX10_luck 1 = .ok (.iconst 4, 1) := by decide +kernel
theorem dX10_luck_2 : decode cX10_luck 2 = .ok (.invokestatic 55, 3) := by decide +kernel
theorem dX10_luck_5 : decode cX10_luck 5 = .ok (.ifCond .ne 8, 3) := by decide +kernel
theorem dX10_luck_8 : decode cX10_luck 8 = .ok (.aload_n 0, 1) := by decide +kernel
theorem dX10_luck_9 : decode cX10_luck 9 = .ok (.invokevirtual 59, 3) := by decide +kernel
theorem dX10_luck_12 : decode cX10_luck 12 = .ok (.ireturn, 1) := by decide +kernel
theorem dX10_luck_13 : decode cX10_luck 13 = .ok (.aload_n 0, 1) := by decide +kernel
theorem dX10_luck_14 : decode cX10_luck 14 = .ok (.getfield 10, 3) := by decide +kernel
theorem dX10_luck_17 : decode cX10_luck 17 = .ok (.getfield 123, 3) := by decide +kernel
theorem dX10_luck_20 : decode cX10_luck 20 = .ok (.getfield 170, 3) := by decide +kernel
theorem dX10_luck_23 : decode cX10_luck 23 = .ok (.istore_n 2, 1) := by decide +kernel
theorem dX10_luck_24 : decode cX10_luck 24 = .ok (.iload_n 1, 1) := by decide +kernel
theorem dX10_luck_25 : decode cX10_luck 25 = .ok (.bipush 10, 2) := by decide +kernel
theorem dX10_luck_27 : decode cX10_luck 27 = .ok (.iload_n 2, 1) := by decide +kernel
theorem dX10_luck_28 : decode cX10_luck 28 = .ok (.invokestatic 202, 3) := by decide +kernel
theorem dX10_luck_31 : decode cX10_luck 31 = .ok (.isub, 1) := by decide +kernel
theorem dX10_luck_32 : decode cX10_luck 32 = .ok (.invokestatic 211, 3) := by decide +kernel
theorem dX10_luck_35 : decode cX10_luck 35 = .ok (.istore_n 3, 1) := by decide +kernel
theorem dX10_luck_36 : decode cX10_luck 36 = .ok (.iconst 0, 1) := by decide +kernel
theorem dX10_luck_37 : decode cX10_luck 37 = .ok (.istore 4, 2) := by decide +kernel
theorem dX10_luck_39 : decode cX10_luck 39 = .ok (.iconst 0, 1) := by decide +kernel
theorem dX10_luck_40 : decode cX10_luck 40 = .ok (.istore 5, 2) := by decide +kernel
theorem dX10_luck_42 : decode cX10_luck 42 = .ok (.iconst 0, 1) := by decide +kernel
theorem dX10_luck_43 : decode cX10_luck 43 = .ok (.istore 6, 2) := by decide +kernel
theorem dX10_luck_45 : decode cX10_luck 45 = .ok (.iload 6, 2) := by decide +kernel
theorem dX10_luck_47 : decode cX10_luck 47 = .ok (.sipush 1023, 3) := by decide +kernel
theorem dX10_luck_50 : decode cX10_luck 50 = .ok (.if_icmp .gt 51, 3) := by decide +kernel
theorem dX10_luck_53 : decode cX10_luck 53 = .ok (.iload 6, 2) := by decide +kernel
theorem dX10_luck_55 : decode cX10_luck 55 = .ok (.iload_n 2, 1) := by decide +kernel
theorem dX10_luck_56 : decode cX10_luck 56 = .ok (.iand, 1) := by decide +kernel
theorem dX10_luck_57 : decode cX10_luck 57 = .ok (.ifCond .ne 38, 3) := by decide +kernel
theorem dX10_luck_60 : decode cX10_luck 60 = .ok (.iload 6, 2) := by decide +kernel
theorem dX10_luck_62 : decode cX10_luck 62 = .ok (.invokestatic 202, 3) := by decide +kernel
theorem dX10_luck_65 : decode cX10_luck 65 = .ok (.iload_n 3, 1) := by decide +kernel
theorem dX10_luck_66 : decode cX10_luck 66 = .ok (.if_icmp .ne 29, 3) := by decide +kernel
theorem dX10_luck_69 : decode cX10_luck 69 = .ok (.iinc 5 1, 3) := by decide +kernel
theorem dX10_luck_72 : decode cX10_luck 72 = .ok (.iload 4, 2) := by decide +kernel
theorem dX10_luck_74 : decode cX10_luck 74 = .ok (.aload_n 0, 1) := by decide +kernel
theorem dX10_luck_75 : decode cX10_luck 75 = .ok (.iload 6, 2) := by decide +kernel
theorem dX10_luck_77 : decode cX10_luck 77 = .ok (.invokevirtual 216, 3) := by decide +kernel
theorem dX10_luck_80 : decode cX10_luck 80 = .ok (.invokestatic 202, 3) := by decide +kernel
theorem dX10_luck_83 : decode cX10_luck 83 = .ok (.iconst 1, 1) := by decide +kernel
theorem dX10_luck_84 : decode cX10_luck 84 = .ok (.if_icmp .gt 7, 3) := by decide +kernel
theorem dX10_luck_87 : decode cX10_luck 87 = .ok (.iconst 1, 1) := by decide +kernel
theorem dX10_luck_88 : decode cX10_luck 88 = .ok (.goto 4, 3) := by decide +kernel
theorem dX10_luck_91 : decode cX10_luck 91 = .ok (.iconst 0, 1) := by decide +kernel
theorem dX10_luck_92 : decode cX10_luck 92 = .ok (.iadd, 1) := by decide +kernel
theorem dX10_luck_93 : decode cX10_luck 93 = .ok (.istore 4, 2) := by decide +kernel
theorem dX10_luck_95 : decode cX10_luck 95 = .ok (.iinc 6 1, 3) := by decide +kernel
theorem dX10_luck_98 : decode cX10_luck 98 = .ok (.goto (-53), 3) := by decide +kernel
theorem dX10_luck_101 : decode cX10_luck 101 = .ok (.aload_n 0, 1) := by decide +kernel
theorem dX10_luck_102 : decode cX10_luck 102 = .ok (.getfield 30, 3) := by decide +kernel
theorem dX10_luck_105 : decode cX10_luck 105 = .ok (.iload 4, 2) := by decide +kernel
theorem dX10_luck_107 : decode cX10_luck 107 = .ok (.iload 5, 2) := by decide +kernel
theorem dX10_luck_109 : decode cX10_luck 109 = .ok (.invokevirtual 207, 3) := by decide +kernel
theorem dX10_luck_112 : decode cX10_luck 112 = .ok (.iconst 1, 1) := by decide +kernel
theorem dX10_luck_113 : decode cX10_luck 113 = .ok (.ireturn, 1) := by decide +kernel
theorem dX10_against_0 : decode cX10_against 0 = .ok (.iload_n 1, 1) := by decide +kernel
theorem dX10_against_1 : decode cX10_against 1 = .ok (.iconst (-1), 1) := by decide +kernel
theorem dX10_against_2 : decode cX10_against 2 = .ok (.if_icmp .ge 11, 3) := by decide +kernel
theorem dX10_against_5 : decode cX10_against 5 = .ok (.aload_n 0, 1) := by decide +kernel
theorem dX10_against_6 : decode cX10_against 6 = .ok (.invokevirtual 59, 3) := by decide +kernel
theorem dX10_against_9 : decode cX10_against 9 = .ok (.pop, 1) := by decide +kernel
theorem dX10_against_10 : decode cX10_against 10 = .ok (.bipush (-10), 2) := by decide +kernel
theorem dX10_against_12 : decode cX10_against 12 = .ok (.ireturn, 1) := by decide +kernel
theorem dX10_against_13 : decode cX10_against 13 = .ok (.aload_n 0, 1) := by decide +kernel
theorem dX10_against_14 : decode cX10_against 14 = .ok (.invokevirtual 219, 3) := by decide +kernel
theorem dX10_against_17 : decode cX10_against 17 = .ok (.iconst 0, 1) := by decide +kernel
theorem dX10_against_18 : decode cX10_against 18 = .ok (.istore_n 2, 1) := by decide +kernel
theorem dX10_against_19 : decode cX10_against 19 = .ok (.iconst 0, 1) := by decide +kernel
theorem dX10_against_20 : decode cX10_against 20 = .ok (.istore_n 3, 1) := by decide +kernel
theorem dX10_against_21 : decode cX10_against 21 = .ok (.iload_n 3, 1) := by decide +kernel
theorem dX10_against_22 : decode cX10_against 22 = .ok (.bipush 6, 2) := by decide +kernel
theorem dX10_against_24 : decode cX10_against 24 = .ok (.if_icmp .ge 51, 3) := by decide +kernel
theorem dX10_against_27 : decode cX10_against 27 = .ok (.iconst 0, 1) := by decide +kernel
theorem dX10_against_28 : decode cX10_against 28 = .ok (.istore 4, 2) := by decide +kernel
theorem dX10_against_30 : decode cX10_against 30 = .ok (.iload 4, 2) := by decide +kernel
theorem dX10_against_32 : decode cX10_against 32 = .ok (.bipush 6, 2) := by decide +kernel
theorem dX10_against_34 : decode cX10_against 34 = .ok (.if_icmp .ge 35, 3) := by decide +kernel
theorem dX10_against_37 : decode cX10_against 37 = .ok (.aload_n 0, 1) := by decide +kernel
theorem dX10_against_38 : decode cX10_against 38 = .ok (.iload_n 3, 1) := by decide +kernel
theorem dX10_against_39 : decode cX10_against 39 = .ok (.iload 4, 2) := by decide +kernel
theorem dX10_against_41 : decode cX10_against 41 = .ok (.invokevirtual 222, 3) := by decide +kernel
theorem dX10_against_44 : decode cX10_against 44 = .ok (.ifCond .eq 19, 3) := by decide +kernel
theorem dX10_against_47 : decode cX10_against 47 = .ok (.iload_n 2, 1) := by decide +kernel
theorem dX10_against_48 : decode cX10_against 48 = .ok (.iload_n 1, 1) := by decide +kernel
theorem dX10_against_49 : decode cX10_against 49 = .ok (.if_icmp .ne 11, 3) := by decide +kernel
theorem dX10_against_52 : decode cX10_against 52 = .ok (.bipush 10, 2) := by decide +kernel
theorem dX10_against_54 : decode cX10_against 54 = .ok (.iload_n 3, 1) := by decide +kernel
theorem dX10_against_55 : decode cX10_against 55 = .ok (.imul, 1) := by decide +kernel
theorem dX10_against_56 : decode cX10_against 56 = .ok (.iload 4, 2) := by decide +kernel
theorem dX10_against_58 : decode cX10_against 58 = .ok (.iadd, 1) := by decide +kernel
theorem dX10_against_59 : decode cX10_against 59 = .ok (.ireturn, 1) := by decide +kernel
theorem dX10_against_60 : decode cX10_against 60 = .ok (.iinc 2 1, 3) := by decide +kernel
theorem dX10_against_63 : decode cX10_against 63 = .ok (.iinc 4 1, 3) := by decide +kernel
theorem dX10_against_66 : decode cX10_against 66 = .ok (.goto (-36), 3) := by decide +kernel
theorem dX10_against_69 : decode cX10_against 69 = .ok (.iinc 3 1, 3) := by decide +kernel
theorem dX10_against_72 : decode cX10_against 72 = .ok (.goto (-51), 3) := by decide +kernel
theorem dX10_against_75 : decode cX10_against 75 = .ok (.iload_n 1, 1) := by decide +kernel
theorem dX10_against_76 : decode cX10_against 76 = .ok (.iconst (-1), 1) := by decide +kernel
theorem dX10_against_77 : decode cX10_against 77 = .ok (.if_icmp .ne 7, 3) := by decide +kernel
theorem dX10_against_80 : decode cX10_against 80 = .ok (.iload_n 2, 1) := by decide +kernel
theorem dX10_against_81 : decode cX10_against 81 = .ok (.goto 5, 3) := by decide +kernel
theorem dX10_against_84 : decode cX10_against 84 = .ok (.bipush (-5), 2) := by decide +kernel
theorem dX10_against_86 : decode cX10_against 86 = .ok (.ireturn, 1) := by decide +kernel
theorem dX10_note_0 : decode cX10_note 0 = .ok (.aload_n 0, 1) := by decide +kernel
theorem dX10_note_1 : decode cX10_note 1 = .ok (.iload_n 1, 1) := by decide +kernel
theorem dX10_note_2 : decode cX10_note 2 = .ok (.invokevirtual 225, 3) := by decide +kernel
theorem dX10_note_5 : decode cX10_note 5 = .ok (.ifCond .eq 35, 3) := by decide +kernel
theorem dX10_note_8 : decode cX10_note 8 = .ok (.iload_n 2, 1) := by decide +kernel
theorem dX10_note_9 : decode cX10_note 9 = .ok (.bipush 10, 2) := by decide +kernel
theorem dX10_note_11 : decode cX10_note 11 = .ok (.invokestatic 55, 3) := by decide +kernel
theorem dX10_note_14 : decode cX10_note 14 = .ok (.ifCond .eq 26, 3) := by decide +kernel
theorem dX10_note_17 : decode cX10_note 17 = .ok (.iload_n 3, 1) := by decide +kernel
theorem dX10_note_18 : decode cX10_note 18 = .ok (.bipush 10, 2) := by decide +kernel
theorem dX10_note_20 : decode cX10_note 20 = .ok (.invokestatic 55, 3) := by decide +kernel
theorem dX10_note_23 : decode cX10_note 23 = .ok (.ifCond .eq 17, 3) := by decide +kernel
theorem dX10_note_26 : decode cX10_note 26 = .ok (.iload 4, 2) := by decide +kernel
theorem dX10_note_28 : decode cX10_note 28 = .ok (.bipush 16, 2) := by decide +kernel
theorem dX10_note_30 : decode cX10_note 30 = .ok (.invokestatic 55, 3) := by decide +kernel
theorem dX10_note_33 : decode cX10_note 33 = .ok (.ifCond .eq 7, 3) := by decide +kernel
theorem dX10_note_36 : decode cX10_note 36 = .ok (.iconst 1, 1) := by decide +kernel
theorem dX10_note_37 : decode cX10_note 37 = .ok (.goto 4, 3) := by decide +kernel
theorem dX10_note_40 : decode cX10_note 40 = .ok (.iconst 0, 1) := by decide +kernel
theorem dX10_note_41 : decode cX10_note 41 = .ok (.istore 5, 2) := by decide +kernel
theorem dX10_note_43 : decode cX10_note 43 = .ok (.iload 5, 2) := by decide +kernel
theorem dX10_note_45 : decode cX10_note 45 = .ok (.ifCond .ne 8, 3) := by decide +kernel
theorem dX10_note_48 : decode cX10_note 48 = .ok (.aload_n 0, 1) := by decide +kernel
theorem dX10_note_49 : decode cX10_note 49 = .ok (.invokevirtual 59, 3) := by decide +kernel
theorem dX10_note_52 : decode cX10_note 52 = .ok (.ireturn, 1) := by decide +kernel
theorem dX10_note_53 : decode cX10_note 53 = .ok (.aload_n 0, 1) := by decide +kernel
theorem dX10_note_54 : decode cX10_note 54 = .ok (.getfield 10, 3) := by decide +kernel
theorem dX10_note_57 : decode cX10_note 57 = .ok (.getfield 228, 3) := by decide +kernel
theorem dX10_note_60 : decode cX10_note 60 = .ok (.invokevirtual 231, 3) := by decide +kernel
theorem dX10_note_63 : decode cX10_note 63 = .ok (.ifCond .eq 8, 3) := by decide +kernel
theorem dX10_note_66 : decode cX10_note 66 = .ok (.aload_n 0, 1) := by decide +kernel
