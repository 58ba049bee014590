theorem dX0_init_0 : decode cX0_init 0 = .ok (.aload_n 0, 1) := by decide +kernel
theorem dX0_init_1 : decode cX0_init 1 = .ok (.invokespecial 1, 3) := by decide +kernel
theorem dX0_init_4 : decode cX0_init 4 = .ok (.aload_n 0, 1) := by decide +kernel
theorem dX0_init_5 : decode cX0_init 5 = .ok (.lconst 0, 1) := by decide +kernel
theorem dX0_init_6 : decode cX0_init 6 = .ok (.putfield 7, 3) := by decide +kernel
theorem dX0_init_9 : decode cX0_init 9 = .ok (.aload_n 0, 1) := by decide +kernel
theorem dX0_init_10 : decode cX0_init 10 = .ok (.lconst 1, 1) := by decide +kernel
theorem dX0_init_11 : decode cX0_init 11 = .ok (.putfield 13, 3) := by decide +kernel
theorem dX0_init_14 : decode cX0_init 14 = .ok (.return_, 1) := by decide +kernel
theorem dX0_put_0 : decode cX0_put 0 = .ok (.iload_n 2, 1) := by decide +kernel
theorem dX0_put_1 : decode cX0_put 1 = .ok (.ifCond .gt 7, 3) := by decide +kernel
theorem dX0_put_4 : decode cX0_put 4 = .ok (.iconst 0, 1) := by decide +kernel
theorem dX0_put_5 : decode cX0_put 5 = .ok (.goto 8, 3) := by decide +kernel
theorem dX0_put_8 : decode cX0_put 8 = .ok (.iload_n 1, 1) := by decide +kernel
theorem dX0_put_9 : decode cX0_put 9 = .ok (.iload_n 2, 1) := by decide +kernel
theorem dX0_put_10 : decode cX0_put 10 = .ok (.invokestatic 16, 3) := by decide +kernel
theorem dX0_put_13 : decode cX0_put 13 = .ok (.istore_n 3, 1) := by decide +kernel
theorem dX0_put_14 : decode cX0_put 14 = .ok (.aload_n 0, 1) := by decide +kernel
theorem dX0_put_15 : decode cX0_put 15 = .ok (.iload_n 3, 1) := by decide +kernel
theorem dX0_put_16 : decode cX0_put 16 = .ok (.ifCond .ne 7, 3) := by decide +kernel
theorem dX0_put_19 : decode cX0_put 19 = .ok (.lconst 0, 1) := by decide +kernel
theorem dX0_put_20 : decode cX0_put 20 = .ok (.goto 7, 3) := by decide +kernel
theorem dX0_put_23 : decode cX0_put 23 = .ok (.iload_n 1, 1) := by decide +kernel
theorem dX0_put_24 : decode cX0_put 24 = .ok (.iload_n 3, 1) := by decide +kernel
theorem dX0_put_25 : decode cX0_put 25 = .ok (.idiv, 1) := by decide +kernel
theorem dX0_put_26 : decode cX0_put 26 = .ok (.i2l, 1) := by decide +kernel
theorem dX0_put_27 : decode cX0_put 27 = .ok (.putfield 7, 3) := by decide +kernel
theorem dX0_put_30 : decode cX0_put 30 = .ok (.aload_n 0, 1) := by decide +kernel
theorem dX0_put_31 : decode cX0_put 31 = .ok (.iload_n 3, 1) := by decide +kernel
theorem dX0_put_32 : decode cX0_put 32 = .ok (.ifCond .ne 7, 3) := by decide +kernel
theorem dX0_put_35 : decode cX0_put 35 = .ok (.lconst 1, 1) := by decide +kernel
theorem dX0_put_36 : decode cX0_put 36 = .ok (.goto 7, 3) := by decide +kernel
theorem dX0_put_39 : decode cX0_put 39 = .ok (.iload_n 2, 1) := by decide +kernel
theorem dX0_put_40 : decode cX0_put 40 = .ok (.iload_n 3, 1) := by decide +kernel
theorem dX0_put_41 : decode cX0_put 41 = .ok (.idiv, 1) := by decide +kernel
theorem dX0_put_42 : decode cX0_put 42 = .ok (.i2l, 1) := by decide +kernel
theorem dX0_put_43 : decode cX0_put 43 = .ok (.putfield 13, 3) := by decide +kernel
theorem dX0_put_46 : decode cX0_put 46 = .ok (.return_, 1) := by decide +kernel
theorem dX0_commonDivisor_0 : decode cX0_commonDivisor 0 = .ok (.iload_n 0, 1) := by decide +kernel
theorem dX0_commonDivisor_1 : decode cX0_commonDivisor 1 = .ok (.istore_n 2, 1) := by decide +kernel
theorem dX0_commonDivisor_2 : decode cX0_commonDivisor 2 = .ok (.iload_n 1, 1) := by decide +kernel
theorem dX0_commonDivisor_3 : decode cX0_commonDivisor 3 = .ok (.istore_n 3, 1) := by decide +kernel
theorem dX0_commonDivisor_4 : decode cX0_commonDivisor 4 = .ok (.iconst 0, 1) := by decide +kernel
theorem dX0_commonDivisor_5 : decode cX0_commonDivisor 5 = .ok (.istore 4, 2) := by decide +kernel
theorem dX0_commonDivisor_7 : decode cX0_commonDivisor 7 = .ok (.iload 4, 2) := by decide +kernel
theorem dX0_commonDivisor_9 : decode cX0_commonDivisor 9 = .ok (.bipush 100, 2) := by decide +kernel
theorem dX0_commonDivisor_11 : decode cX0_commonDivisor 11 = .ok (.if_icmp .ge 23, 3) := by decide +kernel
theorem dX0_commonDivisor_14 : decode cX0_commonDivisor 14 = .ok (.iload_n 3, 1) := by decide +kernel
theorem dX0_commonDivisor_15 : decode cX0_commonDivisor 15 = .ok (.ifCond .eq 19, 3) := by decide +kernel
theorem dX0_commonDivisor_18 : decode cX0_commonDivisor 18 = .ok (.iload_n 2, 1) := by decide +kernel
theorem dX0_commonDivisor_19 : decode cX0_commonDivisor 19 = .ok (.iload_n 3, 1) := by decide +kernel
theorem dX0_commonDivisor_20 : decode cX0_commonDivisor 20 = .ok (.irem, 1) := by decide +kernel
theorem dX0_commonDivisor_21 : decode cX0_commonDivisor 21 = .ok (.istore 5, 2) := by decide +kernel
theorem dX0_commonDivisor_23 : decode cX0_commonDivisor 23 = .ok (.iload_n 3, 1) := by decide +kernel
theorem dX0_commonDivisor_24 : decode cX0_commonDivisor 24 = .ok (.istore_n 2, 1) := by decide +kernel
theorem dX0_commonDivisor_25 : decode cX0_commonDivisor 25 = .ok (.iload 5, 2) := by decide +kernel
theorem dX0_commonDivisor_27 : decode cX0_commonDivisor 27 = .ok (.istore_n 3, 1) := by decide +kernel
theorem dX0_commonDivisor_28 : decode cX0_commonDivisor 28 = .ok (.iinc 4 1, 3) := by decide +kernel
theorem dX0_commonDivisor_31 : decode cX0_commonDivisor 31 = .ok (.goto (-24), 3) := by decide +kernel
theorem dX0_commonDivisor_34 : decode cX0_commonDivisor 34 = .ok (.iload_n 2, 1) := by decide +kernel
theorem dX0_commonDivisor_35 : decode cX0_commonDivisor 35 = .ok (.ireturn, 1) := by decide +kernel
theorem dX1_init_0 : decode cX1_init 0 = .ok (.aload_n 0, 1) := by decide +kernel
theorem dX1_init_1 : decode cX1_init 1 = .ok (.invokespecial 3, 3) := by decide +kernel
theorem dX1_init_4 : decode cX1_init 4 = .ok (.return_, 1) := by decide +kernel
theorem dX1_begin_0 : decode cX1_begin 0 = .ok (.aload_n 0, 1) := by decide +kernel
theorem dX1_begin_1 : decode cX1_begin 1 = .ok (.iload_n 1, 1) := by decide +kernel
theorem dX1_begin_2 : decode cX1_begin 2 = .ok (.putfield 9, 3) := by decide +kernel
theorem dX1_begin_5 : decode cX1_begin 5 = .ok (.aload_n 0, 1) := by decide +kernel
theorem dX1_begin_6 : decode cX1_begin 6 = .ok (.iconst 0, 1) := by decide +kernel
theorem dX1_begin_7 : decode cX1_begin 7 = .ok (.putfield 15, 3) := by decide +kernel
theorem dX1_begin_10 : decode cX1_begin 10 = .ok (.aload_n 0, 1) := by decide +kernel
theorem dX1_begin_11 : decode cX1_begin 11 = .ok (.iconst 0, 1) := by decide +kernel
theorem dX1_begin_12 : decode cX1_begin 12 = .ok (.putfield 18, 3) := by decide +kernel
theorem dX1_begin_15 : decode cX1_begin 15 = .ok (.return_, 1) := by decide +kernel
theorem dX1_copyFrom_0 : decode cX1_copyFrom 0 = .ok (.aload_n 0, 1) := by decide +kernel
theorem dX1_copyFrom_1 : decode cX1_copyFrom 1 = .ok (.aload_n 1, 1) := by decide +kernel
theorem dX1_copyFrom_2 : decode cX1_copyFrom 2 = .ok (.getfield 9, 3) := by decide +kernel
theorem dX1_copyFrom_5 : decode cX1_copyFrom 5 = .ok (.putfield 9, 3) := by decide +kernel
theorem dX1_copyFrom_8 : decode cX1_copyFrom 8 = .ok (.aload_n 0, 1) := by decide +kernel
theorem dX1_copyFrom_9 : decode cX1_copyFrom 9 = .ok (.aload_n 1, 1) := by decide +kernel
theorem dX1_copyFrom_10 : decode cX1_copyFrom 10 = .ok (.getfield 15, 3) := by decide +kernel
theorem dX1_copyFrom_13 : decode cX1_copyFrom 13 = .ok (.putfield 15, 3) := by decide +kernel
theorem dX1_copyFrom_16 : decode cX1_copyFrom 16 = .ok (.aload_n 0, 1) := by decide +kernel
theorem dX1_copyFrom_17 : decode cX1_copyFrom 17 = .ok (.aload_n 1, 1) := by decide +kernel
theorem dX1_copyFrom_18 : decode cX1_copyFrom 18 = .ok (.getfield 18, 3) := by decide +kernel
theorem dX1_copyFrom_21 : decode cX1_copyFrom 21 = .ok (.putfield 18, 3) := by decide +kernel
theorem dX1_copyFrom_24 : decode cX1_copyFrom 24 = .ok (.return_, 1) := by decide +kernel
theorem dX1_guesses_0 : decode cX1_guesses 0 = .ok (.aload_n 0, 1) := by decide +kernel
theorem dX1_guesses_1 : decode cX1_guesses 1 = .ok (.getfield 15, 3) := by decide +kernel
theorem dX1_guesses_4 : decode cX1_guesses 4 = .ok (.invokestatic 21, 3) := by decide +kernel
theorem dX1_guesses_7 : decode cX1_guesses 7 = .ok (.ireturn, 1) := by decide +kernel
theorem dX1_isOpen_0 : decode cX1_isOpen 0 = .ok (.aload_n 0, 1) := by decide +kernel
theorem dX1_isOpen_1 : decode cX1_isOpen 1 = .ok (.getfield 9, 3) := by decide +kernel
theorem dX1_isOpen_4 : decode cX1_isOpen 4 = .ok (.ifCond .eq 18, 3) := by decide +kernel
theorem dX1_isOpen_7 : decode cX1_isOpen 7 = .ok (.aload_n 0, 1) := by decide +kernel
theorem dX1_isOpen_8 : decode cX1_isOpen 8 = .ok (.getfield 15, 3) := by decide +kernel
theorem dX1_isOpen_11 : decode cX1_isOpen 11 = .ok (.iload_n 1, 1) := by decide +kernel
theorem dX1_isOpen_12 : decode cX1_isOpen 12 = .ok (.ishr, 1) := by decide +kernel
theorem dX1_isOpen_13 : decode cX1_isOpen 13 = .ok (.iconst 1, 1) := by decide +kernel
theorem dX1_isOpen_14 : decode cX1_isOpen 14 = .ok (.iand, 1) := by decide +kernel
theorem dX1_isOpen_15 : decode cX1_isOpen 15 = .ok (.ifCond .ne 7, 3) := by decide +kernel
theorem dX1_isOpen_18 : decode cX1_isOpen 18 = .ok (.iconst 1, 1) := by decide +kernel
theorem dX1_isOpen_19 : decode cX1_isOpen 19 = .ok (.goto 4, 3) := by decide +kernel
theorem dX1_isOpen_22 : decode cX1_isOpen 22 = .ok (.iconst 0, 1) := by decide +kernel
theorem dX1_isOpen_23 : decode cX1_isOpen 23 = .ok (.ireturn, 1) := by decide +kernel
theorem dX1_put_0 : decode cX1_put 0 = .ok (.aload_n 0, 1) := by decide +kernel
theorem dX1_put_1 : decode cX1_put 1 = .ok (.aload_n 1, 1) := by decide +kernel
theorem dX1_put_2 : decode cX1_put 2 = .ok (.aload_n 0, 1) := by decide +kernel
theorem dX1_put_3 : decode cX1_put 3 = .ok (.getfield 9, 3) := by decide +kernel
theorem dX1_put_6 : decode cX1_put 6 = .ok (.iload_n 2, 1) := by decide +kernel
theorem dX1_put_7 : decode cX1_put 7 = .ok (.iload_n 3, 1) := by decide +kernel
theorem dX1_put_8 : decode cX1_put 8 = .ok (.invokevirtual 27, 3) := by decide +kernel
theorem dX1_put_11 : decode cX1_put 11 = .ok (.putfield 9, 3) := by decide +kernel
theorem dX1_put_14 : decode cX1_put 14 = .ok (.aload_n 0, 1) := by decide +kernel
theorem dX1_put_15 : decode cX1_put 15 = .ok (.dup, 1) := by decide +kernel
theorem dX1_put_16 : decode cX1_put 16 = .ok (.getfield 15, 3) := by decide +kernel
theorem dX1_put_19 : decode cX1_put 19 = .ok (.iconst 1, 1) := by decide +kernel
theorem dX1_put_20 : decode cX1_put 20 = .ok (.iload_n 2, 1) := by decide +kernel
theorem dX1_put_21 : decode cX1_put 21 = .ok (.ishl, 1) := by decide +kernel
theorem dX1_put_22 : decode cX1_put 22 = .ok (.ior, 1) := by decide +kernel
theorem dX1_put_23 : decode cX1_put 23 = .ok (.putfield 15, 3) := by decide +kernel
theorem dX1_put_26 : decode cX1_put 26 = .ok (.iload_n 3, 1) := by decide +kernel
theorem dX1_put_27 : decode cX1_put 27 = .ok (.ifCond .ne 13, 3) := by decide +kernel
theorem dX1_put_30 : decode cX1_put 30 = .ok (.aload_n 0, 1) := by decide +kernel
theorem dX1_put_31 : decode cX1_put 31 = .ok (.dup, 1) := by decide +kernel
theorem dX1_put_32 : decode cX1_put 32 = .ok (.getfield 18, 3) := by decide +kernel
theorem dX1_put_35 : decode cX1_put 35 = .ok (.iconst 1, 1) := by decide +kernel
theorem dX1_put_36 : decode cX1_put 36 = .ok (.iadd, 1) := by decide +kernel
theorem dX1_put_37 : decode cX1_put 37 = .ok (.putfield 18, 3) := by decide +kernel
theorem dX1_put_40 : decode cX1_put 40 = .ok (.return_, 1) := by decide +kernel
theorem dX1_playOn_0 : decode cX1_playOn 0 = .ok (.aload_n 0, 1) := by decide +kernel
theorem dX1_playOn_1 : decode cX1_playOn 1 = .ok (.getfield 18, 3) := by decide +kernel
theorem dX1_playOn_4 : decode cX1_playOn 4 = .ok (.istore 5, 2) := by decide +kernel
theorem dX1_playOn_6 : decode cX1_playOn 6 = .ok (.iconst 0, 1) := by decide +kernel
theorem dX1_playOn_7 : decode cX1_playOn 7 = .ok (.istore 6, 2) := by decide +kernel
theorem dX1_playOn_9 : decode cX1_playOn 9 = .ok (.iload 6, 2) := by decide +kernel
theorem dX1_playOn_11 : decode cX1_playOn 11 = .ok (.bipush 10, 2) := by decide +kernel
theorem dX1_playOn_13 : decode cX1_playOn 13 = .ok (.if_icmp .ge 65, 3) := by decide +kernel
theorem dX1_playOn_16 : decode cX1_playOn 16 = .ok (.aload_n 0, 1) := by decide +kernel
theorem dX1_playOn_17 : decode cX1_playOn 17 = .ok (.getfield 9, 3) := by decide +kernel
theorem dX1_playOn_20 : decode cX1_playOn 20 = .ok (.invokestatic 21, 3) := by decide +kernel
theorem dX1_playOn_23 : decode cX1_playOn 23 = .ok (.iconst 1, 1) := by decide +kernel
theorem dX1_playOn_24 : decode cX1_playOn 24 = .ok (.if_icmp .le 54, 3) := by decide +kernel
theorem dX1_playOn_27 : decode cX1_playOn 27 = .ok (.iload_n 2, 1) := by decide +kernel
theorem dX1_playOn_28 : decode cX1_playOn 28 = .ok (.aload_n 1, 1) := by decide +kernel
theorem dX1_playOn_29 : decode cX1_playOn 29 = .ok (.aload_n 0, 1) := by decide +kernel
theorem dX1_playOn_30 : decode cX1_playOn 30 = .ok (.getfield 9, 3) := by decide +kernel
theorem dX1_playOn_33 : decode cX1_playOn 33 = .ok (.aload_n 0, 1) := by decide +kernel
theorem dX1_playOn_34 : decode cX1_playOn 34 = .ok (.getfield 15, 3) := by decide +kernel
theorem dX1_playOn_37 : decode cX1_playOn 37 = .ok (.invokestatic 33, 3) := by decide +kernel
theorem dX1_playOn_40 : decode cX1_playOn 40 = .ok (.istore 7, 2) := by decide +kernel
theorem dX1_playOn_42 : decode cX1_playOn 42 = .ok (.iload 7, 2) := by decide +kernel
theorem dX1_playOn_44 : decode cX1_playOn 44 = .ok (.iconst (-1), 1) := by decide +kernel
theorem dX1_playOn_45 : decode cX1_playOn 45 = .ok (.if_icmp .eq 27, 3) := by decide +kernel
theorem dX1_playOn_48 : decode cX1_playOn 48 = .ok (.aload_n 0, 1) := by decide +kernel
theorem dX1_playOn_49 : decode cX1_playOn 49 = .ok (.aload_n 1, 1) := by decide +kernel
theorem dX1_playOn_50 : decode cX1_playOn 50 = .ok (.iload 7, 2) := by decide +kernel
theorem dX1_playOn_52 : decode cX1_playOn 52 = .ok (.iload_n 3, 1) := by decide +kernel
theorem dX1_playOn_53 : decode cX1_playOn 53 = .ok (.aload_n 1, 1) := by decide +kernel
theorem dX1_playOn_54 : decode cX1_playOn 54 = .ok (.iload 4, 2) := by decide +kernel
theorem dX1_playOn_56 : decode cX1_playOn 56 = .ok (.aload_n 0, 1) := by decide +kernel
theorem dX1_playOn_57 : decode cX1_playOn 57 = .ok (.getfield 9, 3) := by decide +kernel
theorem dX1_playOn_60 : decode cX1_playOn 60 = .ok (.aload_n 0, 1) := by decide +kernel
theorem dX1_playOn_61 : decode cX1_playOn 61 = .ok (.invokevirtual 39, 3) := by decide +kernel
theorem dX1_playOn_64 : decode cX1_playOn 64 = .ok (.iload 7, 2) := by decide +kernel
theorem dX1_playOn_66 : decode cX1_playOn 66 = .ok (.invokestatic 43, 3) := by decide +kernel
theorem dX1_playOn_69 : decode cX1_playOn 69 = .ok (.invokevirtual 49, 3) := by decide +kernel
theorem dX1_playOn_72 : decode cX1_playOn 72 = .ok (.iinc 6 1, 3) := by decide +kernel
theorem dX1_playOn_75 : decode cX1_playOn 75 = .ok (.goto (-66), 3) := by decide +kernel
theorem dX1_playOn_78 : decode cX1_playOn 78 = .ok (.aload_n 0, 1) := by decide +kernel
theorem dX1_playOn_79 : decode cX1_playOn 79 = .ok (.getfield 18, 3) := by decide +kernel
theorem dX1_playOn_82 : decode cX1_playOn 82 = .ok (.iload 5, 2) := by decide +kernel
theorem dX1_playOn_84 : decode cX1_playOn 84 = .ok (.isub, 1) := by decide +kernel
theorem dX1_playOn_85 : decode cX1_playOn 85 = .ok (.ireturn, 1) := by decide +kernel
theorem dX2_choice_0 : decode cX2_choice 0 = .ok (.iload_n 0, 1) := by decide +kernel
theorem dX2_choice_1 : decode cX2_choice 1 = .ok (.tableswitch 68 1 5 #[35, 42, 49, 56, 61], 35) := by decide +kernel
theorem dX2_choice_36 : decode cX2_choice 36 = .ok (.aload_n 1, 1) := by decide +kernel
theorem dX2_choice_37 : decode cX2_choice 37 = .ok (.iload_n 2, 1) := by decide +kernel
theorem dX2_choice_38 : decode cX2_choice 38 = .ok (.iload_n 3, 1) := by decide +kernel
theorem dX2_choice_39 : decode cX2_choice 39 = .ok (.invokestatic 9, 3) := by decide +kernel
theorem dX2_choice_42 : decode cX2_choice 42 = .ok (.ireturn, 1) := by decide +kernel
theorem dX2_choice_43 : decode cX2_choice 43 = .ok (.aload_n 1, 1) := by decide +kernel
theorem dX2_choice_44 : decode cX2_choice 44 = .ok (.iload_n 2, 1) := by decide +kernel
theorem dX2_choice_45 : decode cX2_choice 45 = .ok (.iload_n 3, 1) := by decide +kernel
theorem dX2_choice_46 : decode cX2_choice 46 = .ok (.invokestatic 15, 3) := by decide +kernel
theorem dX2_choice_49 : decode cX2_choice 49 = .ok (.ireturn, 1) := by decide +kernel
theorem dX2_choice_50 : decode cX2_choice 50 = .ok (.aload_n 1, 1) := by decide +kernel
theorem dX2_choice_51 : decode cX2_choice 51 = .ok (.iload_n 2, 1) := by decide +kernel
theorem dX2_choice_52 : decode cX2_choice 52 = .ok (.iload_n 3, 1) := by decide +kernel
theorem dX2_choice_53 : decode cX2_choice 53 = .ok (.invokestatic 18, 3) := by decide +kernel
theorem dX2_choice_56 : decode cX2_choice 56 = .ok (.ireturn, 1) := by decide +kernel
theorem dX2_choice_57 : decode cX2_choice 57 = .ok (.iload_n 3, 1) := by decide +kernel
theorem dX2_choice_58 : decode cX2_choice 58 = .ok (.invokestatic 21, 3) := by decide +kernel
theorem dX2_choice_61 : decode cX2_choice 61 = .ok (.ireturn, 1) := by decide +kernel
theorem dX2_choice_62 : decode cX2_choice 62 = .ok (.aload_n 1, 1) := by decide +kernel
theorem dX2_choice_63 : decode cX2_choice 63 = .ok (.iload_n 2, 1) := by decide +kernel
theorem dX2_choice_64 : decode cX2_choice 64 = .ok (.iload_n 3, 1) := by decide +kernel
theorem dX2_choice_65 : decode cX2_choice 65 = .ok (.invokestatic 25, 3) := by decide +kernel
theorem dX2_choice_68 : decode cX2_choice 68 = .ok (.ireturn, 1) := by decide +kernel
theorem dX2_choice_69 : decode cX2_choice 69 = .ok (.iload_n 3, 1) := by decide +kernel
theorem dX2_choice_70 : decode cX2_choice 70 = .ok (.invokestatic 28, 3) := by decide +kernel
theorem dX2_choice_73 : decode cX2_choice 73 = .ok (.ireturn, 1) := by decide +kernel
theorem dX2_row_0 : decode cX2_row 0 = .ok (.iconst 0, 1) := by decide +kernel
theorem dX2_row_1 : decode cX2_row 1 = .ok (.istore_n 1, 1) := by decide +kernel
theorem dX2_row_2 : decode cX2_row 2 = .ok (.iload_n 1, 1) := by decide +kernel
theorem dX2_row_3 : decode cX2_row 3 = .ok (.bipush 10, 2) := by decide +kernel
theorem dX2_row_5 : decode cX2_row 5 = .ok (.if_icmp .ge 19, 3) := by decide +kernel
theorem dX2_row_8 : decode cX2_row 8 = .ok (.iload_n 0, 1) := by decide +kernel
theorem dX2_row_9 : decode cX2_row 9 = .ok (.iload_n 1, 1) := by decide +kernel
theorem dX2_row_10 : decode cX2_row 10 = .ok (.ishr, 1) := by decide +kernel
theorem dX2_row_11 : decode cX2_row 11 = .ok (.iconst 1, 1) := by decide +kernel
theorem dX2_row_12 : decode cX2_row 12 = .ok (.iand, 1) := by decide +kernel
theorem dX2_row_13 : decode cX2_row 13 = .ok (.ifCond .ne 5, 3) := by decide +kernel
theorem dX2_row_16 : decode cX2_row 16 = .ok (.iload_n 1, 1) := by decide +kernel
theorem dX2_row_17 : decode cX2_row 17 = .ok (.ireturn, 1) := by decide +kernel
theorem dX2_row_18 : decode cX2_row 18 = .ok (.iinc 1 1, 3) := by decide +kernel
theorem dX2_row_21 : decode cX2_row 21 = .ok (.goto (-19), 3) := by decide +kernel
theorem dX2_row_24 : decode cX2_row 24 = .ok (.iconst (-1), 1) := by decide +kernel
theorem dX2_row_25 : decode cX2_row 25 = .ok (.ireturn, 1) := by decide +kernel
theorem dX2_last_0 : decode cX2_last 0 = .ok (.bipush 9, 2) := by decide +kernel
theorem dX2_last_2 : decode cX2_last 2 = .ok (.istore_n 1, 1) := by decide +kernel
theorem dX2_last_3 : decode cX2_last 3 = .ok (.iload_n 1, 1) := by decide +kernel
theorem dX2_last_4 : decode cX2_last 4 = .ok (.ifCond .lt 19, 3) := by decide +kernel
theorem dX2_last_7 : decode cX2_last 7 = .ok (.iload_n 0, 1) := by decide +kernel
theorem dX2_last_8 : decode cX2_last 8 = .ok (.iload_n 1, 1) := by decide +kernel
theorem dX2_last_9 : decode cX2_last 9 = .ok (.ishr, 1) := by decide +kernel
theorem dX2_last_10 : decode cX2_last 10 = .ok (.iconst 1, 1) := by decide +kernel
theorem dX2_last_11 : decode cX2_last 11 = .ok (.iand, 1) := by decide +kernel
theorem dX2_last_12 : decode cX2_last 12 = .ok (.ifCond .ne 5, 3) := by decide +kernel
theorem dX2_last_15 : decode cX2_last 15 = .ok (.iload_n 1, 1) := by decide +kernel
theorem dX2_last_16 : decode cX2_last 16 = .ok (.ireturn, 1) := by decide +kernel
theorem dX2_last_17 : decode cX2_last 17 = .ok (.iinc 1 (-1), 3) := by decide +kernel
theorem dX2_last_20 : decode cX2_last 20 = .ok (.goto (-17), 3) := by decide +kernel
theorem dX2_last_23 : decode cX2_last 23 = .ok (.iconst (-1), 1) := by decide +kernel
theorem dX2_last_24 : decode cX2_last 24 = .ok (.ireturn, 1) := by decide +kernel
theorem dX2_often_0 : decode cX2_often 0 = .ok (.iconst (-1), 1) := by decide +kernel
theorem dX2_often_1 : decode cX2_often 1 = .ok (.istore_n 3, 1) := by decide +kernel
theorem dX2_often_2 : decode cX2_often 2 = .ok (.iconst (-1), 1) := by decide +kernel
theorem dX2_often_3 : decode cX2_often 3 = .ok (.istore 4, 2) := by decide +kernel
theorem dX2_often_5 : decode cX2_often 5 = .ok (.iconst 0, 1) := by decide +kernel
theorem dX2_often_6 : decode cX2_often 6 = .ok (.istore 5, 2) := by decide +kernel
theorem dX2_often_8 : decode cX2_often 8 = .ok (.iload 5, 2) := by decide +kernel
theorem dX2_often_10 : decode cX2_often 10 = .ok (.bipush 10, 2) := by decide +kernel
theorem dX2_often_12 : decode cX2_often 12 = .ok (.if_icmp .ge 45, 3) := by decide +kernel
theorem dX2_often_15 : decode cX2_often 15 = .ok (.iload_n 1, 1) := by decide +kernel
theorem dX2_often_16 : decode cX2_often 16 = .ok (.aload_n 0, 1) := by decide +kernel
theorem dX2_often_17 : decode cX2_often 17 = .ok (.iload 5, 2) := by decide +kernel
theorem dX2_often_19 : decode cX2_often 19 = .ok (.invokevirtual 31, 3) := by decide +kernel
theorem dX2_often_22 : decode cX2_often 22 = .ok (.iand, 1) := by decide +kernel
theorem dX2_often_23 : decode cX2_often 23 = .ok (.invokestatic 36, 3) := by decide +kernel
theorem dX2_often_26 : decode cX2_often 26 = .ok (.istore 6, 2) := by decide +kernel
theorem dX2_often_28 : decode cX2_often 28 = .ok (.iload_n 2, 1) := by decide +kernel
theorem dX2_often_29 : decode cX2_often 29 = .ok (.iload 5, 2) := by decide +kernel
theorem dX2_often_31 : decode cX2_often 31 = .ok (.ishr, 1) := by decide +kernel
theorem dX2_often_32 : decode cX2_often 32 = .ok (.iconst 1, 1) := by decide +kernel
theorem dX2_often_33 : decode cX2_often 33 = .ok (.iand, 1) := by decide +kernel
theorem dX2_often_34 : decode cX2_often 34 = .ok (.ifCond .ne 17, 3) := by decide +kernel
theorem dX2_often_37 : decode cX2_often 37 = .ok (.iload 6, 2) := by decide +kernel
theorem dX2_often_39 : decode cX2_often 39 = .ok (.iload 4, 2) := by decide +kernel
theorem dX2_often_41 : decode cX2_often 41 = .ok (.if_icmp .le 10, 3) := by decide +kernel
theorem dX2_often_44 : decode cX2_often 44 = .ok (.iload 5, 2) := by decide +kernel
theorem dX2_often_46 : decode cX2_often 46 = .ok (.istore_n 3, 1) := by decide +kernel
theorem dX2_often_47 : decode cX2_often 47 = .ok (.iload 6, 2) := by decide +kernel
theorem dX2_often_49 : decode cX2_often 49 = .ok (.istore 4, 2) := by decide +kernel
theorem dX2_often_51 : decode cX2_often 51 = .ok (.iinc 5 1, 3) := by decide +kernel
theorem dX2_often_54 : decode cX2_often 54 = .ok (.goto (-46), 3) := by decide +kernel
theorem dX2_often_57 : decode cX2_often 57 = .ok (.iload_n 3, 1) := by decide +kernel
theorem dX2_often_58 : decode cX2_often 58 = .ok (.ireturn, 1) := by decide +kernel
theorem dX2_sure_0 : decode cX2_sure 0 = .ok (.iconst 0, 1) := by decide +kernel
theorem dX2_sure_1 : decode cX2_sure 1 = .ok (.istore_n 3, 1) := by decide +kernel
theorem dX2_sure_2 : decode cX2_sure 2 = .ok (.iload_n 3, 1) := by decide +kernel
theorem dX2_sure_3 : decode cX2_sure 3 = .ok (.bipush 10, 2) := by decide +kernel
theorem dX2_sure_5 : decode cX2_sure 5 = .ok (.if_icmp .ge 28, 3) := by decide +kernel
theorem dX2_sure_8 : decode cX2_sure 8 = .ok (.iload_n 2, 1) := by decide +kernel
theorem dX2_sure_9 : decode cX2_sure 9 = .ok (.iload_n 3, 1) := by decide +kernel
theorem dX2_sure_10 : decode cX2_sure 10 = .ok (.ishr, 1) := by decide +kernel
theorem dX2_sure_11 : decode cX2_sure 11 = .ok (.iconst 1, 1) := by decide +kernel
theorem dX2_sure_12 : decode cX2_sure 12 = .ok (.iand, 1) := by decide +kernel
theorem dX2_sure_13 : decode cX2_sure 13 = .ok (.ifCond .ne 14, 3) := by decide +kernel
theorem dX2_sure_16 : decode cX2_sure 16 = .ok (.aload_n 0, 1) := by decide +kernel
theorem dX2_sure_17 : decode cX2_sure 17 = .ok (.iload_n 1, 1) := by decide +kernel
theorem dX2_sure_18 : decode cX2_sure 18 = .ok (.iload_n 3, 1) := by decide +kernel
theorem dX2_sure_19 : decode cX2_sure 19 = .ok (.invokevirtual 41, 3) := by decide +kernel
theorem dX2_sure_22 : decode cX2_sure 22 = .ok (.ifCond .ne 5, 3) := by decide +kernel
theorem dX2_sure_25 : decode cX2_sure 25 = .ok (.iload_n 3, 1) := by decide +kernel
theorem dX2_sure_26 : decode cX2_sure 26 = .ok (.ireturn, 1) := by decide +kernel
theorem dX2_sure_27 : decode cX2_sure 27 = .ok (.iinc 3 1, 3) := by decide +kernel
theorem dX2_sure_30 : decode cX2_sure 30 = .ok (.goto (-28), 3) := by decide +kernel
theorem dX2_sure_33 : decode cX2_sure 33 = .ok (.aload_n 0, 1) := by decide +kernel
theorem dX2_sure_34 : decode cX2_sure 34 = .ok (.iload_n 1, 1) := by decide +kernel
theorem dX2_sure_35 : decode cX2_sure 35 = .ok (.iload_n 2, 1) := by decide +kernel
theorem dX2_sure_36 : decode cX2_sure 36 = .ok (.invokestatic 9, 3) := by decide +kernel
theorem dX2_sure_39 : decode cX2_sure 39 = .ok (.ireturn, 1) := by decide +kernel
theorem dX2_half_0 : decode cX2_half 0 = .ok (.iconst (-1), 1) := by decide +kernel
theorem dX2_half_1 : decode cX2_half 1 = .ok (.istore_n 3, 1) := by decide +kernel
theorem dX2_half_2 : decode cX2_half 2 = .ok (.bipush 9, 2) := by decide +kernel
theorem dX2_half_4 : decode cX2_half 4 = .ok (.istore 4, 2) := by decide +kernel
theorem dX2_half_6 : decode cX2_half 6 = .ok (.iconst 0, 1) := by decide +kernel
theorem dX2_half_7 : decode cX2_half 7 = .ok (.istore 5, 2) := by decide +kernel
theorem dX2_half_9 : decode cX2_half 9 = .ok (.iload 5, 2) := by decide +kernel
theorem dX2_half_11 : decode cX2_half 11 = .ok (.bipush 10, 2) := by decide +kernel
theorem dX2_half_13 : decode cX2_half 13 = .ok (.if_icmp .ge 55, 3) := by decide +kernel
theorem dX2_half_16 : decode cX2_half 16 = .ok (.iconst 2, 1) := by decide +kernel
theorem dX2_half_17 : decode cX2_half 17 = .ok (.iload_n 1, 1) := by decide +kernel
theorem dX2_half_18 : decode cX2_half 18 = .ok (.aload_n 0, 1) := by decide +kernel
theorem dX2_half_19 : decode cX2_half 19 = .ok (.iload 5, 2) := by decide +kernel
theorem dX2_half_21 : decode cX2_half 21 = .ok (.invokevirtual 31, 3) := by decide +kernel
theorem dX2_half_24 : decode cX2_half 24 = .ok (.iand, 1) := by decide +kernel
theorem dX2_half_25 : decode cX2_half 25 = .ok (.invokestatic 36, 3) := by decide +kernel
theorem dX2_half_28 : decode cX2_half 28 = .ok (.imul, 1) := by decide +kernel
theorem dX2_half_29 : decode cX2_half 29 = .ok (.iload_n 1, 1) := by decide +kernel
theorem dX2_half_30 : decode cX2_half 30 = .ok (.invokestatic 36, 3) := by decide +kernel
theorem dX2_half_33 : decode cX2_half 33 = .ok (.isub, 1) := by decide +kernel
theorem dX2_half_34 : decode cX2_half 34 = .ok (.invokestatic 45, 3) := by decide +kernel
theorem dX2_half_37 : decode cX2_half 37 = .ok (.istore 6, 2) := by decide +kernel
theorem dX2_half_39 : decode cX2_half 39 = .ok (.iload_n 2, 1) := by decide +kernel
theorem dX2_half_40 : decode cX2_half 40 = .ok (.iload 5, 2) := by decide +kernel
theorem dX2_half_42 : decode cX2_half 42 = .ok (.ishr, 1) := by decide +kernel
theorem dX2_half_43 : decode cX2_half 43 = .ok (.iconst 1, 1) := by decide +kernel
theorem dX2_half_44 : decode cX2_half 44 = .ok (.iand, 1) := by decide +kernel
theorem dX2_half_45 : decode cX2_half 45 = .ok (.ifCond .ne 17, 3) := by decide +kernel
theorem dX2_half_48 : decode cX2_half 48 = .ok (.iload 6, 2) := by decide +kernel
theorem dX2_half_50 : decode cX2_half 50 = .ok (.iload 4, 2) := by decide +kernel
theorem dX2_half_52 : decode cX2_half 52 = .ok (.if_icmp .ge 10, 3) := by decide +kernel
theorem dX2_half_55 : decode cX2_half 55 = .ok (.iload 5, 2) := by decide +kernel
theorem dX2_half_57 : decode cX2_half 57 = .ok (.istore_n 3, 1) := by decide +kernel
theorem dX2_half_58 : decode cX2_half 58 = .ok (.iload 6, 2) := by decide +kernel
theorem dX2_half_60 : decode cX2_half 60 = .ok (.istore 4, 2) := by decide +kernel
theorem dX2_half_62 : decode cX2_half 62 = .ok (.iinc 5 1, 3) := by decide +kernel
theorem dX2_half_65 : decode cX2_half 65 = .ok (.goto (-56), 3) := by decide +kernel
theorem dX2_half_68 : decode cX2_half 68 = .ok (.iload_n 3, 1) := by decide +kernel
theorem dX2_half_69 : decode cX2_half 69 = .ok (.ireturn, 1) := by decide +kernel
theorem dX2_first_0 : decode cX2_first 0 = .ok (.iload_n 1, 1) := by decide +kernel
theorem dX2_first_1 : decode cX2_first 1 = .ok (.ifCond .eq 26, 3) := by decide +kernel
theorem dX2_first_4 : decode cX2_first 4 = .ok (.aload_n 0, 1) := by decide +kernel
theorem dX2_first_5 : decode cX2_first 5 = .ok (.iload_n 1, 1) := by decide +kernel
theorem dX2_first_6 : decode cX2_first 6 = .ok (.invokestatic 50, 3) := by decide +kernel
theorem dX2_first_9 : decode cX2_first 9 = .ok (.invokevirtual 53, 3) := by decide +kernel
theorem dX2_first_12 : decode cX2_first 12 = .ok (.sipush 1000, 3) := by decide +kernel
theorem dX2_first_15 : decode cX2_first 15 = .ok (.idiv, 1) := by decide +kernel
theorem dX2_first_16 : decode cX2_first 16 = .ok (.istore_n 3, 1) := by decide +kernel
theorem dX2_first_17 : decode cX2_first 17 = .ok (.iload_n 2, 1) := by decide +kernel
theorem dX2_first_18 : decode cX2_first 18 = .ok (.iload_n 3, 1) := by decide +kernel
theorem dX2_first_19 : decode cX2_first 19 = .ok (.ishr, 1) := by decide +kernel
theorem dX2_first_20 : decode cX2_first 20 = .ok (.iconst 1, 1) := by decide +kernel
theorem dX2_first_21 : decode cX2_first 21 = .ok (.iand, 1) := by decide +kernel
theorem dX2_first_22 : decode cX2_first 22 = .ok (.ifCond .ne 5, 3) := by decide +kernel
theorem dX2_first_25 : decode cX2_first 25 = .ok (.iload_n 3, 1) := by decide +kernel
theorem dX2_first_26 : decode cX2_first 26 = .ok (.ireturn, 1) := by decide +kernel
theorem dX2_first_27 : decode cX2_first 27 = .ok (.aload_n 0, 1) := by decide +kernel
theorem dX2_first_28 : decode cX2_first 28 = .ok (.iload_n 1, 1) := by decide +kernel
theorem dX2_first_29 : decode cX2_first 29 = .ok (.iload_n 2, 1) := by decide +kernel
theorem dX2_first_30 : decode cX2_first 30 = .ok (.invokestatic 9, 3) := by decide +kernel
theorem dX2_first_33 : decode cX2_first 33 = .ok (.ireturn, 1) := by decide +kernel
theorem dX3_reply_0 : decode cX3_reply 0 = .ok (.iload_n 2, 1) := by decide +kernel
theorem dX3_reply_1 : decode cX3_reply 1 = .ok (.iload_n 3, 1) := by decide +kernel
theorem dX3_reply_2 : decode cX3_reply 2 = .ok (.invokestatic 7, 3) := by decide +kernel
theorem dX3_reply_5 : decode cX3_reply 5 = .ok (.istore 6, 2) := by decide +kernel
theorem dX3_reply_7 : decode cX3_reply 7 = .ok (.iload_n 0, 1) := by decide +kernel
theorem dX3_reply_8 : decode cX3_reply 8 = .ok (.iload 4, 2) := by decide +kernel
theorem dX3_reply_10 : decode cX3_reply 10 = .ok (.invokestatic 13, 3) := by decide +kernel
theorem dX3_reply_13 : decode cX3_reply 13 = .ok (.tableswitch 104 1 5 #[35, 43, 65, 104, 73], 35) := by decide +kernel
theorem dX3_reply_48 : decode cX3_reply 48 = .ok (.aload_n 1, 1) := by decide +kernel
theorem dX3_reply_49 : decode cX3_reply 49 = .ok (.iload_n 3, 1) := by decide +kernel
theorem dX3_reply_50 : decode cX3_reply 50 = .ok (.iload 5, 2) := by decide +kernel
theorem dX3_reply_52 : decode cX3_reply 52 = .ok (.invokevirtual 16, 3) := by decide +kernel
theorem dX3_reply_55 : decode cX3_reply 55 = .ok (.ireturn, 1) := by decide +kernel
theorem dX3_reply_56 : decode cX3_reply 56 = .ok (.aload_n 1, 1) := by decide +kernel
theorem dX3_reply_57 : decode cX3_reply 57 = .ok (.iload_n 3, 1) := by decide +kernel
theorem dX3_reply_58 : decode cX3_reply 58 = .ok (.iload 5, 2) := by decide +kernel
theorem dX3_reply_60 : decode cX3_reply 60 = .ok (.invokevirtual 21, 3) := by decide +kernel
theorem dX3_reply_63 : decode cX3_reply 63 = .ok (.ifCond .eq 7, 3) := by decide +kernel
theorem dX3_reply_66 : decode cX3_reply 66 = .ok (.iconst 0, 1) := by decide +kernel
theorem dX3_reply_67 : decode cX3_reply 67 = .ok (.goto 10, 3) := by decide +kernel
theorem dX3_reply_70 : decode cX3_reply 70 = .ok (.aload_n 1, 1) := by decide +kernel
theorem dX3_reply_71 : decode cX3_reply 71 = .ok (.iload_n 3, 1) := by decide +kernel
theorem dX3_reply_72 : decode cX3_reply 72 = .ok (.iload 5, 2) := by decide +kernel
theorem dX3_reply_74 : decode cX3_reply 74 = .ok (.invokevirtual 16, 3) := by decide +kernel
theorem dX3_reply_77 : decode cX3_reply 77 = .ok (.ireturn, 1) := by decide +kernel
theorem dX3_reply_78 : decode cX3_reply 78 = .ok (.aload_n 1, 1) := by decide +kernel
theorem dX3_reply_79 : decode cX3_reply 79 = .ok (.iload_n 3, 1) := by decide +kernel
theorem dX3_reply_80 : decode cX3_reply 80 = .ok (.iload 5, 2) := by decide +kernel
theorem dX3_reply_82 : decode cX3_reply 82 = .ok (.invokevirtual 25, 3) := by decide +kernel
theorem dX3_reply_85 : decode cX3_reply 85 = .ok (.ireturn, 1) := by decide +kernel
theorem dX3_reply_86 : decode cX3_reply 86 = .ok (.aload_n 1, 1) := by decide +kernel
theorem dX3_reply_87 : decode cX3_reply 87 = .ok (.iload 6, 2) := by decide +kernel
theorem dX3_reply_89 : decode cX3_reply 89 = .ok (.iload_n 3, 1) := by decide +kernel
theorem dX3_reply_90 : decode cX3_reply 90 = .ok (.iload 5, 2) := by decide +kernel
theorem dX3_reply_92 : decode cX3_reply 92 = .ok (.invokestatic 28, 3) := by decide +kernel
theorem dX3_reply_95 : decode cX3_reply 95 = .ok (.ifCond .eq 14, 3) := by decide +kernel
theorem dX3_reply_98 : decode cX3_reply 98 = .ok (.aload_n 1, 1) := by decide +kernel
theorem dX3_reply_99 : decode cX3_reply 99 = .ok (.iload 6, 2) := by decide +kernel
theorem dX3_reply_101 : decode cX3_reply 101 = .ok (.iload 5, 2) := by decide +kernel
theorem dX3_reply_103 : decode cX3_reply 103 = .ok (.invokevirtual 32, 3) := by decide +kernel
theorem dX3_reply_106 : decode cX3_reply 106 = .ok (.goto 10, 3) := by decide +kernel
theorem dX3_reply_109 : decode cX3_reply 109 = .ok (.aload_n 1, 1) := by decide +kernel
theorem dX3_reply_110 : decode cX3_reply 110 = .ok (.iload_n 3, 1) := by decide +kernel
theorem dX3_reply_111 : decode cX3_reply 111 = .ok (.iload 5, 2) := by decide +kernel
theorem dX3_reply_113 : decode cX3_reply 113 = .ok (.invokevirtual 16, 3) := by decide +kernel
theorem dX3_reply_116 : decode cX3_reply 116 = .ok (.ireturn, 1) := by decide +kernel
theorem dX3_reply_117 : decode cX3_reply 117 = .ok (.aload_n 1, 1) := by decide +kernel
theorem dX3_reply_118 : decode cX3_reply 118 = .ok (.iload 6, 2) := by decide +kernel
theorem dX3_reply_120 : decode cX3_reply 120 = .ok (.iload 5, 2) := by decide +kernel
theorem dX3_reply_122 : decode cX3_reply 122 = .ok (.invokevirtual 32, 3) := by decide +kernel
theorem dX3_reply_125 : decode cX3_reply 125 = .ok (.ireturn, 1) := by decide +kernel
theorem dX3_halfAreLike_0 : decode cX3_halfAreLike 0 = .ok (.iconst 2, 1) := by decide +kernel
theorem dX3_halfAreLike_1 : decode cX3_halfAreLike 1 = .ok (.aload_n 0, 1) := by decide +kernel
theorem dX3_halfAreLike_2 : decode cX3_halfAreLike 2 = .ok (.iload_n 1, 1) := by decide +kernel
theorem dX3_halfAreLike_3 : decode cX3_halfAreLike 3 = .ok (.iload_n 3, 1) := by decide +kernel
theorem dX3_halfAreLike_4 : decode cX3_halfAreLike 4 = .ok (.invokevirtual 35, 3) := by decide +kernel
theorem dX3_halfAreLike_7 : decode cX3_halfAreLike 7 = .ok (.iload_n 2, 1) := by decide +kernel
theorem dX3_halfAreLike_8 : decode cX3_halfAreLike 8 = .ok (.iand, 1) := by decide +kernel
theorem dX3_halfAreLike_9 : decode cX3_halfAreLike 9 = .ok (.invokestatic 38, 3) := by decide +kernel
theorem dX3_halfAreLike_12 : decode cX3_halfAreLike 12 = .ok (.imul, 1) := by decide +kernel
theorem dX3_halfAreLike_13 : decode cX3_halfAreLike 13 = .ok (.iload_n 2, 1) := by decide +kernel
theorem dX3_halfAreLike_14 : decode cX3_halfAreLike 14 = .ok (.invokestatic 38, 3) := by decide +kernel
theorem dX3_halfAreLike_17 : decode cX3_halfAreLike 17 = .ok (.if_icmp .lt 7, 3) := by decide +kernel
theorem dX3_halfAreLike_20 : decode cX3_halfAreLike 20 = .ok (.iconst 1, 1) := by decide +kernel
theorem dX3_halfAreLike_21 : decode cX3_halfAreLike 21 = .ok (.goto 4, 3) := by decide +kernel
theorem dX3_halfAreLike_24 : decode cX3_halfAreLike 24 = .ok (.iconst 0, 1) := by decide +kernel
theorem dX3_halfAreLike_25 : decode cX3_halfAreLike 25 = .ok (.ireturn, 1) := by decide +kernel
theorem dX3_keptOf_0 : decode cX3_keptOf 0 = .ok (.iload_n 1, 1) := by decide +kernel
theorem dX3_keptOf_1 : decode cX3_keptOf 1 = .ok (.iload_n 0, 1) := by decide +kernel
theorem dX3_keptOf_2 : decode cX3_keptOf 2 = .ok (.ishr, 1) := by decide +kernel
theorem dX3_keptOf_3 : decode cX3_keptOf 3 = .ok (.iconst 1, 1) := by decide +kernel
theorem dX3_keptOf_4 : decode cX3_keptOf 4 = .ok (.iand, 1) := by decide +kernel
theorem dX3_keptOf_5 : decode cX3_keptOf 5 = .ok (.ifCond .eq 7, 3) := by decide +kernel
theorem dX3_keptOf_8 : decode cX3_keptOf 8 = .ok (.iload_n 0, 1) := by decide +kernel
theorem dX3_keptOf_9 : decode cX3_keptOf 9 = .ok (.goto 7, 3) := by decide +kernel
theorem dX3_keptOf_12 : decode cX3_keptOf 12 = .ok (.iload_n 1, 1) := by decide +kernel
theorem dX3_keptOf_13 : decode cX3_keptOf 13 = .ok (.invokestatic 44, 3) := by decide +kernel
theorem dX3_keptOf_16 : decode cX3_keptOf 16 = .ok (.ireturn, 1) := by decide +kernel
theorem dX3_moodOf_0 : decode cX3_moodOf 0 = .ok (.iload_n 0, 1) := by decide +kernel
theorem dX3_moodOf_1 : decode cX3_moodOf 1 = .ok (.iconst 4, 1) := by decide +kernel
theorem dX3_moodOf_2 : decode cX3_moodOf 2 = .ok (.if_icmp .eq 5, 3) := by decide +kernel
theorem dX3_moodOf_5 : decode cX3_moodOf 5 = .ok (.iload_n 0, 1) := by decide +kernel
theorem dX3_moodOf_6 : decode cX3_moodOf 6 = .ok (.ireturn, 1) := by decide +kernel
theorem dX3_moodOf_7 : decode cX3_moodOf 7 = .ok (.iload_n 1, 1) := by decide +kernel
theorem dX3_moodOf_8 : decode cX3_moodOf 8 = .ok (.iconst 2, 1) := by decide +kernel
theorem dX3_moodOf_9 : decode cX3_moodOf 9 = .ok (.irem, 1) := by decide +kernel
theorem dX3_moodOf_10 : decode cX3_moodOf 10 = .ok (.iconst 1, 1) := by decide +kernel
theorem dX3_moodOf_11 : decode cX3_moodOf 11 = .ok (.if_icmp .ne 7, 3) := by decide +kernel
theorem dX3_moodOf_14 : decode cX3_moodOf 14 = .ok (.iconst 2, 1) := by decide +kernel
theorem dX3_moodOf_15 : decode cX3_moodOf 15 = .ok (.goto 4, 3) := by decide +kernel
theorem dX3_moodOf_18 : decode cX3_moodOf 18 = .ok (.iconst 0, 1) := by decide +kernel
theorem dX3_moodOf_19 : decode cX3_moodOf 19 = .ok (.ireturn, 1) := by decide +kernel
theorem dX4_init_0 : decode cX4_init 0 = .ok (.aload_n 0, 1) := by decide +kernel
theorem dX4_init_1 : decode cX4_init 1 = .ok (.invokespecial 3, 3) := by decide +kernel
theorem dX4_init_4 : decode cX4_init 4 = .ok (.aload_n 0, 1) := by decide +kernel
theorem dX4_init_5 : decode cX4_init 5 = .ok (.new 9, 3) := by decide +kernel
theorem dX4_init_8 : decode cX4_init 8 = .ok (.dup, 1) := by decide +kernel
theorem dX4_init_9 : decode cX4_init 9 = .ok (.invokespecial 11, 3) := by decide +kernel
theorem dX4_init_12 : decode cX4_init 12 = .ok (.putfield 12, 3) := by decide +kernel
theorem dX4_init_15 : decode cX4_init 15 = .ok (.aload_n 0, 1) := by decide +kernel
theorem dX4_init_16 : decode cX4_init 16 = .ok (.new 18, 3) := by decide +kernel
theorem dX4_init_19 : decode cX4_init 19 = .ok (.dup, 1) := by decide +kernel
theorem dX4_init_20 : decode cX4_init 20 = .ok (.invokespecial 20, 3) := by decide +kernel
theorem dX4_init_23 : decode cX4_init 23 = .ok (.putfield 21, 3) := by decide +kernel
theorem dX4_init_26 : decode cX4_init 26 = .ok (.return_, 1) := by decide +kernel
theorem dX4_readItems_0 : decode cX4_readItems 0 = .ok (.aload_n 0, 1) := by decide +kernel
theorem dX4_readItems_1 : decode cX4_readItems 1 = .ok (.getfield 12, 3) := by decide +kernel
theorem dX4_readItems_4 : decode cX4_readItems 4 = .ok (.invokevirtual 25, 3) := by decide +kernel
theorem dX4_readItems_7 : decode cX4_readItems 7 = .ok (.aload_n 0, 1) := by decide +kernel
theorem dX4_readItems_8 : decode cX4_readItems 8 = .ok (.getfield 21, 3) := by decide +kernel
theorem dX4_readItems_11 : decode cX4_readItems 11 = .ok (.iconst 0, 1) := by decide +kernel
theorem dX4_readItems_12 : decode cX4_readItems 12 = .ok (.invokevirtual 28, 3) := by decide +kernel
theorem dX4_readItems_15 : decode cX4_readItems 15 = .ok (.iconst 0, 1) := by decide +kernel
theorem dX4_readItems_16 : decode cX4_readItems 16 = .ok (.istore_n 1, 1) := by decide +kernel
theorem dX4_readItems_17 : decode cX4_readItems 17 = .ok (.aload_n 0, 1) := by decide +kernel
theorem dX4_readItems_18 : decode cX4_readItems 18 = .ok (.getfield 12, 3) := by decide +kernel
theorem dX4_readItems_21 : decode cX4_readItems 21 = .ok (.invokevirtual 32, 3) := by decide +kernel
theorem dX4_readItems_24 : decode cX4_readItems 24 = .ok (.iload_n 1, 1) := by decide +kernel
theorem dX4_readItems_25 : decode cX4_readItems 25 = .ok (.sipush 150, 3) := by decide +kernel
theorem dX4_readItems_28 : decode cX4_readItems 28 = .ok (.if_icmp .ge 44, 3) := by decide +kernel
theorem dX4_readItems_31 : decode cX4_readItems 31 = .ok (.aload_n 0, 1) := by decide +kernel
theorem dX4_readItems_32 : decode cX4_readItems 32 = .ok (.getfield 12, 3) := by decide +kernel
theorem dX4_readItems_35 : decode cX4_readItems 35 = .ok (.getfield 35, 3) := by decide +kernel
theorem dX4_readItems_38 : decode cX4_readItems 38 = .ok (.ifCond .eq 34, 3) := by decide +kernel
theorem dX4_readItems_41 : decode cX4_readItems 41 = .ok (.aload_n 0, 1) := by decide +kernel
theorem dX4_readItems_42 : decode cX4_readItems 42 = .ok (.iload_n 1, 1) := by decide +kernel
theorem dX4_readItems_43 : decode cX4_readItems 43 = .ok (.ifCond .ne 7, 3) := by decide +kernel
theorem dX4_readItems_46 : decode cX4_readItems 46 = .ok (.iconst 1, 1) := by decide +kernel
theorem dX4_readItems_47 : decode cX4_readItems 47 = .ok (.goto 4, 3) := by decide +kernel
theorem dX4_readItems_50 : decode cX4_readItems 50 = .ok (.iconst 0, 1) := by decide +kernel
theorem dX4_readItems_51 : decode cX4_readItems 51 = .ok (.invokevirtual 39, 3) := by decide +kernel
theorem dX4_readItems_54 : decode cX4_readItems 54 = .ok (.ifCond .ne 5, 3) := by decide +kernel
theorem dX4_readItems_57 : decode cX4_readItems 57 = .ok (.iconst 0, 1) := by decide +kernel
theorem dX4_readItems_58 : decode cX4_readItems 58 = .ok (.ireturn, 1) := by decide +kernel
theorem dX4_readItems_59 : decode cX4_readItems 59 = .ok (.iinc 1 1, 3) := by decide +kernel
theorem dX4_readItems_62 : decode cX4_readItems 62 = .ok (.aload_n 0, 1) := by decide +kernel
theorem dX4_readItems_63 : decode cX4_readItems 63 = .ok (.getfield 12, 3) := by decide +kernel
theorem dX4_readItems_66 : decode cX4_readItems 66 = .ok (.invokevirtual 32, 3) := by decide +kernel
theorem dX4_readItems_69 : decode cX4_readItems 69 = .ok (.goto (-45), 3) := by decide +kernel
theorem dX4_readItems_72 : decode cX4_readItems 72 = .ok (.iload_n 1, 1) := by decide +kernel
theorem dX4_readItems_73 : decode cX4_readItems 73 = .ok (.ireturn, 1) := by decide +kernel
theorem dX4_readItem_0 : decode cX4_readItem 0 = .ok (.aload_n 0, 1) := by decide +kernel
theorem dX4_readItem_1 : decode cX4_readItem 1 = .ok (.getfield 12, 3) := by decide +kernel
theorem dX4_readItem_4 : decode cX4_readItem 4 = .ok (.ldc 43, 2) := by decide +kernel
theorem dX4_readItem_6 : decode cX4_readItem 6 = .ok (.invokevirtual 45, 3) := by decide +kernel
theorem dX4_readItem_9 : decode cX4_readItem 9 = .ok (.ifCond .eq 20, 3) := by decide +kernel
theorem dX4_readItem_12 : decode cX4_readItem 12 = .ok (.iload_n 1, 1) := by decide +kernel
theorem dX4_readItem_13 : decode cX4_readItem 13 = .ok (.ifCond .eq 14, 3) := by decide +kernel
theorem dX4_readItem_16 : decode cX4_readItem 16 = .ok (.aload_n 0, 1) := by decide +kernel
theorem dX4_readItem_17 : decode cX4_readItem 17 = .ok (.invokevirtual 49, 3) := by decide +kernel
theorem dX4_readItem_20 : decode cX4_readItem 20 = .ok (.ifCond .eq 7, 3) := by decide +kernel
theorem dX4_readItem_23 : decode cX4_readItem 23 = .ok (.iconst 1, 1) := by decide +kernel
theorem dX4_readItem_24 : decode cX4_readItem 24 = .ok (.goto 4, 3) := by decide +kernel
theorem dX4_readItem_27 : decode cX4_readItem 27 = .ok (.iconst 0, 1) := by decide +kernel
theorem dX4_readItem_28 : decode cX4_readItem 28 = .ok (.ireturn, 1) := by decide +kernel
theorem dX4_readItem_29 : decode cX4_readItem 29 = .ok (.iload_n 1, 1) := by decide +kernel
theorem dX4_readItem_30 : decode cX4_readItem 30 = .ok (.ifCond .eq 5, 3) := by decide +kernel
theorem dX4_readItem_33 : decode cX4_readItem 33 = .ok (.iconst 0, 1) := by decide +kernel
theorem dX4_readItem_34 : decode cX4_readItem 34 = .ok (.ireturn, 1) := by decide +kernel
theorem dX4_readItem_35 : decode cX4_readItem 35 = .ok (.aload_n 0, 1) := by decide +kernel
theorem dX4_readItem_36 : decode cX4_readItem 36 = .ok (.getfield 12, 3) := by decide +kernel
theorem dX4_readItem_39 : decode cX4_readItem 39 = .ok (.ldc 53, 2) := by decide +kernel
theorem dX4_readItem_41 : decode cX4_readItem 41 = .ok (.invokevirtual 45, 3) := by decide +kernel
theorem dX4_readItem_44 : decode cX4_readItem 44 = .ok (.ifCond .eq 8, 3) := by decide +kernel
theorem dX4_readItem_47 : decode cX4_readItem 47 = .ok (.aload_n 0, 1) := by decide +kernel
theorem dX4_readItem_48 : decode cX4_readItem 48 = .ok (.invokevirtual 55, 3) := by decide +kernel
theorem dX4_readItem_51 : decode cX4_readItem 51 = .ok (.ireturn, 1) := by decide +kernel
theorem dX4_readItem_52 : decode cX4_readItem 52 = .ok (.aload_n 0, 1) := by decide +kernel
theorem dX4_readItem_53 : decode cX4_readItem 53 = .ok (.getfield 12, 3) := by decide +kernel
theorem dX4_readItem_56 : decode cX4_readItem 56 = .ok (.ldc 58, 2) := by decide +kernel
theorem dX4_readItem_58 : decode cX4_readItem 58 = .ok (.invokevirtual 45, 3) := by decide +kernel
theorem dX4_readItem_61 : decode cX4_readItem 61 = .ok (.ifCond .eq 8, 3) := by decide +kernel
theorem dX4_readItem_64 : decode cX4_readItem 64 = .ok (.aload_n 0, 1) := by decide +kernel
theorem dX4_readItem_65 : decode cX4_readItem 65 = .ok (.invokevirtual 60, 3) := by decide +kernel
theorem dX4_readItem_68 : decode cX4_readItem 68 = .ok (.ireturn, 1) := by decide +kernel
theorem dX4_readItem_69 : decode cX4_readItem 69 = .ok (.aload_n 0, 1) := by decide +kernel
theorem dX4_readItem_70 : decode cX4_readItem 70 = .ok (.getfield 12, 3) := by decide +kernel
theorem dX4_readItem_73 : decode cX4_readItem 73 = .ok (.ldc 63, 2) := by decide +kernel
theorem dX4_readItem_75 : decode cX4_readItem 75 = .ok (.invokevirtual 45, 3) := by decide +kernel
theorem dX4_readItem_78 : decode cX4_readItem 78 = .ok (.ifCond .eq 14, 3) := by decide +kernel
theorem dX4_readItem_81 : decode cX4_readItem 81 = .ok (.aload_n 0, 1) := by decide +kernel
theorem dX4_readItem_82 : decode cX4_readItem 82 = .ok (.invokevirtual 65, 3) := by decide +kernel
theorem dX4_readItem_85 : decode cX4_readItem 85 = .ok (.ifCond .eq 7, 3) := by decide +kernel
theorem dX4_readItem_88 : decode cX4_readItem 88 = .ok (.iconst 1, 1) := by decide +kernel
theorem dX4_readItem_89 : decode cX4_readItem 89 = .ok (.goto 4, 3) := by decide +kernel
theorem dX4_readItem_92 : decode cX4_readItem 92 = .ok (.iconst 0, 1) := by decide +kernel
theorem dX4_readItem_93 : decode cX4_readItem 93 = .ok (.ireturn, 1) := by decide +kernel
theorem dX4_readKind_0 : decode cX4_readKind 0 = .ok (.aload_n 0, 1) := by decide +kernel
theorem dX4_readKind_1 : decode cX4_readKind 1 = .ok (.bipush 6, 2) := by decide +kernel
theorem dX4_readKind_3 : decode cX4_readKind 3 = .ok (.invokevirtual 68, 3) := by decide +kernel
theorem dX4_readKind_6 : decode cX4_readKind 6 = .ok (.ifCond .ne 5, 3) := by decide +kernel
theorem dX4_readKind_9 : decode cX4_readKind 9 = .ok (.iconst 0, 1) := by decide +kernel
theorem dX4_readKind_10 : decode cX4_readKind 10 = .ok (.ireturn, 1) := by decide +kernel
theorem dX4_readKind_11 : decode cX4_readKind 11 = .ok (.aload_n 0, 1) := by decide +kernel
theorem dX4_readKind_12 : decode cX4_readKind 12 = .ok (.getfield 21, 3) := by decide +kernel
theorem dX4_readKind_15 : decode cX4_readKind 15 = .ok (.aload_n 0, 1) := by decide +kernel
theorem dX4_readKind_16 : decode cX4_readKind 16 = .ok (.getfield 12, 3) := by decide +kernel
theorem dX4_readKind_19 : decode cX4_readKind 19 = .ok (.getfield 72, 3) := by decide +kernel
theorem dX4_readKind_22 : decode cX4_readKind 22 = .ok (.putfield 75, 3) := by decide +kernel
theorem dX4_readKind_25 : decode cX4_readKind 25 = .ok (.aload_n 0, 1) := by decide +kernel
theorem dX4_readKind_26 : decode cX4_readKind 26 = .ok (.invokevirtual 78, 3) := by decide +kernel
theorem dX4_readKind_29 : decode cX4_readKind 29 = .ok (.ireturn, 1) := by decide +kernel
theorem dX4_readWord_0 : decode cX4_readWord 0 = .ok (.aload_n 0, 1) := by decide +kernel
theorem dX4_readWord_1 : decode cX4_readWord 1 = .ok (.getfield 21, 3) := by decide +kernel
theorem dX4_readWord_4 : decode cX4_readWord 4 = .ok (.getfield 81, 3) := by decide +kernel
theorem dX4_readWord_7 : decode cX4_readWord 7 = .ok (.getfield 85, 3) := by decide +kernel
theorem dX4_readWord_10 : decode cX4_readWord 10 = .ok (.bipush 8, 2) := by decide +kernel
theorem dX4_readWord_12 : decode cX4_readWord 12 = .ok (.if_icmp .ge 16, 3) := by decide +kernel
theorem dX4_readWord_15 : decode cX4_readWord 15 = .ok (.aload_n 0, 1) := by decide +kernel
theorem dX4_readWord_16 : decode cX4_readWord 16 = .ok (.getfield 21, 3) := by decide +kernel
theorem dX4_readWord_19 : decode cX4_readWord 19 = .ok (.getfield 90, 3) := by decide +kernel
theorem dX4_readWord_22 : decode cX4_readWord 22 = .ok (.getfield 93, 3) := by decide +kernel
theorem dX4_readWord_25 : decode cX4_readWord 25 = .ok (.ifCond .eq 5, 3) := by decide +kernel
theorem dX4_readWord_28 : decode cX4_readWord 28 = .ok (.iconst 0, 1) := by decide +kernel
theorem dX4_readWord_29 : decode cX4_readWord 29 = .ok (.ireturn, 1) := by decide +kernel
theorem dX4_readWord_30 : decode cX4_readWord 30 = .ok (.iconst 0, 1) := by decide +kernel
theorem dX4_readWord_31 : decode cX4_readWord 31 = .ok (.istore_n 1, 1) := by decide +kernel
theorem dX4_readWord_32 : decode cX4_readWord 32 = .ok (.iconst 0, 1) := by decide +kernel
theorem dX4_readWord_33 : decode cX4_readWord 33 = .ok (.istore_n 2, 1) := by decide +kernel
theorem dX4_readWord_34 : decode cX4_readWord 34 = .ok (.iload_n 2, 1) := by decide +kernel
theorem dX4_readWord_35 : decode cX4_readWord 35 = .ok (.iconst 4, 1) := by decide +kernel
theorem dX4_readWord_36 : decode cX4_readWord 36 = .ok (.if_icmp .ge 33, 3) := by decide +kernel
theorem dX4_readWord_39 : decode cX4_readWord 39 = .ok (.aload_n 0, 1) := by decide +kernel
theorem dX4_readWord_40 : decode cX4_readWord 40 = .ok (.bipush 10, 2) := by decide +kernel
theorem dX4_readWord_42 : decode cX4_readWord 42 = .ok (.invokevirtual 68, 3) := by decide +kernel
theorem dX4_readWord_45 : decode cX4_readWord 45 = .ok (.ifCond .ne 5, 3) := by decide +kernel
theorem dX4_readWord_48 : decode cX4_readWord 48 = .ok (.iconst 0, 1) := by decide +kernel
theorem dX4_readWord_49 : decode cX4_readWord 49 = .ok (.ireturn, 1) := by decide +kernel
theorem dX4_readWord_50 : decode cX4_readWord 50 = .ok (.bipush 10, 2) := by decide +kernel
theorem dX4_readWord_52 : decode cX4_readWord 52 = .ok (.iload_n 1, 1) := by decide +kernel
theorem dX4_readWord_53 : decode cX4_readWord 53 = .ok (.imul, 1) := by decide +kernel
theorem dX4_readWord_54 : decode cX4_readWord 54 = .ok (.aload_n 0, 1) := by decide +kernel
theorem dX4_readWord_55 : decode cX4_readWord 55 = .ok (.getfield 12, 3) := by decide +kernel
theorem dX4_readWord_58 : decode cX4_readWord 58 = .ok (.getfield 72, 3) := by decide +kernel
theorem dX4_readWord_61 : decode cX4_readWord 61 = .ok (.iadd, 1) := by decide +kernel
theorem dX4_readWord_62 : decode cX4_readWord 62 = .ok (.istore_n 1, 1) := by decide +kernel
theorem dX4_readWord_63 : decode cX4_readWord 63 = .ok (.iinc 2 1, 3) := by decide +kernel
theorem dX4_readWord_66 : decode cX4_readWord 66 = .ok (.goto (-32), 3) := by decide +kernel
theorem dX4_readWord_69 : decode cX4_readWord 69 = .ok (.aload_n 0, 1) := by decide +kernel
theorem dX4_readWord_70 : decode cX4_readWord 70 = .ok (.getfield 21, 3) := by decide +kernel
theorem dX4_readWord_73 : decode cX4_readWord 73 = .ok (.getfield 81, 3) := by decide +kernel
theorem dX4_readWord_76 : decode cX4_readWord 76 = .ok (.iload_n 1, 1) := by decide +kernel
theorem dX4_readWord_77 : decode cX4_readWord 77 = .ok (.invokevirtual 98, 3) := by decide +kernel
theorem dX4_readWord_80 : decode cX4_readWord 80 = .ok (.iconst (-1), 1) := by decide +kernel
theorem dX4_readWord_81 : decode cX4_readWord 81 = .ok (.if_icmp .eq 5, 3) := by decide +kernel
theorem dX4_readWord_84 : decode cX4_readWord 84 = .ok (.iconst 0, 1) := by decide +kernel
theorem dX4_readWord_85 : decode cX4_readWord 85 = .ok (.ireturn, 1) := by decide +kernel
theorem dX4_readWord_86 : decode cX4_readWord 86 = .ok (.aload_n 0, 1) := by decide +kernel
theorem dX4_readWord_87 : decode cX4_readWord 87 = .ok (.getfield 21, 3) := by decide +kernel
theorem dX4_readWord_90 : decode cX4_readWord 90 = .ok (.iload_n 1, 1) := by decide +kernel
theorem dX4_readWord_91 : decode cX4_readWord 91 = .ok (.invokevirtual 102, 3) := by decide +kernel
theorem dX4_readWord_94 : decode cX4_readWord 94 = .ok (.aload_n 0, 1) := by decide +kernel
theorem dX4_readWord_95 : decode cX4_readWord 95 = .ok (.invokevirtual 78, 3) := by decide +kernel
theorem dX4_readWord_98 : decode cX4_readWord 98 = .ok (.ireturn, 1) := by decide +kernel
theorem dX4_readSecret_0 : decode cX4_readSecret 0 = .ok (.aload_n 0, 1) := by decide +kernel
theorem dX4_readSecret_1 : decode cX4_readSecret 1 = .ok (.aload_n 0, 1) := by decide +kernel
theorem dX4_readSecret_2 : decode cX4_readSecret 2 = .ok (.getfield 21, 3) := by decide +kernel
theorem dX4_readSecret_5 : decode cX4_readSecret 5 = .ok (.getfield 81, 3) := by decide +kernel
theorem dX4_readSecret_8 : decode cX4_readSecret 8 = .ok (.getfield 85, 3) := by decide +kernel
theorem dX4_readSecret_11 : decode cX4_readSecret 11 = .ok (.invokevirtual 68, 3) := by decide +kernel
theorem dX4_readSecret_14 : decode cX4_readSecret 14 = .ok (.ifCond .ne 5, 3) := by decide +kernel
theorem dX4_readSecret_17 : decode cX4_readSecret 17 = .ok (.iconst 0, 1) := by decide +kernel
theorem dX4_readSecret_18 : decode cX4_readSecret 18 = .ok (.ireturn, 1) := by decide +kernel
theorem dX4_readSecret_19 : decode cX4_readSecret 19 = .ok (.aload_n 0, 1) := by decide +kernel
theorem dX4_readSecret_20 : decode cX4_readSecret 20 = .ok (.getfield 21, 3) := by decide +kernel
theorem dX4_readSecret_23 : decode cX4_readSecret 23 = .ok (.aload_n 0, 1) := by decide +kernel
theorem dX4_readSecret_24 : decode cX4_readSecret 24 = .ok (.getfield 12, 3) := by decide +kernel
theorem dX4_readSecret_27 : decode cX4_readSecret 27 = .ok (.getfield 72, 3) := by decide +kernel
theorem dX4_readSecret_30 : decode cX4_readSecret 30 = .ok (.putfield 105, 3) := by decide +kernel
theorem dX4_readSecret_33 : decode cX4_readSecret 33 = .ok (.aload_n 0, 1) := by decide +kernel
theorem dX4_readSecret_34 : decode cX4_readSecret 34 = .ok (.invokevirtual 78, 3) := by decide +kernel
theorem dX4_readSecret_37 : decode cX4_readSecret 37 = .ok (.ireturn, 1) := by decide +kernel
theorem dX4_readGuess_0 : decode cX4_readGuess 0 = .ok (.aload_n 0, 1) := by decide +kernel
theorem dX4_readGuess_1 : decode cX4_readGuess 1 = .ok (.bipush 10, 2) := by decide +kernel
theorem dX4_readGuess_3 : decode cX4_readGuess 3 = .ok (.invokevirtual 68, 3) := by decide +kernel
theorem dX4_readGuess_6 : decode cX4_readGuess 6 = .ok (.ifCond .eq 23, 3) := by decide +kernel
theorem dX4_readGuess_9 : decode cX4_readGuess 9 = .ok (.aload_n 0, 1) := by decide +kernel
theorem dX4_readGuess_10 : decode cX4_readGuess 10 = .ok (.getfield 21, 3) := by decide +kernel
theorem dX4_readGuess_13 : decode cX4_readGuess 13 = .ok (.getfield 90, 3) := by decide +kernel
theorem dX4_readGuess_16 : decode cX4_readGuess 16 = .ok (.aload_n 0, 1) := by decide +kernel
theorem dX4_readGuess_17 : decode cX4_readGuess 17 = .ok (.getfield 12, 3) := by decide +kernel
theorem dX4_readGuess_20 : decode cX4_readGuess 20 = .ok (.getfield 72, 3) := by decide +kernel
theorem dX4_readGuess_23 : decode cX4_readGuess 23 = .ok (.invokevirtual 107, 3) := by decide +kernel
theorem dX4_readGuess_26 : decode cX4_readGuess 26 = .ok (.ifCond .ne 5, 3) := by decide +kernel
theorem dX4_readGuess_29 : decode cX4_readGuess 29 = .ok (.iconst 0, 1) := by decide +kernel
theorem dX4_readGuess_30 : decode cX4_readGuess 30 = .ok (.ireturn, 1) := by decide +kernel
theorem dX4_readGuess_31 : decode cX4_readGuess 31 = .ok (.aload_n 0, 1) := by decide +kernel
theorem dX4_readGuess_32 : decode cX4_readGuess 32 = .ok (.getfield 21, 3) := by decide +kernel
theorem dX4_readGuess_35 : decode cX4_readGuess 35 = .ok (.aload_n 0, 1) := by decide +kernel
theorem dX4_readGuess_36 : decode cX4_readGuess 36 = .ok (.getfield 12, 3) := by decide +kernel
theorem dX4_readGuess_39 : decode cX4_readGuess 39 = .ok (.getfield 72, 3) := by decide +kernel
theorem dX4_readGuess_42 : decode cX4_readGuess 42 = .ok (.invokevirtual 110, 3) := by decide +kernel
theorem dX4_readGuess_45 : decode cX4_readGuess 45 = .ok (.pop, 1) := by decide +kernel
theorem dX4_readGuess_46 : decode cX4_readGuess 46 = .ok (.aload_n 0, 1) := by decide +kernel
theorem dX4_readGuess_47 : decode cX4_readGuess 47 = .ok (.invokevirtual 78, 3) := by decide +kernel
theorem dX4_readGuess_50 : decode cX4_readGuess 50 = .ok (.ireturn, 1) := by decide +kernel
theorem dX4_stepToNumber_0 : decode cX4_stepToNumber 0 = .ok (.aload_n 0, 1) := by decide +kernel
theorem dX4_stepToNumber_1 : decode cX4_stepToNumber 1 = .ok (.getfield 12, 3) := by decide +kernel
theorem dX4_stepToNumber_4 : decode cX4_stepToNumber 4 = .ok (.invokevirtual 32, 3) := by decide +kernel
theorem dX4_stepToNumber_7 : decode cX4_stepToNumber 7 = .ok (.aload_n 0, 1) := by decide +kernel
theorem dX4_stepToNumber_8 : decode cX4_stepToNumber 8 = .ok (.getfield 12, 3) := by decide +kernel
theorem dX4_stepToNumber_11 : decode cX4_stepToNumber 11 = .ok (.getfield 35, 3) := by decide +kernel
theorem dX4_stepToNumber_14 : decode cX4_stepToNumber 14 = .ok (.iconst 2, 1) := by decide +kernel
theorem dX4_stepToNumber_15 : decode cX4_stepToNumber 15 = .ok (.if_icmp .ne 18, 3) := by decide +kernel
theorem dX4_stepToNumber_18 : decode cX4_stepToNumber 18 = .ok (.aload_n 0, 1) := by decide +kernel
theorem dX4_stepToNumber_19 : decode cX4_stepToNumber 19 = .ok (.getfield 12, 3) := by decide +kernel
theorem dX4_stepToNumber_22 : decode cX4_stepToNumber 22 = .ok (.getfield 72, 3) := by decide +kernel
theorem dX4_stepToNumber_25 : decode cX4_stepToNumber 25 = .ok (.iload_n 1, 1) := by decide +kernel
theorem dX4_stepToNumber_26 : decode cX4_stepToNumber 26 = .ok (.if_icmp .ge 7, 3) := by decide +kernel
theorem dX4_stepToNumber_29 : decode cX4_stepToNumber 29 = .ok (.iconst 1, 1) := by decide +kernel
theorem dX4_stepToNumber_30 : decode cX4_stepToNumber 30 = .ok (.goto 4, 3) := by decide +kernel
theorem dX4_stepToNumber_33 : decode cX4_stepToNumber 33 = .ok (.iconst 0, 1) := by decide +kernel
theorem dX4_stepToNumber_34 : decode cX4_stepToNumber 34 = .ok (.ireturn, 1) := by decide +kernel
theorem dX4_stepToClose_0 : decode cX4_stepToClose 0 = .ok (.aload_n 0, 1) := by decide +kernel
theorem dX4_stepToClose_1 : decode cX4_stepToClose 1 = .ok (.getfield 12, 3) := by decide +kernel
theorem dX4_stepToClose_4 : decode cX4_stepToClose 4 = .ok (.invokevirtual 32, 3) := by decide +kernel
theorem dX4_stepToClose_7 : decode cX4_stepToClose 7 = .ok (.aload_n 0, 1) := by decide +kernel
theorem dX4_stepToClose_8 : decode cX4_stepToClose 8 = .ok (.getfield 12, 3) := by decide +kernel
theorem dX4_stepToClose_11 : decode cX4_stepToClose 11 = .ok (.getfield 35, 3) := by decide +kernel
theorem dX4_stepToClose_14 : decode cX4_stepToClose 14 = .ok (.iconst 3, 1) := by decide +kernel
theorem dX4_stepToClose_15 : decode cX4_stepToClose 15 = .ok (.if_icmp .ne 7, 3) := by decide +kernel
theorem dX4_stepToClose_18 : decode cX4_stepToClose 18 = .ok (.iconst 1, 1) := by decide +kernel
theorem dX4_stepToClose_19 : decode cX4_stepToClose 19 = .ok (.goto 4, 3) := by decide +kernel
theorem dX4_stepToClose_22 : decode cX4_stepToClose 22 = .ok (.iconst 0, 1) := by decide +kernel
theorem dX4_stepToClose_23 : decode cX4_stepToClose 23 = .ok (.ireturn, 1) := by decide +kernel
theorem dX5_init_0 : decode cX5_init 0 = .ok (.aload_n 0, 1) := by decide +kernel
theorem dX5_init_1 : decode cX5_init 1 = .ok (.invokespecial 1, 3) := by decide +kernel
theorem dX5_init_4 : decode cX5_init 4 = .ok (.aload_n 0, 1) := by decide +kernel
theorem dX5_init_5 : decode cX5_init 5 = .ok (.iload_n 1, 1) := by decide +kernel
theorem dX5_init_6 : decode cX5_init 6 = .ok (.iconst 0, 1) := by decide +kernel
theorem dX5_init_7 : decode cX5_init 7 = .ok (.invokestatic 7, 3) := by decide +kernel
theorem dX5_init_10 : decode cX5_init 10 = .ok (.iconst 4, 1) := by decide +kernel
theorem dX5_init_11 : decode cX5_init 11 = .ok (.imul, 1) := by decide +kernel
theorem dX5_init_12 : decode cX5_init 12 = .ok (.newarray .int, 2) := by decide +kernel
theorem dX5_init_14 : decode cX5_init 14 = .ok (.putfield 15, 3) := by decide +kernel
theorem dX5_init_17 : decode cX5_init 17 = .ok (.return_, 1) := by decide +kernel
theorem dX5_isFull_0 : decode cX5_isFull 0 = .ok (.aload_n 0, 1) := by decide +kernel
theorem dX5_isFull_1 : decode cX5_isFull 1 = .ok (.getfield 19, 3) := by decide +kernel
theorem dX5_isFull_4 : decode cX5_isFull 4 = .ok (.iconst 1, 1) := by decide +kernel
theorem dX5_isFull_5 : decode cX5_isFull 5 = .ok (.iadd, 1) := by decide +kernel
theorem dX5_isFull_6 : decode cX5_isFull 6 = .ok (.iconst 4, 1) := by decide +kernel
theorem dX5_isFull_7 : decode cX5_isFull 7 = .ok (.imul, 1) := by decide +kernel
theorem dX5_isFull_8 : decode cX5_isFull 8 = .ok (.aload_n 0, 1) := by decide +kernel
theorem dX5_isFull_9 : decode cX5_isFull 9 = .ok (.getfield 15, 3) := by decide +kernel
theorem dX5_isFull_12 : decode cX5_isFull 12 = .ok (.arraylength, 1) := by decide +kernel
theorem dX5_isFull_13 : decode cX5_isFull 13 = .ok (.if_icmp .le 7, 3) := by decide +kernel
theorem dX5_isFull_16 : decode cX5_isFull 16 = .ok (.iconst 1, 1) := by decide +kernel
theorem dX5_isFull_17 : decode cX5_isFull 17 = .ok (.goto 4, 3) := by decide +kernel
theorem dX5_isFull_20 : decode cX5_isFull 20 = .ok (.iconst 0, 1) := by decide +kernel
theorem dX5_isFull_21 : decode cX5_isFull 21 = .ok (.ireturn, 1) := by decide +kernel
theorem dX5_cell_0 : decode cX5_cell 0 = .ok (.iload_n 1, 1) := by decide +kernel
theorem dX5_cell_1 : decode cX5_cell 1 = .ok (.iconst 4, 1) := by decide +kernel
theorem dX5_cell_2 : decode cX5_cell 2 = .ok (.imul, 1) := by decide +kernel
theorem dX5_cell_3 : decode cX5_cell 3 = .ok (.iload_n 2, 1) := by decide +kernel
theorem dX5_cell_4 : decode cX5_cell 4 = .ok (.iadd, 1) := by decide +kernel
theorem dX5_cell_5 : decode cX5_cell 5 = .ok (.istore_n 3, 1) := by decide +kernel
theorem dX5_cell_6 : decode cX5_cell 6 = .ok (.iload_n 3, 1) := by decide +kernel
theorem dX5_cell_7 : decode cX5_cell 7 = .ok (.aload_n 0, 1) := by decide +kernel
theorem dX5_cell_8 : decode cX5_cell 8 = .ok (.getfield 15, 3) := by decide +kernel
theorem dX5_cell_11 : decode cX5_cell 11 = .ok (.arraylength, 1) := by decide +kernel
theorem dX5_cell_12 : decode cX5_cell 12 = .ok (.invokestatic 23, 3) := by decide +kernel
theorem dX5_cell_15 : decode cX5_cell 15 = .ok (.ifCond .eq 12, 3) := by decide +kernel
theorem dX5_cell_18 : decode cX5_cell 18 = .ok (.aload_n 0, 1) := by decide +kernel
theorem dX5_cell_19 : decode cX5_cell 19 = .ok (.getfield 15, 3) := by decide +kernel
theorem dX5_cell_22 : decode cX5_cell 22 = .ok (.iload_n 3, 1) := by decide +kernel
theorem dX5_cell_23 : decode cX5_cell 23 = .ok (.iaload, 1) := by decide +kernel
theorem dX5_cell_24 : decode cX5_cell 24 = .ok (.goto 4, 3) := by decide +kernel
theorem dX5_cell_27 : decode cX5_cell 27 = .ok (.iconst 0, 1) := by decide +kernel
theorem dX5_cell_28 : decode cX5_cell 28 = .ok (.ireturn, 1) := by decide +kernel
theorem dX5_add_0 : decode cX5_add 0 = .ok (.aload_n 0, 1) := by decide +kernel
theorem dX5_add_1 : decode cX5_add 1 = .ok (.invokevirtual 29, 3) := by decide +kernel
theorem dX5_add_4 : decode cX5_add 4 = .ok (.ifCond .ne 60, 3) := by decide +kernel
theorem dX5_add_7 : decode cX5_add 7 = .ok (.aload_n 0, 1) := by decide +kernel
theorem dX5_add_8 : decode cX5_add 8 = .ok (.getfield 19, 3) := by decide +kernel
theorem dX5_add_11 : decode cX5_add 11 = .ok (.iconst 4, 1) := by decide +kernel
theorem dX5_add_12 : decode cX5_add 12 = .ok (.imul, 1) := by decide +kernel
theorem dX5_add_13 : decode cX5_add 13 = .ok (.istore 5, 2) := by decide +kernel
theorem dX5_add_15 : decode cX5_add 15 = .ok (.aload_n 0, 1) := by decide +kernel
theorem dX5_add_16 : decode cX5_add 16 = .ok (.getfield 15, 3) := by decide +kernel
theorem dX5_add_19 : decode cX5_add 19 = .ok (.iload 5, 2) := by decide +kernel
theorem dX5_add_21 : decode cX5_add 21 = .ok (.iload_n 1, 1) := by decide +kernel
theorem dX5_add_22 : decode cX5_add 22 = .ok (.iastore, 1) := by decide +kernel
theorem dX5_add_23 : decode cX5_add 23 = .ok (.aload_n 0, 1) := by decide +kernel
theorem dX5_add_24 : decode cX5_add 24 = .ok (.getfield 15, 3) := by decide +kernel
theorem dX5_add_27 : decode cX5_add 27 = .ok (.iload 5, 2) := by decide +kernel
theorem dX5_add_29 : decode cX5_add 29 = .ok (.iconst 1, 1) := by decide +kernel
theorem dX5_add_30 : decode cX5_add 30 = .ok (.iadd, 1) := by decide +kernel
theorem dX5_add_31 : decode cX5_add 31 = .ok (.iload_n 2, 1) := by decide +kernel
theorem dX5_add_32 : decode cX5_add 32 = .ok (.iastore, 1) := by decide +kernel
theorem dX5_add_33 : decode cX5_add 33 = .ok (.aload_n 0, 1) := by decide +kernel
theorem dX5_add_34 : decode cX5_add 34 = .ok (.getfield 15, 3) := by decide +kernel
theorem dX5_add_37 : decode cX5_add 37 = .ok (.iload 5, 2) := by decide +kernel
theorem dX5_add_39 : decode cX5_add 39 = .ok (.iconst 2, 1) := by decide +kernel
theorem dX5_add_40 : decode cX5_add 40 = .ok (.iadd, 1) := by decide +kernel
theorem dX5_add_41 : decode cX5_add 41 = .ok (.iload_n 3, 1) := by decide +kernel
theorem dX5_add_42 : decode cX5_add 42 = .ok (.iastore, 1) := by decide +kernel
theorem dX5_add_43 : decode cX5_add 43 = .ok (.aload_n 0, 1) := by decide +kernel
theorem dX5_add_44 : decode cX5_add 44 = .ok (.getfield 15, 3) := by decide +kernel
theorem dX5_add_47 : decode cX5_add 47 = .ok (.iload 5, 2) := by decide +kernel
theorem dX5_add_49 : decode cX5_add 49 = .ok (.iconst 3, 1) := by decide +kernel
theorem dX5_add_50 : decode cX5_add 50 = .ok (.iadd, 1) := by decide +kernel
theorem dX5_add_51 : decode cX5_add 51 = .ok (.iload 4, 2) := by decide +kernel
theorem dX5_add_53 : decode cX5_add 53 = .ok (.iastore, 1) := by decide +kernel
theorem dX5_add_54 : decode cX5_add 54 = .ok (.aload_n 0, 1) := by decide +kernel
theorem dX5_add_55 : decode cX5_add 55 = .ok (.dup, 1) := by decide +kernel
theorem dX5_add_56 : decode cX5_add 56 = .ok (.getfield 19, 3) := by decide +kernel
theorem dX5_add_59 : decode cX5_add 59 = .ok (.iconst 1, 1) := by decide +kernel
theorem dX5_add_60 : decode cX5_add 60 = .ok (.iadd, 1) := by decide +kernel
theorem dX5_add_61 : decode cX5_add 61 = .ok (.putfield 19, 3) := by decide +kernel
theorem dX5_add_64 : decode cX5_add 64 = .ok (.return_, 1) := by decide +kernel
theorem dX5_dropFirst_0 : decode cX5_dropFirst 0 = .ok (.aload_n 0, 1) := by decide +kernel
theorem dX5_dropFirst_1 : decode cX5_dropFirst 1 = .ok (.getfield 19, 3) := by decide +kernel
theorem dX5_dropFirst_4 : decode cX5_dropFirst 4 = .ok (.ifCond .le 33, 3) := by decide +kernel
theorem dX5_dropFirst_7 : decode cX5_dropFirst 7 = .ok (.aload_n 0, 1) := by decide +kernel
theorem dX5_dropFirst_8 : decode cX5_dropFirst 8 = .ok (.getfield 15, 3) := by decide +kernel
theorem dX5_dropFirst_11 : decode cX5_dropFirst 11 = .ok (.iconst 4, 1) := by decide +kernel
theorem dX5_dropFirst_12 : decode cX5_dropFirst 12 = .ok (.aload_n 0, 1) := by decide +kernel
theorem dX5_dropFirst_13 : decode cX5_dropFirst 13 = .ok (.getfield 15, 3) := by decide +kernel
theorem dX5_dropFirst_16 : decode cX5_dropFirst 16 = .ok (.iconst 0, 1) := by decide +kernel
theorem dX5_dropFirst_17 : decode cX5_dropFirst 17 = .ok (.aload_n 0, 1) := by decide +kernel
theorem dX5_dropFirst_18 : decode cX5_dropFirst 18 = .ok (.getfield 15, 3) := by decide +kernel
theorem dX5_dropFirst_21 : decode cX5_dropFirst 21 = .ok (.arraylength, 1) := by decide +kernel
theorem dX5_dropFirst_22 : decode cX5_dropFirst 22 = .ok (.iconst 4, 1) := by decide +kernel
theorem dX5_dropFirst_23 : decode cX5_dropFirst 23 = .ok (.isub, 1) := by decide +kernel
theorem dX5_dropFirst_24 : decode cX5_dropFirst 24 = .ok (.invokestatic 33, 3) := by decide +kernel
theorem dX5_dropFirst_27 : decode cX5_dropFirst 27 = .ok (.aload_n 0, 1) := by decide +kernel
theorem dX5_dropFirst_28 : decode cX5_dropFirst 28 = .ok (.dup, 1) := by decide +kernel
theorem dX5_dropFirst_29 : decode cX5_dropFirst 29 = .ok (.getfield 19, 3) := by decide +kernel
theorem dX5_dropFirst_32 : decode cX5_dropFirst 32 = .ok (.iconst 1, 1) := by decide +kernel
theorem dX5_dropFirst_33 : decode cX5_dropFirst 33 = .ok (.isub, 1) := by decide +kernel
theorem dX5_dropFirst_34 : decode cX5_dropFirst 34 = .ok (.putfield 19, 3) := by decide +kernel
theorem dX5_dropFirst_37 : decode cX5_dropFirst 37 = .ok (.return_, 1) := by decide +kernel
theorem dX5_copyFrom_0 : decode cX5_copyFrom 0 = .ok (.aload_n 0, 1) := by decide +kernel
theorem dX5_copyFrom_1 : decode cX5_copyFrom 1 = .ok (.aload_n 1, 1) := by decide +kernel
theorem dX5_copyFrom_2 : decode cX5_copyFrom 2 = .ok (.getfield 19, 3) := by decide +kernel
theorem dX5_copyFrom_5 : decode cX5_copyFrom 5 = .ok (.putfield 19, 3) := by decide +kernel
theorem dX5_copyFrom_8 : decode cX5_copyFrom 8 = .ok (.aload_n 1, 1) := by decide +kernel
theorem dX5_copyFrom_9 : decode cX5_copyFrom 9 = .ok (.getfield 15, 3) := by decide +kernel
theorem dX5_copyFrom_12 : decode cX5_copyFrom 12 = .ok (.iconst 0, 1) := by decide +kernel
theorem dX5_copyFrom_13 : decode cX5_copyFrom 13 = .ok (.aload_n 0, 1) := by decide +kernel
theorem dX5_copyFrom_14 : decode cX5_copyFrom 14 = .ok (.getfield 15, 3) := by decide +kernel
theorem dX5_copyFrom_17 : decode cX5_copyFrom 17 = .ok (.iconst 0, 1) := by decide +kernel
theorem dX5_copyFrom_18 : decode cX5_copyFrom 18 = .ok (.aload_n 0, 1) := by decide +kernel
theorem dX5_copyFrom_19 : decode cX5_copyFrom 19 = .ok (.getfield 15, 3) := by decide +kernel
theorem dX5_copyFrom_22 : decode cX5_copyFrom 22 = .ok (.arraylength, 1) := by decide +kernel
theorem dX5_copyFrom_23 : decode cX5_copyFrom 23 = .ok (.aload_n 1, 1) := by decide +kernel
theorem dX5_copyFrom_24 : decode cX5_copyFrom 24 = .ok (.getfield 15, 3) := by decide +kernel
theorem dX5_copyFrom_27 : decode cX5_copyFrom 27 = .ok (.arraylength, 1) := by decide +kernel
theorem dX5_copyFrom_28 : decode cX5_copyFrom 28 = .ok (.invokestatic 39, 3) := by decide +kernel
theorem dX5_copyFrom_31 : decode cX5_copyFrom 31 = .ok (.invokestatic 33, 3) := by decide +kernel
theorem dX5_copyFrom_34 : decode cX5_copyFrom 34 = .ok (.return_, 1) := by decide +kernel
theorem dX5_digestOn_0 : decode cX5_digestOn 0 = .ok (.lload_n 1, 1) := by decide +kernel
theorem dX5_digestOn_1 : decode cX5_digestOn 1 = .ok (.lstore 4, 2) := by decide +kernel
theorem dX5_digestOn_3 : decode cX5_digestOn 3 = .ok (.iconst 0, 1) := by decide +kernel
theorem dX5_digestOn_4 : decode cX5_digestOn 4 = .ok (.istore 6, 2) := by decide +kernel
theorem dX5_digestOn_6 : decode cX5_digestOn 6 = .ok (.iload 6, 2) := by decide +kernel
theorem dX5_digestOn_8 : decode cX5_digestOn 8 = .ok (.aload_n 0, 1) := by decide +kernel
theorem dX5_digestOn_9 : decode cX5_digestOn 9 = .ok (.getfield 19, 3) := by decide +kernel
theorem dX5_digestOn_12 : decode cX5_digestOn 12 = .ok (.if_icmp .ge 42, 3) := by decide +kernel
theorem dX5_digestOn_15 : decode cX5_digestOn 15 = .ok (.iconst 0, 1) := by decide +kernel
theorem dX5_digestOn_16 : decode cX5_digestOn 16 = .ok (.istore 7, 2) := by decide +kernel
theorem dX5_digestOn_18 : decode cX5_digestOn 18 = .ok (.iload 7, 2) := by decide +kernel
theorem dX5_digestOn_20 : decode cX5_digestOn 20 = .ok (.iload_n 3, 1) := by decide +kernel
theorem dX5_digestOn_21 : decode cX5_digestOn 21 = .ok (.if_icmp .ge 27, 3) := by decide +kernel
theorem dX5_digestOn_24 : decode cX5_digestOn 24 = .ok (.ldc2_w 42, 3) := by decide +kernel
theorem dX5_digestOn_27 : decode cX5_digestOn 27 = .ok (.lload 4, 2) := by decide +kernel
theorem dX5_digestOn_29 : decode cX5_digestOn 29 = .ok (.lmul, 1) := by decide +kernel
theorem dX5_digestOn_30 : decode cX5_digestOn 30 = .ok (.aload_n 0, 1) := by decide +kernel
theorem dX5_digestOn_31 : decode cX5_digestOn 31 = .ok (.iload 6, 2) := by decide +kernel
theorem dX5_digestOn_33 : decode cX5_digestOn 33 = .ok (.iload 7, 2) := by decide +kernel
theorem dX5_digestOn_35 : decode cX5_digestOn 35 = .ok (.invokevirtual 44, 3) := by decide +kernel
theorem dX5_digestOn_38 : decode cX5_digestOn 38 = .ok (.i2l, 1) := by decide +kernel
theorem dX5_digestOn_39 : decode cX5_digestOn 39 = .ok (.ladd, 1) := by decide +kernel
theorem dX5_digestOn_40 : decode cX5_digestOn 40 = .ok (.lstore 4, 2) := by decide +kernel
theorem dX5_digestOn_42 : decode cX5_digestOn 42 = .ok (.iinc 7 1, 3) := by decide +kernel
theorem dX5_digestOn_45 : decode cX5_digestOn 45 = .ok (.goto (-27), 3) := by decide +kernel
theorem dX5_digestOn_48 : decode cX5_digestOn 48 = .ok (.iinc 6 1, 3) := by decide +kernel
theorem dX5_digestOn_51 : decode cX5_digestOn 51 = .ok (.goto (-45), 3) := by decide +kernel
theorem dX5_digestOn_54 : decode cX5_digestOn 54 = .ok (.lload 4, 2) := by decide +kernel
theorem dX5_digestOn_56 : decode cX5_digestOn 56 = .ok (.lreturn, 1) := by decide +kernel
theorem dX6_init_0 : decode cX6_init 0 = .ok (.aload_n 0, 1) := by decide +kernel
theorem dX6_init_1 : decode cX6_init 1 = .ok (.invokespecial 3, 3) := by decide +kernel
theorem dX6_init_4 : decode cX6_init 4 = .ok (.aload_n 0, 1) := by decide +kernel
theorem dX6_init_5 : decode cX6_init 5 = .ok (.sipush 256, 3) := by decide +kernel
theorem dX6_init_8 : decode cX6_init 8 = .ok (.newarray .int, 2) := by decide +kernel
theorem dX6_init_10 : decode cX6_init 10 = .ok (.putfield 9, 3) := by decide +kernel
theorem dX6_init_13 : decode cX6_init 13 = .ok (.return_, 1) := by decide +kernel
theorem dX6_reckon_0 : decode cX6_reckon 0 = .ok (.iconst 1, 1) := by decide +kernel
theorem dX6_reckon_1 : decode cX6_reckon 1 = .ok (.istore_n 3, 1) := by decide +kernel
theorem dX6_reckon_2 : decode cX6_reckon 2 = .ok (.iload_n 3, 1) := by decide +kernel
theorem dX6_reckon_3 : decode cX6_reckon 3 = .ok (.iload_n 2, 1) := by decide +kernel
theorem dX6_reckon_4 : decode cX6_reckon 4 = .ok (.if_icmp .gt 50, 3) := by decide +kernel
theorem dX6_reckon_7 : decode cX6_reckon 7 = .ok (.iload_n 3, 1) := by decide +kernel
theorem dX6_reckon_8 : decode cX6_reckon 8 = .ok (.aload_n 0, 1) := by decide +kernel
theorem dX6_reckon_9 : decode cX6_reckon 9 = .ok (.getfield 9, 3) := by decide +kernel
theorem dX6_reckon_12 : decode cX6_reckon 12 = .ok (.arraylength, 1) := by decide +kernel
theorem dX6_reckon_13 : decode cX6_reckon 13 = .ok (.if_icmp .ge 41, 3) := by decide +kernel
theorem dX6_reckon_16 : decode cX6_reckon 16 = .ok (.iload_n 3, 1) := by decide +kernel
theorem dX6_reckon_17 : decode cX6_reckon 17 = .ok (.iload_n 2, 1) := by decide +kernel
theorem dX6_reckon_18 : decode cX6_reckon 18 = .ok (.iconst (-1), 1) := by decide +kernel
theorem dX6_reckon_19 : decode cX6_reckon 19 = .ok (.ixor, 1) := by decide +kernel
theorem dX6_reckon_20 : decode cX6_reckon 20 = .ok (.iand, 1) := by decide +kernel
theorem dX6_reckon_21 : decode cX6_reckon 21 = .ok (.ifCond .ne 27, 3) := by decide +kernel
theorem dX6_reckon_24 : decode cX6_reckon 24 = .ok (.aload_n 0, 1) := by decide +kernel
theorem dX6_reckon_25 : decode cX6_reckon 25 = .ok (.getfield 9, 3) := by decide +kernel
theorem dX6_reckon_28 : decode cX6_reckon 28 = .ok (.iload_n 3, 1) := by decide +kernel
theorem dX6_reckon_29 : decode cX6_reckon 29 = .ok (.iload_n 3, 1) := by decide +kernel
theorem dX6_reckon_30 : decode cX6_reckon 30 = .ok (.invokestatic 15, 3) := by decide +kernel
theorem dX6_reckon_33 : decode cX6_reckon 33 = .ok (.iconst 1, 1) := by decide +kernel
theorem dX6_reckon_34 : decode cX6_reckon 34 = .ok (.if_icmp .gt 7, 3) := by decide +kernel
theorem dX6_reckon_37 : decode cX6_reckon 37 = .ok (.iconst 0, 1) := by decide +kernel
theorem dX6_reckon_38 : decode cX6_reckon 38 = .ok (.goto 9, 3) := by decide +kernel
theorem dX6_reckon_41 : decode cX6_reckon 41 = .ok (.aload_n 0, 1) := by decide +kernel
theorem dX6_reckon_42 : decode cX6_reckon 42 = .ok (.aload_n 1, 1) := by decide +kernel
theorem dX6_reckon_43 : decode cX6_reckon 43 = .ok (.iload_n 3, 1) := by decide +kernel
theorem dX6_reckon_44 : decode cX6_reckon 44 = .ok (.invokevirtual 21, 3) := by decide +kernel
theorem dX6_reckon_47 : decode cX6_reckon 47 = .ok (.iastore, 1) := by decide +kernel
theorem dX6_reckon_48 : decode cX6_reckon 48 = .ok (.iinc 3 1, 3) := by decide +kernel
theorem dX6_reckon_51 : decode cX6_reckon 51 = .ok (.goto (-49), 3) := by decide +kernel
theorem dX6_reckon_54 : decode cX6_reckon 54 = .ok (.return_, 1) := by decide +kernel
theorem dX6_reckonSet_0 : decode cX6_reckonSet 0 = .ok (.bipush 10, 2) := by decide +kernel
theorem dX6_reckonSet_2 : decode cX6_reckonSet 2 = .ok (.istore_n 3, 1) := by decide +kernel
theorem dX6_reckonSet_3 : decode cX6_reckonSet 3 = .ok (.iconst 0, 1) := by decide +kernel
theorem dX6_reckonSet_4 : decode cX6_reckonSet 4 = .ok (.istore 4, 2) := by decide +kernel
theorem dX6_reckonSet_6 : decode cX6_reckonSet 6 = .ok (.iload 4, 2) := by decide +kernel
theorem dX6_reckonSet_8 : decode cX6_reckonSet 8 = .ok (.bipush 10, 2) := by decide +kernel
theorem dX6_reckonSet_10 : decode cX6_reckonSet 10 = .ok (.if_icmp .ge 32, 3) := by decide +kernel
theorem dX6_reckonSet_13 : decode cX6_reckonSet 13 = .ok (.aload_n 1, 1) := by decide +kernel
theorem dX6_reckonSet_14 : decode cX6_reckonSet 14 = .ok (.iload_n 2, 1) := by decide +kernel
theorem dX6_reckonSet_15 : decode cX6_reckonSet 15 = .ok (.iload 4, 2) := by decide +kernel
theorem dX6_reckonSet_17 : decode cX6_reckonSet 17 = .ok (.invokestatic 25, 3) := by decide +kernel
theorem dX6_reckonSet_20 : decode cX6_reckonSet 20 = .ok (.ifCond .eq 16, 3) := by decide +kernel
theorem dX6_reckonSet_23 : decode cX6_reckonSet 23 = .ok (.iload_n 3, 1) := by decide +kernel
theorem dX6_reckonSet_24 : decode cX6_reckonSet 24 = .ok (.aload_n 0, 1) := by decide +kernel
theorem dX6_reckonSet_25 : decode cX6_reckonSet 25 = .ok (.aload_n 1, 1) := by decide +kernel
theorem dX6_reckonSet_26 : decode cX6_reckonSet 26 = .ok (.iload_n 2, 1) := by decide +kernel
theorem dX6_reckonSet_27 : decode cX6_reckonSet 27 = .ok (.iload 4, 2) := by decide +kernel
theorem dX6_reckonSet_29 : decode cX6_reckonSet 29 = .ok (.invokevirtual 29, 3) := by decide +kernel
theorem dX6_reckonSet_32 : decode cX6_reckonSet 32 = .ok (.invokestatic 33, 3) := by decide +kernel
theorem dX6_reckonSet_35 : decode cX6_reckonSet 35 = .ok (.istore_n 3, 1) := by decide +kernel
theorem dX6_reckonSet_36 : decode cX6_reckonSet 36 = .ok (.iinc 4 1, 3) := by decide +kernel
theorem dX6_reckonSet_39 : decode cX6_reckonSet 39 = .ok (.goto (-33), 3) := by decide +kernel
theorem dX6_reckonSet_42 : decode cX6_reckonSet 42 = .ok (.iload_n 3, 1) := by decide +kernel
theorem dX6_reckonSet_43 : decode cX6_reckonSet 43 = .ok (.ireturn, 1) := by decide +kernel
theorem dX6_isParting_0 : decode cX6_isParting 0 = .ok (.iload_n 1, 1) := by decide +kernel
theorem dX6_isParting_1 : decode cX6_isParting 1 = .ok (.aload_n 0, 1) := by decide +kernel
theorem dX6_isParting_2 : decode cX6_isParting 2 = .ok (.iload_n 1, 1) := by decide +kernel
theorem dX6_isParting_3 : decode cX6_isParting 3 = .ok (.invokestatic 39, 3) := by decide +kernel
theorem dX6_isParting_6 : decode cX6_isParting 6 = .ok (.iload_n 2, 1) := by decide +kernel
theorem dX6_isParting_7 : decode cX6_isParting 7 = .ok (.invokevirtual 42, 3) := by decide +kernel
theorem dX6_isParting_10 : decode cX6_isParting 10 = .ok (.iconst (-1), 1) := by decide +kernel
theorem dX6_isParting_11 : decode cX6_isParting 11 = .ok (.ixor, 1) := by decide +kernel
theorem dX6_isParting_12 : decode cX6_isParting 12 = .ok (.iand, 1) := by decide +kernel
theorem dX6_isParting_13 : decode cX6_isParting 13 = .ok (.ifCond .eq 7, 3) := by decide +kernel
theorem dX6_isParting_16 : decode cX6_isParting 16 = .ok (.iconst 1, 1) := by decide +kernel
theorem dX6_isParting_17 : decode cX6_isParting 17 = .ok (.goto 4, 3) := by decide +kernel
theorem dX6_isParting_20 : decode cX6_isParting 20 = .ok (.iconst 0, 1) := by decide +kernel
theorem dX6_isParting_21 : decode cX6_isParting 21 = .ok (.ireturn, 1) := by decide +kernel
theorem dX6_worstBy_0 : decode cX6_worstBy 0 = .ok (.iconst 0, 1) := by decide +kernel
theorem dX6_worstBy_1 : decode cX6_worstBy 1 = .ok (.istore 4, 2) := by decide +kernel
theorem dX6_worstBy_3 : decode cX6_worstBy 3 = .ok (.iconst 0, 1) := by decide +kernel
theorem dX6_worstBy_4 : decode cX6_worstBy 4 = .ok (.istore 5, 2) := by decide +kernel
theorem dX6_worstBy_6 : decode cX6_worstBy 6 = .ok (.iload 5, 2) := by decide +kernel
theorem dX6_worstBy_8 : decode cX6_worstBy 8 = .ok (.aload_n 1, 1) := by decide +kernel
theorem dX6_worstBy_9 : decode cX6_worstBy 9 = .ok (.getfield 47, 3) := by decide +kernel
theorem dX6_worstBy_12 : decode cX6_worstBy 12 = .ok (.if_icmp .ge 58, 3) := by decide +kernel
theorem dX6_worstBy_15 : decode cX6_worstBy 15 = .ok (.iload_n 2, 1) := by decide +kernel
theorem dX6_worstBy_16 : decode cX6_worstBy 16 = .ok (.iload 5, 2) := by decide +kernel
theorem dX6_worstBy_18 : decode cX6_worstBy 18 = .ok (.ishr, 1) := by decide +kernel
theorem dX6_worstBy_19 : decode cX6_worstBy 19 = .ok (.iconst 1, 1) := by decide +kernel
theorem dX6_worstBy_20 : decode cX6_worstBy 20 = .ok (.iand, 1) := by decide +kernel
theorem dX6_worstBy_21 : decode cX6_worstBy 21 = .ok (.ifCond .eq 43, 3) := by decide +kernel
theorem dX6_worstBy_24 : decode cX6_worstBy 24 = .ok (.aload_n 1, 1) := by decide +kernel
theorem dX6_worstBy_25 : decode cX6_worstBy 25 = .ok (.iload 5, 2) := by decide +kernel
theorem dX6_worstBy_27 : decode cX6_worstBy 27 = .ok (.iload_n 3, 1) := by decide +kernel
theorem dX6_worstBy_28 : decode cX6_worstBy 28 = .ok (.invokevirtual 51, 3) := by decide +kernel
theorem dX6_worstBy_31 : decode cX6_worstBy 31 = .ok (.ifCond .ne 7, 3) := by decide +kernel
theorem dX6_worstBy_34 : decode cX6_worstBy 34 = .ok (.iconst 1, 1) := by decide +kernel
theorem dX6_worstBy_35 : decode cX6_worstBy 35 = .ok (.goto 4, 3) := by decide +kernel
theorem dX6_worstBy_38 : decode cX6_worstBy 38 = .ok (.iconst 0, 1) := by decide +kernel
theorem dX6_worstBy_39 : decode cX6_worstBy 39 = .ok (.istore 6, 2) := by decide +kernel
theorem dX6_worstBy_41 : decode cX6_worstBy 41 = .ok (.iload 4, 2) := by decide +kernel
theorem dX6_worstBy_43 : decode cX6_worstBy 43 = .ok (.iload 6, 2) := by decide +kernel
theorem dX6_worstBy_45 : decode cX6_worstBy 45 = .ok (.aload_n 0, 1) := by decide +kernel
theorem dX6_worstBy_46 : decode cX6_worstBy 46 = .ok (.iload_n 2, 1) := by decide +kernel
theorem dX6_worstBy_47 : decode cX6_worstBy 47 = .ok (.aload_n 1, 1) := by decide +kernel
theorem dX6_worstBy_48 : decode cX6_worstBy 48 = .ok (.iload 5, 2) := by decide +kernel
theorem dX6_worstBy_50 : decode cX6_worstBy 50 = .ok (.iload_n 3, 1) := by decide +kernel
theorem dX6_worstBy_51 : decode cX6_worstBy 51 = .ok (.invokevirtual 42, 3) := by decide +kernel
theorem dX6_worstBy_54 : decode cX6_worstBy 54 = .ok (.iand, 1) := by decide +kernel
theorem dX6_worstBy_55 : decode cX6_worstBy 55 = .ok (.invokevirtual 54, 3) := by decide +kernel
theorem dX6_worstBy_58 : decode cX6_worstBy 58 = .ok (.iadd, 1) := by decide +kernel
theorem dX6_worstBy_59 : decode cX6_worstBy 59 = .ok (.invokestatic 57, 3) := by decide +kernel
theorem dX6_worstBy_62 : decode cX6_worstBy 62 = .ok (.istore 4, 2) := by decide +kernel
theorem dX6_worstBy_64 : decode cX6_worstBy 64 = .ok (.iinc 5 1, 3) := by decide +kernel
theorem dX6_worstBy_67 : decode cX6_worstBy 67 = .ok (.goto (-61), 3) := by decide +kernel
theorem dX6_worstBy_70 : decode cX6_worstBy 70 = .ok (.iload 4, 2) := by decide +kernel
theorem dX6_worstBy_72 : decode cX6_worstBy 72 = .ok (.ireturn, 1) := by decide +kernel
theorem dX6_fewestOf_0 : decode cX6_fewestOf 0 = .ok (.iload_n 1, 1) := by decide +kernel
theorem dX6_fewestOf_1 : decode cX6_fewestOf 1 = .ok (.ifCond .eq 24, 3) := by decide +kernel
theorem dX6_fewestOf_4 : decode cX6_fewestOf 4 = .ok (.iload_n 1, 1) := by decide +kernel
theorem dX6_fewestOf_5 : decode cX6_fewestOf 5 = .ok (.aload_n 0, 1) := by decide +kernel
theorem dX6_fewestOf_6 : decode cX6_fewestOf 6 = .ok (.getfield 9, 3) := by decide +kernel
theorem dX6_fewestOf_9 : decode cX6_fewestOf 9 = .ok (.arraylength, 1) := by decide +kernel
theorem dX6_fewestOf_10 : decode cX6_fewestOf 10 = .ok (.invokestatic 60, 3) := by decide +kernel
theorem dX6_fewestOf_13 : decode cX6_fewestOf 13 = .ok (.ifCond .eq 12, 3) := by decide +kernel
theorem dX6_fewestOf_16 : decode cX6_fewestOf 16 = .ok (.aload_n 0, 1) := by decide +kernel
theorem dX6_fewestOf_17 : decode cX6_fewestOf 17 = .ok (.getfield 9, 3) := by decide +kernel
theorem dX6_fewestOf_20 : decode cX6_fewestOf 20 = .ok (.iload_n 1, 1) := by decide +kernel
theorem dX6_fewestOf_21 : decode cX6_fewestOf 21 = .ok (.iaload, 1) := by decide +kernel
theorem dX6_fewestOf_22 : decode cX6_fewestOf 22 = .ok (.goto 4, 3) := by decide +kernel
theorem dX6_fewestOf_25 : decode cX6_fewestOf 25 = .ok (.iconst 0, 1) := by decide +kernel
theorem dX6_fewestOf_26 : decode cX6_fewestOf 26 = .ok (.ireturn, 1) := by decide +kernel
theorem dX6_firstLetter_0 : decode cX6_firstLetter 0 = .ok (.iconst 0, 1) := by decide +kernel
theorem dX6_firstLetter_1 : decode cX6_firstLetter 1 = .ok (.istore_n 3, 1) := by decide +kernel
theorem dX6_firstLetter_2 : decode cX6_firstLetter 2 = .ok (.iload_n 3, 1) := by decide +kernel
theorem dX6_firstLetter_3 : decode cX6_firstLetter 3 = .ok (.bipush 10, 2) := by decide +kernel
theorem dX6_firstLetter_5 : decode cX6_firstLetter 5 = .ok (.if_icmp .ge 39, 3) := by decide +kernel
theorem dX6_firstLetter_8 : decode cX6_firstLetter 8 = .ok (.iload_n 2, 1) := by decide +kernel
theorem dX6_firstLetter_9 : decode cX6_firstLetter 9 = .ok (.ifCond .eq 35, 3) := by decide +kernel
theorem dX6_firstLetter_12 : decode cX6_firstLetter 12 = .ok (.aload_n 1, 1) := by decide +kernel
theorem dX6_firstLetter_13 : decode cX6_firstLetter 13 = .ok (.iload_n 2, 1) := by decide +kernel
theorem dX6_firstLetter_14 : decode cX6_firstLetter 14 = .ok (.iload_n 3, 1) := by decide +kernel
theorem dX6_firstLetter_15 : decode cX6_firstLetter 15 = .ok (.invokestatic 25, 3) := by decide +kernel
theorem dX6_firstLetter_18 : decode cX6_firstLetter 18 = .ok (.ifCond .eq 20, 3) := by decide +kernel
theorem dX6_firstLetter_21 : decode cX6_firstLetter 21 = .ok (.aload_n 0, 1) := by decide +kernel
theorem dX6_firstLetter_22 : decode cX6_firstLetter 22 = .ok (.aload_n 1, 1) := by decide +kernel
theorem dX6_firstLetter_23 : decode cX6_firstLetter 23 = .ok (.iload_n 2, 1) := by decide +kernel
theorem dX6_firstLetter_24 : decode cX6_firstLetter 24 = .ok (.iload_n 3, 1) := by decide +kernel
theorem dX6_firstLetter_25 : decode cX6_firstLetter 25 = .ok (.invokevirtual 29, 3) := by decide +kernel
theorem dX6_firstLetter_28 : decode cX6_firstLetter 28 = .ok (.aload_n 0, 1) := by decide +kernel
theorem dX6_firstLetter_29 : decode cX6_firstLetter 29 = .ok (.iload_n 2, 1) := by decide +kernel
theorem dX6_firstLetter_30 : decode cX6_firstLetter 30 = .ok (.invokevirtual 54, 3) := by decide +kernel
theorem dX6_firstLetter_33 : decode cX6_firstLetter 33 = .ok (.if_icmp .ne 5, 3) := by decide +kernel
theorem dX6_firstLetter_36 : decode cX6_firstLetter 36 = .ok (.iload_n 3, 1) := by decide +kernel
theorem dX6_firstLetter_37 : decode cX6_firstLetter 37 = .ok (.ireturn, 1) := by decide +kernel
theorem dX6_firstLetter_38 : decode cX6_firstLetter 38 = .ok (.iinc 3 1, 3) := by decide +kernel
theorem dX6_firstLetter_41 : decode cX6_firstLetter 41 = .ok (.goto (-39), 3) := by decide +kernel
theorem dX6_firstLetter_44 : decode cX6_firstLetter 44 = .ok (.iconst (-1), 1) := by decide +kernel
theorem dX6_firstLetter_45 : decode cX6_firstLetter 45 = .ok (.ireturn, 1) := by decide +kernel
theorem dX7_init_0 : decode cX7_init 0 = .ok (.aload_n 0, 1) := by decide +kernel
theorem dX7_init_1 : decode cX7_init 1 = .ok (.invokespecial 3, 3) := by decide +kernel
theorem dX7_init_4 : decode cX7_init 4 = .ok (.aload_n 0, 1) := by decide +kernel
theorem dX7_init_5 : decode cX7_init 5 = .ok (.new 9, 3) := by decide +kernel
theorem dX7_init_8 : decode cX7_init 8 = .ok (.dup, 1) := by decide +kernel
theorem dX7_init_9 : decode cX7_init 9 = .ok (.invokespecial 11, 3) := by decide +kernel
theorem dX7_init_12 : decode cX7_init 12 = .ok (.putfield 12, 3) := by decide +kernel
theorem dX7_init_15 : decode cX7_init 15 = .ok (.aload_n 0, 1) := by decide +kernel
theorem dX7_init_16 : decode cX7_init 16 = .ok (.new 18, 3) := by decide +kernel
theorem dX7_init_19 : decode cX7_init 19 = .ok (.dup, 1) := by decide +kernel
theorem dX7_init_20 : decode cX7_init 20 = .ok (.invokespecial 20, 3) := by decide +kernel
theorem dX7_init_23 : decode cX7_init 23 = .ok (.putfield 21, 3) := by decide +kernel
theorem dX7_init_26 : decode cX7_init 26 = .ok (.aload_n 0, 1) := by decide +kernel
theorem dX7_init_27 : decode cX7_init 27 = .ok (.new 25, 3) := by decide +kernel
theorem dX7_init_30 : decode cX7_init 30 = .ok (.dup, 1) := by decide +kernel
theorem dX7_init_31 : decode cX7_init 31 = .ok (.bipush 6, 2) := by decide +kernel
theorem dX7_init_33 : decode cX7_init 33 = .ok (.invokespecial 27, 3) := by decide +kernel
theorem dX7_init_36 : decode cX7_init 36 = .ok (.putfield 30, 3) := by decide +kernel
theorem dX7_init_39 : decode cX7_init 39 = .ok (.aload_n 0, 1) := by decide +kernel
theorem dX7_init_40 : decode cX7_init 40 = .ok (.new 25, 3) := by decide +kernel
theorem dX7_init_43 : decode cX7_init 43 = .ok (.dup, 1) := by decide +kernel
theorem dX7_init_44 : decode cX7_init 44 = .ok (.bipush 6, 2) := by decide +kernel
theorem dX7_init_46 : decode cX7_init 46 = .ok (.invokespecial 27, 3) := by decide +kernel
theorem dX7_init_49 : decode cX7_init 49 = .ok (.putfield 34, 3) := by decide +kernel
theorem dX7_init_52 : decode cX7_init 52 = .ok (.aload_n 0, 1) := by decide +kernel
theorem dX7_init_53 : decode cX7_init 53 = .ok (.new 25, 3) := by decide +kernel
theorem dX7_init_56 : decode cX7_init 56 = .ok (.dup, 1) := by decide +kernel
theorem dX7_init_57 : decode cX7_init 57 = .ok (.bipush 8, 2) := by decide +kernel
theorem dX7_init_59 : decode cX7_init 59 = .ok (.invokespecial 27, 3) := by decide +kernel
theorem dX7_init_62 : decode cX7_init 62 = .ok (.putfield 37, 3) := by decide +kernel
theorem dX7_init_65 : decode cX7_init 65 = .ok (.return_, 1) := by decide +kernel
theorem dX7_reset_0 : decode cX7_reset 0 = .ok (.aload_n 0, 1) := by decide +kernel
theorem dX7_reset_1 : decode cX7_reset 1 = .ok (.getfield 12, 3) := by decide +kernel
theorem dX7_reset_4 : decode cX7_reset 4 = .ok (.invokevirtual 40, 3) := by decide +kernel
theorem dX7_reset_7 : decode cX7_reset 7 = .ok (.aload_n 0, 1) := by decide +kernel
theorem dX7_reset_8 : decode cX7_reset 8 = .ok (.getfield 21, 3) := by decide +kernel
theorem dX7_reset_11 : decode cX7_reset 11 = .ok (.iconst 0, 1) := by decide +kernel
theorem dX7_reset_12 : decode cX7_reset 12 = .ok (.invokevirtual 43, 3) := by decide +kernel
theorem dX7_reset_15 : decode cX7_reset 15 = .ok (.aload_n 0, 1) := by decide +kernel
theorem dX7_reset_16 : decode cX7_reset 16 = .ok (.getfield 30, 3) := by decide +kernel
theorem dX7_reset_19 : decode cX7_reset 19 = .ok (.iconst 0, 1) := by decide +kernel
theorem dX7_reset_20 : decode cX7_reset 20 = .ok (.putfield 46, 3) := by decide +kernel
theorem dX7_reset_23 : decode cX7_reset 23 = .ok (.aload_n 0, 1) := by decide +kernel
theorem dX7_reset_24 : decode cX7_reset 24 = .ok (.getfield 34, 3) := by decide +kernel
theorem dX7_reset_27 : decode cX7_reset 27 = .ok (.iconst 0, 1) := by decide +kernel
theorem dX7_reset_28 : decode cX7_reset 28 = .ok (.putfield 46, 3) := by decide +kernel
theorem dX7_reset_31 : decode cX7_reset 31 = .ok (.aload_n 0, 1) := by decide +kernel
theorem dX7_reset_32 : decode cX7_reset 32 = .ok (.getfield 37, 3) := by decide +kernel
theorem dX7_reset_35 : decode cX7_reset 35 = .ok (.iconst 0, 1) := by decide +kernel
theorem dX7_reset_36 : decode cX7_reset 36 = .ok (.putfield 46, 3) := by decide +kernel
theorem dX7_reset_39 : decode cX7_reset 39 = .ok (.aload_n 0, 1) := by decide +kernel
theorem dX7_reset_40 : decode cX7_reset 40 = .ok (.iload_n 1, 1) := by decide +kernel
theorem dX7_reset_41 : decode cX7_reset 41 = .ok (.putfield 50, 3) := by decide +kernel
theorem dX7_reset_44 : decode cX7_reset 44 = .ok (.aload_n 0, 1) := by decide +kernel
theorem dX7_reset_45 : decode cX7_reset 45 = .ok (.iconst 0, 1) := by decide +kernel
theorem dX7_reset_46 : decode cX7_reset 46 = .ok (.putfield 53, 3) := by decide +kernel
theorem dX7_reset_49 : decode cX7_reset 49 = .ok (.return_, 1) := by decide +kernel
theorem dX7_copyFrom_0 : decode cX7_copyFrom 0 = .ok (.aload_n 0, 1) := by decide +kernel
theorem dX7_copyFrom_1 : decode cX7_copyFrom 1 = .ok (.getfield 12, 3) := by decide +kernel
theorem dX7_copyFrom_4 : decode cX7_copyFrom 4 = .ok (.aload_n 1, 1) := by decide +kernel
theorem dX7_copyFrom_5 : decode cX7_copyFrom 5 = .ok (.getfield 12, 3) := by decide +kernel
theorem dX7_copyFrom_8 : decode cX7_copyFrom 8 = .ok (.invokevirtual 56, 3) := by decide +kernel
theorem dX7_copyFrom_11 : decode cX7_copyFrom 11 = .ok (.aload_n 0, 1) := by decide +kernel
theorem dX7_copyFrom_12 : decode cX7_copyFrom 12 = .ok (.getfield 21, 3) := by decide +kernel
theorem dX7_copyFrom_15 : decode cX7_copyFrom 15 = .ok (.aload_n 1, 1) := by decide +kernel
theorem dX7_copyFrom_16 : decode cX7_copyFrom 16 = .ok (.getfield 21, 3) := by decide +kernel
theorem dX7_copyFrom_19 : decode cX7_copyFrom 19 = .ok (.invokevirtual 60, 3) := by decide +kernel
theorem dX7_copyFrom_22 : decode cX7_copyFrom 22 = .ok (.aload_n 0, 1) := by decide +kernel
theorem dX7_copyFrom_23 : decode cX7_copyFrom 23 = .ok (.getfield 30, 3) := by decide +kernel
theorem dX7_copyFrom_26 : decode cX7_copyFrom 26 = .ok (.aload_n 1, 1) := by decide +kernel
theorem dX7_copyFrom_27 : decode cX7_copyFrom 27 = .ok (.getfield 30, 3) := by decide +kernel
theorem dX7_copyFrom_30 : decode cX7_copyFrom 30 = .ok (.invokevirtual 63, 3) := by decide +kernel
theorem dX7_copyFrom_33 : decode cX7_copyFrom 33 = .ok (.aload_n 0, 1) := by decide +kernel
theorem dX7_copyFrom_34 : decode cX7_copyFrom 34 = .ok (.getfield 34, 3) := by decide +kernel
theorem dX7_copyFrom_37 : decode cX7_copyFrom 37 = .ok (.aload_n 1, 1) := by decide +kernel
theorem dX7_copyFrom_38 : decode cX7_copyFrom 38 = .ok (.getfield 34, 3) := by decide +kernel
theorem dX7_copyFrom_41 : decode cX7_copyFrom 41 = .ok (.invokevirtual 63, 3) := by decide +kernel
theorem dX7_copyFrom_44 : decode cX7_copyFrom 44 = .ok (.aload_n 0, 1) := by decide +kernel
theorem dX7_copyFrom_45 : decode cX7_copyFrom 45 = .ok (.getfield 37, 3) := by decide +kernel
theorem dX7_copyFrom_48 : decode cX7_copyFrom 48 = .ok (.aload_n 1, 1) := by decide +kernel
theorem dX7_copyFrom_49 : decode cX7_copyFrom 49 = .ok (.getfield 37, 3) := by decide +kernel
theorem dX7_copyFrom_52 : decode cX7_copyFrom 52 = .ok (.invokevirtual 63, 3) := by decide +kernel
theorem dX7_copyFrom_55 : decode cX7_copyFrom 55 = .ok (.aload_n 0, 1) := by decide +kernel
theorem dX7_copyFrom_56 : decode cX7_copyFrom 56 = .ok (.aload_n 1, 1) := by decide +kernel
theorem dX7_copyFrom_57 : decode cX7_copyFrom 57 = .ok (.getfield 50, 3) := by decide +kernel
theorem dX7_copyFrom_60 : decode cX7_copyFrom 60 = .ok (.putfield 50, 3) := by decide +kernel
theorem dX7_copyFrom_63 : decode cX7_copyFrom 63 = .ok (.aload_n 0, 1) := by decide +kernel
theorem dX7_copyFrom_64 : decode cX7_copyFrom 64 = .ok (.aload_n 1, 1) := by decide +kernel
theorem dX7_copyFrom_65 : decode cX7_copyFrom 65 = .ok (.getfield 53, 3) := by decide +kernel
theorem dX7_copyFrom_68 : decode cX7_copyFrom 68 = .ok (.putfield 53, 3) := by decide +kernel
theorem dX7_copyFrom_71 : decode cX7_copyFrom 71 = .ok (.return_, 1) := by decide +kernel
theorem dX7_addWord_0 : decode cX7_addWord 0 = .ok (.aload_n 0, 1) := by decide +kernel
theorem dX7_addWord_1 : decode cX7_addWord 1 = .ok (.getfield 12, 3) := by decide +kernel
theorem dX7_addWord_4 : decode cX7_addWord 4 = .ok (.iload_n 1, 1) := by decide +kernel
theorem dX7_addWord_5 : decode cX7_addWord 5 = .ok (.invokevirtual 66, 3) := by decide +kernel
theorem dX7_addWord_8 : decode cX7_addWord 8 = .ok (.aload_n 0, 1) := by decide +kernel
theorem dX7_addWord_9 : decode cX7_addWord 9 = .ok (.getfield 21, 3) := by decide +kernel
theorem dX7_addWord_12 : decode cX7_addWord 12 = .ok (.aload_n 0, 1) := by decide +kernel
theorem dX7_addWord_13 : decode cX7_addWord 13 = .ok (.getfield 12, 3) := by decide +kernel
theorem dX7_addWord_16 : decode cX7_addWord 16 = .ok (.invokevirtual 69, 3) := by decide +kernel
theorem dX7_addWord_19 : decode cX7_addWord 19 = .ok (.invokevirtual 43, 3) := by decide +kernel
theorem dX7_addWord_22 : decode cX7_addWord 22 = .ok (.aload_n 0, 1) := by decide +kernel
theorem dX7_addWord_23 : decode cX7_addWord 23 = .ok (.getfield 37, 3) := by decide +kernel
theorem dX7_addWord_26 : decode cX7_addWord 26 = .ok (.iconst 0, 1) := by decide +kernel
theorem dX7_addWord_27 : decode cX7_addWord 27 = .ok (.putfield 46, 3) := by decide +kernel
theorem dX7_addWord_30 : decode cX7_addWord 30 = .ok (.return_, 1) := by decide +kernel
theorem dX7_takeGuess_0 : decode cX7_takeGuess 0 = .ok (.aload_n 0, 1) := by decide +kernel
theorem dX7_takeGuess_1 : decode cX7_takeGuess 1 = .ok (.getfield 50, 3) := by decide +kernel
theorem dX7_takeGuess_4 : decode cX7_takeGuess 4 = .ok (.aload_n 0, 1) := by decide +kernel
theorem dX7_takeGuess_5 : decode cX7_takeGuess 5 = .ok (.getfield 12, 3) := by decide +kernel
theorem dX7_takeGuess_8 : decode cX7_takeGuess 8 = .ok (.aload_n 0, 1) := by decide +kernel
theorem dX7_takeGuess_9 : decode cX7_takeGuess 9 = .ok (.getfield 53, 3) := by decide +kernel
theorem dX7_takeGuess_12 : decode cX7_takeGuess 12 = .ok (.aload_n 0, 1) := by decide +kernel
theorem dX7_takeGuess_13 : decode cX7_takeGuess 13 = .ok (.getfield 21, 3) := by decide +kernel
theorem dX7_takeGuess_16 : decode cX7_takeGuess 16 = .ok (.getfield 73, 3) := by decide +kernel
theorem dX7_takeGuess_19 : decode cX7_takeGuess 19 = .ok (.aload_n 0, 1) := by decide +kernel
theorem dX7_takeGuess_20 : decode cX7_takeGuess 20 = .ok (.getfield 21, 3) := by decide +kernel
theorem dX7_takeGuess_23 : decode cX7_takeGuess 23 = .ok (.invokevirtual 76, 3) := by decide +kernel
theorem dX7_takeGuess_26 : decode cX7_takeGuess 26 = .ok (.iload_n 1, 1) := by decide +kernel
theorem dX7_takeGuess_27 : decode cX7_takeGuess 27 = .ok (.invokestatic 79, 3) := by decide +kernel
theorem dX7_takeGuess_30 : decode cX7_takeGuess 30 = .ok (.istore_n 2, 1) := by decide +kernel
theorem dX7_takeGuess_31 : decode cX7_takeGuess 31 = .ok (.aload_n 0, 1) := by decide +kernel
theorem dX7_takeGuess_32 : decode cX7_takeGuess 32 = .ok (.getfield 21, 3) := by decide +kernel
theorem dX7_takeGuess_35 : decode cX7_takeGuess 35 = .ok (.aload_n 0, 1) := by decide +kernel
theorem dX7_takeGuess_36 : decode cX7_takeGuess 36 = .ok (.getfield 12, 3) := by decide +kernel
theorem dX7_takeGuess_39 : decode cX7_takeGuess 39 = .ok (.iload_n 1, 1) := by decide +kernel
theorem dX7_takeGuess_40 : decode cX7_takeGuess 40 = .ok (.iload_n 2, 1) := by decide +kernel
theorem dX7_takeGuess_41 : decode cX7_takeGuess 41 = .ok (.invokevirtual 85, 3) := by decide +kernel
theorem dX7_takeGuess_44 : decode cX7_takeGuess 44 = .ok (.iload_n 2, 1) := by decide +kernel
theorem dX7_takeGuess_45 : decode cX7_takeGuess 45 = .ok (.ireturn, 1) := by decide +kernel
theorem dX7_remember_0 : decode cX7_remember 0 = .ok (.aload_n 0, 1) := by decide +kernel
theorem dX7_remember_1 : decode cX7_remember 1 = .ok (.getfield 37, 3) := by decide +kernel
theorem dX7_remember_4 : decode cX7_remember 4 = .ok (.invokevirtual 89, 3) := by decide +kernel
theorem dX7_remember_7 : decode cX7_remember 7 = .ok (.ifCond .eq 10, 3) := by decide +kernel
theorem dX7_remember_10 : decode cX7_remember 10 = .ok (.aload_n 0, 1) := by decide +kernel
theorem dX7_remember_11 : decode cX7_remember 11 = .ok (.getfield 37, 3) := by decide +kernel
theorem dX7_remember_14 : decode cX7_remember 14 = .ok (.invokevirtual 93, 3) := by decide +kernel
theorem dX7_remember_17 : decode cX7_remember 17 = .ok (.aload_n 0, 1) := by decide +kernel
theorem dX7_remember_18 : decode cX7_remember 18 = .ok (.getfield 37, 3) := by decide +kernel
theorem dX7_remember_21 : decode cX7_remember 21 = .ok (.aload_n 0, 1) := by decide +kernel
theorem dX7_remember_22 : decode cX7_remember 22 = .ok (.getfield 21, 3) := by decide +kernel
theorem dX7_remember_25 : decode cX7_remember 25 = .ok (.getfield 73, 3) := by decide +kernel
theorem dX7_remember_28 : decode cX7_remember 28 = .ok (.aload_n 0, 1) := by decide +kernel
theorem dX7_remember_29 : decode cX7_remember 29 = .ok (.getfield 21, 3) := by decide +kernel
theorem dX7_remember_32 : decode cX7_remember 32 = .ok (.getfield 96, 3) := by decide +kernel
theorem dX7_remember_35 : decode cX7_remember 35 = .ok (.aload_n 0, 1) := by decide +kernel
theorem dX7_remember_36 : decode cX7_remember 36 = .ok (.getfield 21, 3) := by decide +kernel
theorem dX7_remember_39 : decode cX7_remember 39 = .ok (.getfield 99, 3) := by decide +kernel
theorem dX7_remember_42 : decode cX7_remember 42 = .ok (.aload_n 0, 1) := by decide +kernel
theorem dX7_remember_43 : decode cX7_remember 43 = .ok (.getfield 53, 3) := by decide +kernel
theorem dX7_remember_46 : decode cX7_remember 46 = .ok (.invokevirtual 102, 3) := by decide +kernel
theorem dX7_remember_49 : decode cX7_remember 49 = .ok (.return_, 1) := by decide +kernel
theorem dX7_goBack_0 : decode cX7_goBack 0 = .ok (.aload_n 0, 1) := by decide +kernel
theorem dX7_goBack_1 : decode cX7_goBack 1 = .ok (.getfield 37, 3) := by decide +kernel
theorem dX7_goBack_4 : decode cX7_goBack 4 = .ok (.getfield 46, 3) := by decide +kernel
theorem dX7_goBack_7 : decode cX7_goBack 7 = .ok (.ifCond .le 101, 3) := by decide +kernel
theorem dX7_goBack_10 : decode cX7_goBack 10 = .ok (.aload_n 0, 1) := by decide +kernel
theorem dX7_goBack_11 : decode cX7_goBack 11 = .ok (.getfield 37, 3) := by decide +kernel
theorem dX7_goBack_14 : decode cX7_goBack 14 = .ok (.dup, 1) := by decide +kernel
theorem dX7_goBack_15 : decode cX7_goBack 15 = .ok (.getfield 46, 3) := by decide +kernel
theorem dX7_goBack_18 : decode cX7_goBack 18 = .ok (.iconst 1, 1) := by decide +kernel
theorem dX7_goBack_19 : decode cX7_goBack 19 = .ok (.isub, 1) := by decide +kernel
theorem dX7_goBack_20 : decode cX7_goBack 20 = .ok (.putfield 46, 3) := by decide +kernel
theorem dX7_goBack_23 : decode cX7_goBack 23 = .ok (.aload_n 0, 1) := by decide +kernel
theorem dX7_goBack_24 : decode cX7_goBack 24 = .ok (.getfield 21, 3) := by decide +kernel
theorem dX7_goBack_27 : decode cX7_goBack 27 = .ok (.aload_n 0, 1) := by decide +kernel
theorem dX7_goBack_28 : decode cX7_goBack 28 = .ok (.getfield 37, 3) := by decide +kernel
theorem dX7_goBack_31 : decode cX7_goBack 31 = .ok (.aload_n 0, 1) := by decide +kernel
theorem dX7_goBack_32 : decode cX7_goBack 32 = .ok (.getfield 37, 3) := by decide +kernel
theorem dX7_goBack_35 : decode cX7_goBack 35 = .ok (.getfield 46, 3) := by decide +kernel
theorem dX7_goBack_38 : decode cX7_goBack 38 = .ok (.iconst 0, 1) := by decide +kernel
theorem dX7_goBack_39 : decode cX7_goBack 39 = .ok (.invokevirtual 105, 3) := by decide +kernel
theorem dX7_goBack_42 : decode cX7_goBack 42 = .ok (.putfield 73, 3) := by decide +kernel
theorem dX7_goBack_45 : decode cX7_goBack 45 = .ok (.aload_n 0, 1) := by decide +kernel
theorem dX7_goBack_46 : decode cX7_goBack 46 = .ok (.getfield 21, 3) := by decide +kernel
theorem dX7_goBack_49 : decode cX7_goBack 49 = .ok (.aload_n 0, 1) := by decide +kernel
theorem dX7_goBack_50 : decode cX7_goBack 50 = .ok (.getfield 37, 3) := by decide +kernel
theorem dX7_goBack_53 : decode cX7_goBack 53 = .ok (.aload_n 0, 1) := by decide +kernel
theorem dX7_goBack_54 : decode cX7_goBack 54 = .ok (.getfield 37, 3) := by decide +kernel
theorem dX7_goBack_57 : decode cX7_goBack 57 = .ok (.getfield 46, 3) := by decide +kernel
theorem dX7_goBack_60 : decode cX7_goBack 60 = .ok (.iconst 1, 1) := by decide +kernel
theorem dX7_goBack_61 : decode cX7_goBack 61 = .ok (.invokevirtual 105, 3) := by decide +kernel
theorem dX7_goBack_64 : decode cX7_goBack 64 = .ok (.putfield 96, 3) := by decide +kernel
theorem dX7_goBack_67 : decode cX7_goBack 67 = .ok (.aload_n 0, 1) := by decide +kernel
theorem dX7_goBack_68 : decode cX7_goBack 68 = .ok (.getfield 21, 3) := by decide +kernel
theorem dX7_goBack_71 : decode cX7_goBack 71 = .ok (.aload_n 0, 1) := by decide +kernel
theorem dX7_goBack_72 : decode cX7_goBack 72 = .ok (.getfield 37, 3) := by decide +kernel
theorem dX7_goBack_75 : decode cX7_goBack 75 = .ok (.aload_n 0, 1) := by decide +kernel
theorem dX7_goBack_76 : decode cX7_goBack 76 = .ok (.getfield 37, 3) := by decide +kernel
theorem dX7_goBack_79 : decode cX7_goBack 79 = .ok (.getfield 46, 3) := by decide +kernel
theorem dX7_goBack_82 : decode cX7_goBack 82 = .ok (.iconst 2, 1) := by decide +kernel
theorem dX7_goBack_83 : decode cX7_goBack 83 = .ok (.invokevirtual 105, 3) := by decide +kernel
theorem dX7_goBack_86 : decode cX7_goBack 86 = .ok (.putfield 99, 3) := by decide +kernel
theorem dX7_goBack_89 : decode cX7_goBack 89 = .ok (.aload_n 0, 1) := by decide +kernel
theorem dX7_goBack_90 : decode cX7_goBack 90 = .ok (.aload_n 0, 1) := by decide +kernel
theorem dX7_goBack_91 : decode cX7_goBack 91 = .ok (.getfield 37, 3) := by decide +kernel
theorem dX7_goBack_94 : decode cX7_goBack 94 = .ok (.aload_n 0, 1) := by decide +kernel
theorem dX7_goBack_95 : decode cX7_goBack 95 = .ok (.getfield 37, 3) := by decide +kernel
theorem dX7_goBack_98 : decode cX7_goBack 98 = .ok (.getfield 46, 3) := by decide +kernel
theorem dX7_goBack_101 : decode cX7_goBack 101 = .ok (.iconst 3, 1) := by decide +kernel
theorem dX7_goBack_102 : decode cX7_goBack 102 = .ok (.invokevirtual 105, 3) := by decide +kernel
theorem dX7_goBack_105 : decode cX7_goBack 105 = .ok (.putfield 53, 3) := by decide +kernel
theorem dX7_goBack_108 : decode cX7_goBack 108 = .ok (.return_, 1) := by decide +kernel
theorem dX8_init_0 : decode cX8_init 0 = .ok (.aload_n 0, 1) := by decide +kernel
theorem dX8_init_1 : decode cX8_init 1 = .ok (.invokespecial 3, 3) := by decide +kernel
theorem dX8_init_4 : decode cX8_init 4 = .ok (.aload_n 0, 1) := by decide +kernel
theorem dX8_init_5 : decode cX8_init 5 = .ok (.sipush 150, 3) := by decide +kernel
theorem dX8_init_8 : decode cX8_init 8 = .ok (.newarray .byte, 2) := by decide +kernel
theorem dX8_init_10 : decode cX8_init 10 = .ok (.putfield 9, 3) := by decide +kernel
theorem dX8_init_13 : decode cX8_init 13 = .ok (.return_, 1) := by decide +kernel
theorem dX8_add_0 : decode cX8_add 0 = .ok (.aload_n 0, 1) := by decide +kernel
theorem dX8_add_1 : decode cX8_add 1 = .ok (.getfield 15, 3) := by decide +kernel
theorem dX8_add_4 : decode cX8_add 4 = .ok (.sipush 150, 3) := by decide +kernel
theorem dX8_add_7 : decode cX8_add 7 = .ok (.if_icmp .ge 24, 3) := by decide +kernel
theorem dX8_add_10 : decode cX8_add 10 = .ok (.aload_n 0, 1) := by decide +kernel
theorem dX8_add_11 : decode cX8_add 11 = .ok (.getfield 9, 3) := by decide +kernel
theorem dX8_add_14 : decode cX8_add 14 = .ok (.aload_n 0, 1) := by decide +kernel
theorem dX8_add_15 : decode cX8_add 15 = .ok (.getfield 15, 3) := by decide +kernel
theorem dX8_add_18 : decode cX8_add 18 = .ok (.iload_n 1, 1) := by decide +kernel
theorem dX8_add_19 : decode cX8_add 19 = .ok (.i2b, 1) := by decide +kernel
theorem dX8_add_20 : decode cX8_add 20 = .ok (.bastore, 1) := by decide +kernel
theorem dX8_add_21 : decode cX8_add 21 = .ok (.aload_n 0, 1) := by decide +kernel
theorem dX8_add_22 : decode cX8_add 22 = .ok (.dup, 1) := by decide +kernel
theorem dX8_add_23 : decode cX8_add 23 = .ok (.getfield 15, 3) := by decide +kernel
theorem dX8_add_26 : decode cX8_add 26 = .ok (.iconst 1, 1) := by decide +kernel
theorem dX8_add_27 : decode cX8_add 27 = .ok (.iadd, 1) := by decide +kernel
theorem dX8_add_28 : decode cX8_add 28 = .ok (.putfield 15, 3) := by decide +kernel
theorem dX8_add_31 : decode cX8_add 31 = .ok (.return_, 1) := by decide +kernel
theorem dX8_rewind_0 : decode cX8_rewind 0 = .ok (.aload_n 0, 1) := by decide +kernel
theorem dX8_rewind_1 : decode cX8_rewind 1 = .ok (.iconst 0, 1) := by decide +kernel
theorem dX8_rewind_2 : decode cX8_rewind 2 = .ok (.putfield 19, 3) := by decide +kernel
theorem dX8_rewind_5 : decode cX8_rewind 5 = .ok (.return_, 1) := by decide +kernel
theorem dX8_step_0 : decode cX8_step 0 = .ok (.aload_n 0, 1) := by decide +kernel
theorem dX8_step_1 : decode cX8_step 1 = .ok (.aload_n 0, 1) := by decide +kernel
theorem dX8_step_2 : decode cX8_step 2 = .ok (.aload_n 0, 1) := by decide +kernel
theorem dX8_step_3 : decode cX8_step 3 = .ok (.getfield 19, 3) := by decide +kernel
theorem dX8_step_6 : decode cX8_step 6 = .ok (.bipush 32, 2) := by decide +kernel
theorem dX8_step_8 : decode cX8_step 8 = .ok (.bipush 32, 2) := by decide +kernel
theorem dX8_step_10 : decode cX8_step 10 = .ok (.invokevirtual 22, 3) := by decide +kernel
theorem dX8_step_13 : decode cX8_step 13 = .ok (.putfield 26, 3) := by decide +kernel
theorem dX8_step_16 : decode cX8_step 16 = .ok (.aload_n 0, 1) := by decide +kernel
theorem dX8_step_17 : decode cX8_step 17 = .ok (.getfield 26, 3) := by decide +kernel
theorem dX8_step_20 : decode cX8_step 20 = .ok (.aload_n 0, 1) := by decide +kernel
theorem dX8_step_21 : decode cX8_step 21 = .ok (.getfield 15, 3) := by decide +kernel
theorem dX8_step_24 : decode cX8_step 24 = .ok (.if_icmp .ge 15, 3) := by decide +kernel
theorem dX8_step_27 : decode cX8_step 27 = .ok (.aload_n 0, 1) := by decide +kernel
theorem dX8_step_28 : decode cX8_step 28 = .ok (.getfield 9, 3) := by decide +kernel
theorem dX8_step_31 : decode cX8_step 31 = .ok (.aload_n 0, 1) := by decide +kernel
theorem dX8_step_32 : decode cX8_step 32 = .ok (.getfield 26, 3) := by decide +kernel
theorem dX8_step_35 : decode cX8_step 35 = .ok (.baload, 1) := by decide +kernel
theorem dX8_step_36 : decode cX8_step 36 = .ok (.goto 4, 3) := by decide +kernel
theorem dX8_step_39 : decode cX8_step 39 = .ok (.iconst (-1), 1) := by decide +kernel
theorem dX8_step_40 : decode cX8_step 40 = .ok (.istore_n 1, 1) := by decide +kernel
theorem dX8_step_41 : decode cX8_step 41 = .ok (.iload_n 1, 1) := by decide +kernel
theorem dX8_step_42 : decode cX8_step 42 = .ok (.ifCond .ge 19, 3) := by decide +kernel
theorem dX8_step_45 : decode cX8_step 45 = .ok (.aload_n 0, 1) := by decide +kernel
theorem dX8_step_46 : decode cX8_step 46 = .ok (.iconst 0, 1) := by decide +kernel
theorem dX8_step_47 : decode cX8_step 47 = .ok (.putfield 29, 3) := by decide +kernel
theorem dX8_step_50 : decode cX8_step 50 = .ok (.aload_n 0, 1) := by decide +kernel
theorem dX8_step_51 : decode cX8_step 51 = .ok (.aload_n 0, 1) := by decide +kernel
theorem dX8_step_52 : decode cX8_step 52 = .ok (.getfield 26, 3) := by decide +kernel
theorem dX8_step_55 : decode cX8_step 55 = .ok (.putfield 19, 3) := by decide +kernel
theorem dX8_step_58 : decode cX8_step 58 = .ok (.goto 99, 3) := by decide +kernel
theorem dX8_step_61 : decode cX8_step 61 = .ok (.iload_n 1, 1) := by decide +kernel
theorem dX8_step_62 : decode cX8_step 62 = .ok (.bipush 97, 2) := by decide +kernel
theorem dX8_step_64 : decode cX8_step 64 = .ok (.if_icmp .lt 33, 3) := by decide +kernel
theorem dX8_step_67 : decode cX8_step 67 = .ok (.iload_n 1, 1) := by decide +kernel
theorem dX8_step_68 : decode cX8_step 68 = .ok (.bipush 122, 2) := by decide +kernel
theorem dX8_step_70 : decode cX8_step 70 = .ok (.if_icmp .gt 27, 3) := by decide +kernel
theorem dX8_step_73 : decode cX8_step 73 = .ok (.aload_n 0, 1) := by decide +kernel
theorem dX8_step_74 : decode cX8_step 74 = .ok (.iconst 1, 1) := by decide +kernel
theorem dX8_step_75 : decode cX8_step 75 = .ok (.putfield 29, 3) := by decide +kernel
theorem dX8_step_78 : decode cX8_step 78 = .ok (.aload_n 0, 1) := by decide +kernel
theorem dX8_step_79 : decode cX8_step 79 = .ok (.aload_n 0, 1) := by decide +kernel
theorem dX8_step_80 : decode cX8_step 80 = .ok (.aload_n 0, 1) := by decide +kernel
theorem dX8_step_81 : decode cX8_step 81 = .ok (.getfield 26, 3) := by decide +kernel
theorem dX8_step_84 : decode cX8_step 84 = .ok (.bipush 97, 2) := by decide +kernel
theorem dX8_step_86 : decode cX8_step 86 = .ok (.bipush 122, 2) := by decide +kernel
theorem dX8_step_88 : decode cX8_step 88 = .ok (.invokevirtual 22, 3) := by decide +kernel
theorem dX8_step_91 : decode cX8_step 91 = .ok (.putfield 19, 3) := by decide +kernel
theorem dX8_step_94 : decode cX8_step 94 = .ok (.goto 63, 3) := by decide +kernel
theorem dX8_step_97 : decode cX8_step 97 = .ok (.iload_n 1, 1) := by decide +kernel
theorem dX8_step_98 : decode cX8_step 98 = .ok (.bipush 48, 2) := by decide +kernel
theorem dX8_step_100 : decode cX8_step 100 = .ok (.if_icmp .lt 32, 3) := by decide +kernel
theorem dX8_step_103 : decode cX8_step 103 = .ok (.iload_n 1, 1) := by decide +kernel
theorem dX8_step_104 : decode cX8_step 104 = .ok (.bipush 57, 2) := by decide +kernel
theorem dX8_step_106 : decode cX8_step 106 = .ok (.if_icmp .gt 26, 3) := by decide +kernel
theorem dX8_step_109 : decode cX8_step 109 = .ok (.aload_n 0, 1) := by decide +kernel
theorem dX8_step_110 : decode cX8_step 110 = .ok (.aload_n 0, 1) := by decide +kernel
theorem dX8_step_111 : decode cX8_step 111 = .ok (.aload_n 0, 1) := by decide +kernel
theorem dX8_step_112 : decode cX8_step 112 = .ok (.getfield 26, 3) := by decide +kernel
theorem dX8_step_115 : decode cX8_step 115 = .ok (.bipush 48, 2) := by decide +kernel
theorem dX8_step_117 : decode cX8_step 117 = .ok (.bipush 57, 2) := by decide +kernel
theorem dX8_step_119 : decode cX8_step 119 = .ok (.invokevirtual 22, 3) := by decide +kernel
theorem dX8_step_122 : decode cX8_step 122 = .ok (.putfield 19, 3) := by decide +kernel
theorem dX8_step_125 : decode cX8_step 125 = .ok (.aload_n 0, 1) := by decide +kernel
theorem dX8_step_126 : decode cX8_step 126 = .ok (.invokevirtual 32, 3) := by decide +kernel
theorem dX8_step_129 : decode cX8_step 129 = .ok (.goto 28, 3) := by decide +kernel
theorem dX8_step_132 : decode cX8_step 132 = .ok (.aload_n 0, 1) := by decide +kernel
theorem dX8_step_133 : decode cX8_step 133 = .ok (.iload_n 1, 1) := by decide +kernel
theorem dX8_step_134 : decode cX8_step 134 = .ok (.bipush 59, 2) := by decide +kernel
theorem dX8_step_136 : decode cX8_step 136 = .ok (.if_icmp .ne 7, 3) := by decide +kernel
theorem dX8_step_139 : decode cX8_step 139 = .ok (.iconst 3, 1) := by decide +kernel
theorem dX8_step_140 : decode cX8_step 140 = .ok (.goto 4, 3) := by decide +kernel
theorem dX8_step_143 : decode cX8_step 143 = .ok (.iconst 4, 1) := by decide +kernel
theorem dX8_step_144 : decode cX8_step 144 = .ok (.putfield 29, 3) := by decide +kernel
