/-! DECODE rows (by wip/names.py) -/
theorem zd_M_init_0 : decode zc_M_init 0 = .ok (.aload_n 0, 1) := by decide +kernel
theorem zd_M_init_1 : decode zc_M_init 1 = .ok (.invokespecial 3, 3) := by decide +kernel
theorem zd_M_init_4 : decode zc_M_init 4 = .ok (.aload_n 0, 1) := by decide +kernel
theorem zd_M_init_5 : decode zc_M_init 5 = .ok (.bipush 8, 2) := by decide +kernel
theorem zd_M_init_7 : decode zc_M_init 7 = .ok (.newarray .int, 2) := by decide +kernel
theorem zd_M_init_9 : decode zc_M_init 9 = .ok (.putfield 9, 3) := by decide +kernel
theorem zd_M_init_12 : decode zc_M_init 12 = .ok (.aload_n 0, 1) := by decide +kernel
theorem zd_M_init_13 : decode zc_M_init 13 = .ok (.bipush 8, 2) := by decide +kernel
theorem zd_M_init_15 : decode zc_M_init 15 = .ok (.newarray .int, 2) := by decide +kernel
theorem zd_M_init_17 : decode zc_M_init 17 = .ok (.putfield 15, 3) := by decide +kernel
theorem zd_M_init_20 : decode zc_M_init 20 = .ok (.aload_n 0, 1) := by decide +kernel
theorem zd_M_init_21 : decode zc_M_init 21 = .ok (.bipush 16, 2) := by decide +kernel
theorem zd_M_init_23 : decode zc_M_init 23 = .ok (.newarray .int, 2) := by decide +kernel
theorem zd_M_init_25 : decode zc_M_init 25 = .ok (.putfield 18, 3) := by decide +kernel
theorem zd_M_init_28 : decode zc_M_init 28 = .ok (.aload_n 0, 1) := by decide +kernel
theorem zd_M_init_29 : decode zc_M_init 29 = .ok (.bipush 8, 2) := by decide +kernel
theorem zd_M_init_31 : decode zc_M_init 31 = .ok (.newarray .int, 2) := by decide +kernel
theorem zd_M_init_33 : decode zc_M_init 33 = .ok (.putfield 21, 3) := by decide +kernel
theorem zd_M_init_36 : decode zc_M_init 36 = .ok (.aload_n 0, 1) := by decide +kernel
theorem zd_M_init_37 : decode zc_M_init 37 = .ok (.bipush 8, 2) := by decide +kernel
theorem zd_M_init_39 : decode zc_M_init 39 = .ok (.newarray .int, 2) := by decide +kernel
theorem zd_M_init_41 : decode zc_M_init 41 = .ok (.putfield 24, 3) := by decide +kernel
theorem zd_M_init_44 : decode zc_M_init 44 = .ok (.return_, 1) := by decide +kernel
theorem zd_M_take_0 : decode zc_M_take 0 = .ok (.aload_n 0, 1) := by decide +kernel
theorem zd_M_take_1 : decode zc_M_take 1 = .ok (.aload_n 1, 1) := by decide +kernel
theorem zd_M_take_2 : decode zc_M_take 2 = .ok (.invokestatic 27, 3) := by decide +kernel
theorem zd_M_take_5 : decode zc_M_take 5 = .ok (.putfield 33, 3) := by decide +kernel
theorem zd_M_take_8 : decode zc_M_take 8 = .ok (.aload_n 1, 1) := by decide +kernel
theorem zd_M_take_9 : decode zc_M_take 9 = .ok (.aload_n 0, 1) := by decide +kernel
theorem zd_M_take_10 : decode zc_M_take 10 = .ok (.getfield 33, 3) := by decide +kernel
theorem zd_M_take_13 : decode zc_M_take 13 = .ok (.aload_n 0, 1) := by decide +kernel
theorem zd_M_take_14 : decode zc_M_take 14 = .ok (.getfield 9, 3) := by decide +kernel
theorem zd_M_take_17 : decode zc_M_take 17 = .ok (.invokestatic 37, 3) := by decide +kernel
theorem zd_M_take_20 : decode zc_M_take 20 = .ok (.return_, 1) := by decide +kernel
theorem zd_M_power_0 : decode zc_M_power 0 = .ok (.aload_n 0, 1) := by decide +kernel
theorem zd_M_power_1 : decode zc_M_power 1 = .ok (.getstatic 41, 3) := by decide +kernel
theorem zd_M_power_4 : decode zc_M_power 4 = .ok (.getstatic 41, 3) := by decide +kernel
theorem zd_M_power_7 : decode zc_M_power 7 = .ok (.aload_n 0, 1) := by decide +kernel
theorem zd_M_power_8 : decode zc_M_power 8 = .ok (.getfield 24, 3) := by decide +kernel
theorem zd_M_power_11 : decode zc_M_power 11 = .ok (.invokevirtual 44, 3) := by decide +kernel
theorem zd_M_power_14 : decode zc_M_power 14 = .ok (.aload_n 2, 1) := by decide +kernel
theorem zd_M_power_15 : decode zc_M_power 15 = .ok (.invokestatic 27, 3) := by decide +kernel
theorem zd_M_power_18 : decode zc_M_power 18 = .ok (.istore 4, 2) := by decide +kernel
theorem zd_M_power_20 : decode zc_M_power 20 = .ok (.iload 4, 2) := by decide +kernel
theorem zd_M_power_22 : decode zc_M_power 22 = .ok (.sipush 256, 3) := by decide +kernel
theorem zd_M_power_25 : decode zc_M_power 25 = .ok (.if_icmp .ge 47, 3) := by decide +kernel
theorem zd_M_power_28 : decode zc_M_power 28 = .ok (.aload_n 0, 1) := by decide +kernel
theorem zd_M_power_29 : decode zc_M_power 29 = .ok (.aload_n 0, 1) := by decide +kernel
theorem zd_M_power_30 : decode zc_M_power 30 = .ok (.getfield 24, 3) := by decide +kernel
theorem zd_M_power_33 : decode zc_M_power 33 = .ok (.aload_n 0, 1) := by decide +kernel
theorem zd_M_power_34 : decode zc_M_power 34 = .ok (.getfield 24, 3) := by decide +kernel
theorem zd_M_power_37 : decode zc_M_power 37 = .ok (.aload_n 0, 1) := by decide +kernel
theorem zd_M_power_38 : decode zc_M_power 38 = .ok (.getfield 24, 3) := by decide +kernel
theorem zd_M_power_41 : decode zc_M_power 41 = .ok (.invokevirtual 44, 3) := by decide +kernel
theorem zd_M_power_44 : decode zc_M_power 44 = .ok (.aload_n 2, 1) := by decide +kernel
theorem zd_M_power_45 : decode zc_M_power 45 = .ok (.iload 4, 2) := by decide +kernel
theorem zd_M_power_47 : decode zc_M_power 47 = .ok (.invokestatic 48, 3) := by decide +kernel
theorem zd_M_power_50 : decode zc_M_power 50 = .ok (.ifCond .eq 16, 3) := by decide +kernel
theorem zd_M_power_53 : decode zc_M_power 53 = .ok (.aload_n 0, 1) := by decide +kernel
theorem zd_M_power_54 : decode zc_M_power 54 = .ok (.aload_n 0, 1) := by decide +kernel
theorem zd_M_power_55 : decode zc_M_power 55 = .ok (.getfield 24, 3) := by decide +kernel
theorem zd_M_power_58 : decode zc_M_power 58 = .ok (.aload_n 1, 1) := by decide +kernel
theorem zd_M_power_59 : decode zc_M_power 59 = .ok (.aload_n 0, 1) := by decide +kernel
theorem zd_M_power_60 : decode zc_M_power 60 = .ok (.getfield 24, 3) := by decide +kernel
theorem zd_M_power_63 : decode zc_M_power 63 = .ok (.invokevirtual 44, 3) := by decide +kernel
theorem zd_M_power_66 : decode zc_M_power 66 = .ok (.iinc 4 1, 3) := by decide +kernel
theorem zd_M_power_69 : decode zc_M_power 69 = .ok (.goto (-49), 3) := by decide +kernel
theorem zd_M_power_72 : decode zc_M_power 72 = .ok (.aload_n 0, 1) := by decide +kernel
theorem zd_M_power_73 : decode zc_M_power 73 = .ok (.getfield 24, 3) := by decide +kernel
theorem zd_M_power_76 : decode zc_M_power 76 = .ok (.aload_n 3, 1) := by decide +kernel
theorem zd_M_power_77 : decode zc_M_power 77 = .ok (.invokestatic 52, 3) := by decide +kernel
theorem zd_M_power_80 : decode zc_M_power 80 = .ok (.return_, 1) := by decide +kernel
theorem zd_M_multiply_0 : decode zc_M_multiply 0 = .ok (.aload_n 2, 1) := by decide +kernel
theorem zd_M_multiply_1 : decode zc_M_multiply 1 = .ok (.aload_n 0, 1) := by decide +kernel
theorem zd_M_multiply_2 : decode zc_M_multiply 2 = .ok (.getfield 33, 3) := by decide +kernel
theorem zd_M_multiply_5 : decode zc_M_multiply 5 = .ok (.aload_n 0, 1) := by decide +kernel
theorem zd_M_multiply_6 : decode zc_M_multiply 6 = .ok (.getfield 15, 3) := by decide +kernel
theorem zd_M_multiply_9 : decode zc_M_multiply 9 = .ok (.invokestatic 37, 3) := by decide +kernel
theorem zd_M_multiply_12 : decode zc_M_multiply 12 = .ok (.aload_n 1, 1) := by decide +kernel
theorem zd_M_multiply_13 : decode zc_M_multiply 13 = .ok (.aload_n 0, 1) := by decide +kernel
theorem zd_M_multiply_14 : decode zc_M_multiply 14 = .ok (.getfield 15, 3) := by decide +kernel
theorem zd_M_multiply_17 : decode zc_M_multiply 17 = .ok (.aload_n 0, 1) := by decide +kernel
theorem zd_M_multiply_18 : decode zc_M_multiply 18 = .ok (.getfield 18, 3) := by decide +kernel
theorem zd_M_multiply_21 : decode zc_M_multiply 21 = .ok (.invokestatic 56, 3) := by decide +kernel
theorem zd_M_multiply_24 : decode zc_M_multiply 24 = .ok (.aload_n 0, 1) := by decide +kernel
theorem zd_M_multiply_25 : decode zc_M_multiply 25 = .ok (.invokevirtual 57, 3) := by decide +kernel
theorem zd_M_multiply_28 : decode zc_M_multiply 28 = .ok (.aload_n 0, 1) := by decide +kernel
theorem zd_M_multiply_29 : decode zc_M_multiply 29 = .ok (.getfield 18, 3) := by decide +kernel
theorem zd_M_multiply_32 : decode zc_M_multiply 32 = .ok (.bipush 8, 2) := by decide +kernel
theorem zd_M_multiply_34 : decode zc_M_multiply 34 = .ok (.aload_n 0, 1) := by decide +kernel
theorem zd_M_multiply_35 : decode zc_M_multiply 35 = .ok (.getfield 21, 3) := by decide +kernel
theorem zd_M_multiply_38 : decode zc_M_multiply 38 = .ok (.iconst 0, 1) := by decide +kernel
theorem zd_M_multiply_39 : decode zc_M_multiply 39 = .ok (.bipush 8, 2) := by decide +kernel
theorem zd_M_multiply_41 : decode zc_M_multiply 41 = .ok (.invokestatic 60, 3) := by decide +kernel
theorem zd_M_multiply_44 : decode zc_M_multiply 44 = .ok (.aload_n 0, 1) := by decide +kernel
theorem zd_M_multiply_45 : decode zc_M_multiply 45 = .ok (.getfield 21, 3) := by decide +kernel
theorem zd_M_multiply_48 : decode zc_M_multiply 48 = .ok (.aload_n 0, 1) := by decide +kernel
theorem zd_M_multiply_49 : decode zc_M_multiply 49 = .ok (.getfield 33, 3) := by decide +kernel
theorem zd_M_multiply_52 : decode zc_M_multiply 52 = .ok (.aload_n 3, 1) := by decide +kernel
theorem zd_M_multiply_53 : decode zc_M_multiply 53 = .ok (.invokestatic 66, 3) := by decide +kernel
theorem zd_M_multiply_56 : decode zc_M_multiply 56 = .ok (.return_, 1) := by decide +kernel
theorem zd_M_reduce_0 : decode zc_M_reduce 0 = .ok (.iconst 0, 1) := by decide +kernel
theorem zd_M_reduce_1 : decode zc_M_reduce 1 = .ok (.istore_n 1, 1) := by decide +kernel
theorem zd_M_reduce_2 : decode zc_M_reduce 2 = .ok (.iload_n 1, 1) := by decide +kernel
theorem zd_M_reduce_3 : decode zc_M_reduce 3 = .ok (.bipush 8, 2) := by decide +kernel
theorem zd_M_reduce_5 : decode zc_M_reduce 5 = .ok (.if_icmp .ge 27, 3) := by decide +kernel
theorem zd_M_reduce_8 : decode zc_M_reduce 8 = .ok (.aload_n 0, 1) := by decide +kernel
theorem zd_M_reduce_9 : decode zc_M_reduce 9 = .ok (.iload_n 1, 1) := by decide +kernel
theorem zd_M_reduce_10 : decode zc_M_reduce 10 = .ok (.invokevirtual 69, 3) := by decide +kernel
theorem zd_M_reduce_13 : decode zc_M_reduce 13 = .ok (.lstore_n 2, 1) := by decide +kernel
theorem zd_M_reduce_14 : decode zc_M_reduce 14 = .ok (.lload_n 2, 1) := by decide +kernel
theorem zd_M_reduce_15 : decode zc_M_reduce 15 = .ok (.lconst 0, 1) := by decide +kernel
theorem zd_M_reduce_16 : decode zc_M_reduce 16 = .ok (.lcmp, 1) := by decide +kernel
theorem zd_M_reduce_17 : decode zc_M_reduce 17 = .ok (.ifCond .eq 9, 3) := by decide +kernel
theorem zd_M_reduce_20 : decode zc_M_reduce 20 = .ok (.aload_n 0, 1) := by decide +kernel
theorem zd_M_reduce_21 : decode zc_M_reduce 21 = .ok (.lload_n 2, 1) := by decide +kernel
theorem zd_M_reduce_22 : decode zc_M_reduce 22 = .ok (.iload_n 1, 1) := by decide +kernel
theorem zd_M_reduce_23 : decode zc_M_reduce 23 = .ok (.invokevirtual 73, 3) := by decide +kernel
theorem zd_M_reduce_26 : decode zc_M_reduce 26 = .ok (.iinc 1 1, 3) := by decide +kernel
theorem zd_M_reduce_29 : decode zc_M_reduce 29 = .ok (.goto (-27), 3) := by decide +kernel
theorem zd_M_reduce_32 : decode zc_M_reduce 32 = .ok (.return_, 1) := by decide +kernel
theorem zd_M_guessDigit_0 : decode zc_M_guessDigit 0 = .ok (.aload_n 0, 1) := by decide +kernel
theorem zd_M_guessDigit_1 : decode zc_M_guessDigit 1 = .ok (.getfield 18, 3) := by decide +kernel
theorem zd_M_guessDigit_4 : decode zc_M_guessDigit 4 = .ok (.iload_n 1, 1) := by decide +kernel
theorem zd_M_guessDigit_5 : decode zc_M_guessDigit 5 = .ok (.iaload, 1) := by decide +kernel
theorem zd_M_guessDigit_6 : decode zc_M_guessDigit 6 = .ok (.i2l, 1) := by decide +kernel
theorem zd_M_guessDigit_7 : decode zc_M_guessDigit 7 = .ok (.ldc2_w 77, 3) := by decide +kernel
theorem zd_M_guessDigit_10 : decode zc_M_guessDigit 10 = .ok (.land, 1) := by decide +kernel
theorem zd_M_guessDigit_11 : decode zc_M_guessDigit 11 = .ok (.lstore_n 2, 1) := by decide +kernel
theorem zd_M_guessDigit_12 : decode zc_M_guessDigit 12 = .ok (.aload_n 0, 1) := by decide +kernel
theorem zd_M_guessDigit_13 : decode zc_M_guessDigit 13 = .ok (.getfield 9, 3) := by decide +kernel
theorem zd_M_guessDigit_16 : decode zc_M_guessDigit 16 = .ok (.iconst 0, 1) := by decide +kernel
theorem zd_M_guessDigit_17 : decode zc_M_guessDigit 17 = .ok (.iaload, 1) := by decide +kernel
theorem zd_M_guessDigit_18 : decode zc_M_guessDigit 18 = .ok (.i2l, 1) := by decide +kernel
theorem zd_M_guessDigit_19 : decode zc_M_guessDigit 19 = .ok (.ldc2_w 77, 3) := by decide +kernel
theorem zd_M_guessDigit_22 : decode zc_M_guessDigit 22 = .ok (.land, 1) := by decide +kernel
theorem zd_M_guessDigit_23 : decode zc_M_guessDigit 23 = .ok (.lstore 4, 2) := by decide +kernel
theorem zd_M_guessDigit_25 : decode zc_M_guessDigit 25 = .ok (.lload_n 2, 1) := by decide +kernel
theorem zd_M_guessDigit_26 : decode zc_M_guessDigit 26 = .ok (.lload 4, 2) := by decide +kernel
theorem zd_M_guessDigit_28 : decode zc_M_guessDigit 28 = .ok (.lcmp, 1) := by decide +kernel
theorem zd_M_guessDigit_29 : decode zc_M_guessDigit 29 = .ok (.ifCond .lt 7, 3) := by decide +kernel
theorem zd_M_guessDigit_32 : decode zc_M_guessDigit 32 = .ok (.ldc2_w 77, 3) := by decide +kernel
theorem zd_M_guessDigit_35 : decode zc_M_guessDigit 35 = .ok (.lreturn, 1) := by decide +kernel
theorem zd_M_guessDigit_36 : decode zc_M_guessDigit 36 = .ok (.lload_n 2, 1) := by decide +kernel
theorem zd_M_guessDigit_37 : decode zc_M_guessDigit 37 = .ok (.bipush 32, 2) := by decide +kernel
theorem zd_M_guessDigit_39 : decode zc_M_guessDigit 39 = .ok (.lshl, 1) := by decide +kernel
theorem zd_M_guessDigit_40 : decode zc_M_guessDigit 40 = .ok (.aload_n 0, 1) := by decide +kernel
theorem zd_M_guessDigit_41 : decode zc_M_guessDigit 41 = .ok (.getfield 18, 3) := by decide +kernel
theorem zd_M_guessDigit_44 : decode zc_M_guessDigit 44 = .ok (.iload_n 1, 1) := by decide +kernel
theorem zd_M_guessDigit_45 : decode zc_M_guessDigit 45 = .ok (.iconst 1, 1) := by decide +kernel
theorem zd_M_guessDigit_46 : decode zc_M_guessDigit 46 = .ok (.iadd, 1) := by decide +kernel
theorem zd_M_guessDigit_47 : decode zc_M_guessDigit 47 = .ok (.iaload, 1) := by decide +kernel
theorem zd_M_guessDigit_48 : decode zc_M_guessDigit 48 = .ok (.i2l, 1) := by decide +kernel
theorem zd_M_guessDigit_49 : decode zc_M_guessDigit 49 = .ok (.ldc2_w 77, 3) := by decide +kernel
theorem zd_M_guessDigit_52 : decode zc_M_guessDigit 52 = .ok (.land, 1) := by decide +kernel
theorem zd_M_guessDigit_53 : decode zc_M_guessDigit 53 = .ok (.lor, 1) := by decide +kernel
theorem zd_M_guessDigit_54 : decode zc_M_guessDigit 54 = .ok (.lstore 6, 2) := by decide +kernel
theorem zd_M_guessDigit_56 : decode zc_M_guessDigit 56 = .ok (.lload 6, 2) := by decide +kernel
theorem zd_M_guessDigit_58 : decode zc_M_guessDigit 58 = .ok (.iconst 1, 1) := by decide +kernel
theorem zd_M_guessDigit_59 : decode zc_M_guessDigit 59 = .ok (.lushr, 1) := by decide +kernel
theorem zd_M_guessDigit_60 : decode zc_M_guessDigit 60 = .ok (.lload 4, 2) := by decide +kernel
theorem zd_M_guessDigit_62 : decode zc_M_guessDigit 62 = .ok (.ldiv, 1) := by decide +kernel
theorem zd_M_guessDigit_63 : decode zc_M_guessDigit 63 = .ok (.iconst 1, 1) := by decide +kernel
theorem zd_M_guessDigit_64 : decode zc_M_guessDigit 64 = .ok (.lshl, 1) := by decide +kernel
theorem zd_M_guessDigit_65 : decode zc_M_guessDigit 65 = .ok (.lstore 8, 2) := by decide +kernel
theorem zd_M_guessDigit_67 : decode zc_M_guessDigit 67 = .ok (.lload 6, 2) := by decide +kernel
theorem zd_M_guessDigit_69 : decode zc_M_guessDigit 69 = .ok (.lload 8, 2) := by decide +kernel
theorem zd_M_guessDigit_71 : decode zc_M_guessDigit 71 = .ok (.lload 4, 2) := by decide +kernel
theorem zd_M_guessDigit_73 : decode zc_M_guessDigit 73 = .ok (.lmul, 1) := by decide +kernel
theorem zd_M_guessDigit_74 : decode zc_M_guessDigit 74 = .ok (.lsub, 1) := by decide +kernel
theorem zd_M_guessDigit_75 : decode zc_M_guessDigit 75 = .ok (.lload 4, 2) := by decide +kernel
theorem zd_M_guessDigit_77 : decode zc_M_guessDigit 77 = .ok (.lcmp, 1) := by decide +kernel
theorem zd_M_guessDigit_78 : decode zc_M_guessDigit 78 = .ok (.ifCond .lt 10, 3) := by decide +kernel
theorem zd_M_guessDigit_81 : decode zc_M_guessDigit 81 = .ok (.lload 8, 2) := by decide +kernel
theorem zd_M_guessDigit_83 : decode zc_M_guessDigit 83 = .ok (.lconst 1, 1) := by decide +kernel
theorem zd_M_guessDigit_84 : decode zc_M_guessDigit 84 = .ok (.ladd, 1) := by decide +kernel
theorem zd_M_guessDigit_85 : decode zc_M_guessDigit 85 = .ok (.goto 5, 3) := by decide +kernel
theorem zd_M_guessDigit_88 : decode zc_M_guessDigit 88 = .ok (.lload 8, 2) := by decide +kernel
theorem zd_M_guessDigit_90 : decode zc_M_guessDigit 90 = .ok (.lreturn, 1) := by decide +kernel
theorem zd_M_takeAway_0 : decode zc_M_takeAway 0 = .ok (.lconst 0, 1) := by decide +kernel
theorem zd_M_takeAway_1 : decode zc_M_takeAway 1 = .ok (.lstore 4, 2) := by decide +kernel
theorem zd_M_takeAway_3 : decode zc_M_takeAway 3 = .ok (.bipush 7, 2) := by decide +kernel
theorem zd_M_takeAway_5 : decode zc_M_takeAway 5 = .ok (.istore 6, 2) := by decide +kernel
theorem zd_M_takeAway_7 : decode zc_M_takeAway 7 = .ok (.iload 6, 2) := by decide +kernel
theorem zd_M_takeAway_9 : decode zc_M_takeAway 9 = .ok (.ifCond .lt 88, 3) := by decide +kernel
theorem zd_M_takeAway_12 : decode zc_M_takeAway 12 = .ok (.lload_n 1, 1) := by decide +kernel
theorem zd_M_takeAway_13 : decode zc_M_takeAway 13 = .ok (.aload_n 0, 1) := by decide +kernel
theorem zd_M_takeAway_14 : decode zc_M_takeAway 14 = .ok (.getfield 9, 3) := by decide +kernel
theorem zd_M_takeAway_17 : decode zc_M_takeAway 17 = .ok (.iload 6, 2) := by decide +kernel
theorem zd_M_takeAway_19 : decode zc_M_takeAway 19 = .ok (.iaload, 1) := by decide +kernel
theorem zd_M_takeAway_20 : decode zc_M_takeAway 20 = .ok (.i2l, 1) := by decide +kernel
theorem zd_M_takeAway_21 : decode zc_M_takeAway 21 = .ok (.ldc2_w 77, 3) := by decide +kernel
theorem zd_M_takeAway_24 : decode zc_M_takeAway 24 = .ok (.land, 1) := by decide +kernel
theorem zd_M_takeAway_25 : decode zc_M_takeAway 25 = .ok (.lmul, 1) := by decide +kernel
theorem zd_M_takeAway_26 : decode zc_M_takeAway 26 = .ok (.lload 4, 2) := by decide +kernel
theorem zd_M_takeAway_28 : decode zc_M_takeAway 28 = .ok (.ladd, 1) := by decide +kernel
theorem zd_M_takeAway_29 : decode zc_M_takeAway 29 = .ok (.lstore 7, 2) := by decide +kernel
theorem zd_M_takeAway_31 : decode zc_M_takeAway 31 = .ok (.aload_n 0, 1) := by decide +kernel
theorem zd_M_takeAway_32 : decode zc_M_takeAway 32 = .ok (.getfield 18, 3) := by decide +kernel
theorem zd_M_takeAway_35 : decode zc_M_takeAway 35 = .ok (.iload_n 3, 1) := by decide +kernel
theorem zd_M_takeAway_36 : decode zc_M_takeAway 36 = .ok (.iconst 1, 1) := by decide +kernel
theorem zd_M_takeAway_37 : decode zc_M_takeAway 37 = .ok (.iadd, 1) := by decide +kernel
theorem zd_M_takeAway_38 : decode zc_M_takeAway 38 = .ok (.iload 6, 2) := by decide +kernel
theorem zd_M_takeAway_40 : decode zc_M_takeAway 40 = .ok (.iadd, 1) := by decide +kernel
theorem zd_M_takeAway_41 : decode zc_M_takeAway 41 = .ok (.iaload, 1) := by decide +kernel
theorem zd_M_takeAway_42 : decode zc_M_takeAway 42 = .ok (.i2l, 1) := by decide +kernel
theorem zd_M_takeAway_43 : decode zc_M_takeAway 43 = .ok (.ldc2_w 77, 3) := by decide +kernel
theorem zd_M_takeAway_46 : decode zc_M_takeAway 46 = .ok (.land, 1) := by decide +kernel
theorem zd_M_takeAway_47 : decode zc_M_takeAway 47 = .ok (.lload 7, 2) := by decide +kernel
theorem zd_M_takeAway_49 : decode zc_M_takeAway 49 = .ok (.ldc2_w 77, 3) := by decide +kernel
theorem zd_M_takeAway_52 : decode zc_M_takeAway 52 = .ok (.land, 1) := by decide +kernel
theorem zd_M_takeAway_53 : decode zc_M_takeAway 53 = .ok (.lsub, 1) := by decide +kernel
theorem zd_M_takeAway_54 : decode zc_M_takeAway 54 = .ok (.lstore 9, 2) := by decide +kernel
theorem zd_M_takeAway_56 : decode zc_M_takeAway 56 = .ok (.aload_n 0, 1) := by decide +kernel
theorem zd_M_takeAway_57 : decode zc_M_takeAway 57 = .ok (.getfield 18, 3) := by decide +kernel
theorem zd_M_takeAway_60 : decode zc_M_takeAway 60 = .ok (.iload_n 3, 1) := by decide +kernel
theorem zd_M_takeAway_61 : decode zc_M_takeAway 61 = .ok (.iconst 1, 1) := by decide +kernel
theorem zd_M_takeAway_62 : decode zc_M_takeAway 62 = .ok (.iadd, 1) := by decide +kernel
theorem zd_M_takeAway_63 : decode zc_M_takeAway 63 = .ok (.iload 6, 2) := by decide +kernel
theorem zd_M_takeAway_65 : decode zc_M_takeAway 65 = .ok (.iadd, 1) := by decide +kernel
theorem zd_M_takeAway_66 : decode zc_M_takeAway 66 = .ok (.lload 9, 2) := by decide +kernel
theorem zd_M_takeAway_68 : decode zc_M_takeAway 68 = .ok (.l2i, 1) := by decide +kernel
theorem zd_M_takeAway_69 : decode zc_M_takeAway 69 = .ok (.iastore, 1) := by decide +kernel
theorem zd_M_takeAway_70 : decode zc_M_takeAway 70 = .ok (.lload 7, 2) := by decide +kernel
theorem zd_M_takeAway_72 : decode zc_M_takeAway 72 = .ok (.bipush 32, 2) := by decide +kernel
theorem zd_M_takeAway_74 : decode zc_M_takeAway 74 = .ok (.lushr, 1) := by decide +kernel
theorem zd_M_takeAway_75 : decode zc_M_takeAway 75 = .ok (.lload 9, 2) := by decide +kernel
theorem zd_M_takeAway_77 : decode zc_M_takeAway 77 = .ok (.lconst 0, 1) := by decide +kernel
theorem zd_M_takeAway_78 : decode zc_M_takeAway 78 = .ok (.lcmp, 1) := by decide +kernel
theorem zd_M_takeAway_79 : decode zc_M_takeAway 79 = .ok (.ifCond .ge 7, 3) := by decide +kernel
theorem zd_M_takeAway_82 : decode zc_M_takeAway 82 = .ok (.iconst 1, 1) := by decide +kernel
theorem zd_M_takeAway_83 : decode zc_M_takeAway 83 = .ok (.goto 4, 3) := by decide +kernel
theorem zd_M_takeAway_86 : decode zc_M_takeAway 86 = .ok (.iconst 0, 1) := by decide +kernel
theorem zd_M_takeAway_87 : decode zc_M_takeAway 87 = .ok (.i2l, 1) := by decide +kernel
theorem zd_M_takeAway_88 : decode zc_M_takeAway 88 = .ok (.ladd, 1) := by decide +kernel
theorem zd_M_takeAway_89 : decode zc_M_takeAway 89 = .ok (.lstore 4, 2) := by decide +kernel
theorem zd_M_takeAway_91 : decode zc_M_takeAway 91 = .ok (.iinc 6 (-1), 3) := by decide +kernel
theorem zd_M_takeAway_94 : decode zc_M_takeAway 94 = .ok (.goto (-87), 3) := by decide +kernel
theorem zd_M_takeAway_97 : decode zc_M_takeAway 97 = .ok (.aload_n 0, 1) := by decide +kernel
theorem zd_M_takeAway_98 : decode zc_M_takeAway 98 = .ok (.getfield 18, 3) := by decide +kernel
theorem zd_M_takeAway_101 : decode zc_M_takeAway 101 = .ok (.iload_n 3, 1) := by decide +kernel
theorem zd_M_takeAway_102 : decode zc_M_takeAway 102 = .ok (.iaload, 1) := by decide +kernel
theorem zd_M_takeAway_103 : decode zc_M_takeAway 103 = .ok (.i2l, 1) := by decide +kernel
theorem zd_M_takeAway_104 : decode zc_M_takeAway 104 = .ok (.ldc2_w 77, 3) := by decide +kernel
theorem zd_M_takeAway_107 : decode zc_M_takeAway 107 = .ok (.land, 1) := by decide +kernel
theorem zd_M_takeAway_108 : decode zc_M_takeAway 108 = .ok (.lload 4, 2) := by decide +kernel
theorem zd_M_takeAway_110 : decode zc_M_takeAway 110 = .ok (.lsub, 1) := by decide +kernel
theorem zd_M_takeAway_111 : decode zc_M_takeAway 111 = .ok (.lstore 6, 2) := by decide +kernel
theorem zd_M_takeAway_113 : decode zc_M_takeAway 113 = .ok (.iconst 0, 1) := by decide +kernel
theorem zd_M_takeAway_114 : decode zc_M_takeAway 114 = .ok (.istore 8, 2) := by decide +kernel
theorem zd_M_takeAway_116 : decode zc_M_takeAway 116 = .ok (.iload 8, 2) := by decide +kernel
theorem zd_M_takeAway_118 : decode zc_M_takeAway 118 = .ok (.iconst 2, 1) := by decide +kernel
theorem zd_M_takeAway_119 : decode zc_M_takeAway 119 = .ok (.if_icmp .ge 26, 3) := by decide +kernel
theorem zd_M_takeAway_122 : decode zc_M_takeAway 122 = .ok (.lload 6, 2) := by decide +kernel
theorem zd_M_takeAway_124 : decode zc_M_takeAway 124 = .ok (.lconst 0, 1) := by decide +kernel
theorem zd_M_takeAway_125 : decode zc_M_takeAway 125 = .ok (.lcmp, 1) := by decide +kernel
theorem zd_M_takeAway_126 : decode zc_M_takeAway 126 = .ok (.ifCond .ge 19, 3) := by decide +kernel
theorem zd_M_takeAway_129 : decode zc_M_takeAway 129 = .ok (.lload 6, 2) := by decide +kernel
theorem zd_M_takeAway_131 : decode zc_M_takeAway 131 = .ok (.aload_n 0, 1) := by decide +kernel
theorem zd_M_takeAway_132 : decode zc_M_takeAway 132 = .ok (.iload_n 3, 1) := by decide +kernel
theorem zd_M_takeAway_133 : decode zc_M_takeAway 133 = .ok (.invokevirtual 79, 3) := by decide +kernel
theorem zd_M_takeAway_136 : decode zc_M_takeAway 136 = .ok (.ladd, 1) := by decide +kernel
theorem zd_M_takeAway_137 : decode zc_M_takeAway 137 = .ok (.lstore 6, 2) := by decide +kernel
theorem zd_M_takeAway_139 : decode zc_M_takeAway 139 = .ok (.iinc 8 1, 3) := by decide +kernel
theorem zd_M_takeAway_142 : decode zc_M_takeAway 142 = .ok (.goto (-26), 3) := by decide +kernel
theorem zd_M_takeAway_145 : decode zc_M_takeAway 145 = .ok (.return_, 1) := by decide +kernel
theorem zd_M_giveBack_0 : decode zc_M_giveBack 0 = .ok (.lconst 0, 1) := by decide +kernel
theorem zd_M_giveBack_1 : decode zc_M_giveBack 1 = .ok (.lstore_n 2, 1) := by decide +kernel
theorem zd_M_giveBack_2 : decode zc_M_giveBack 2 = .ok (.bipush 7, 2) := by decide +kernel
theorem zd_M_giveBack_4 : decode zc_M_giveBack 4 = .ok (.istore 4, 2) := by decide +kernel
theorem zd_M_giveBack_6 : decode zc_M_giveBack 6 = .ok (.iload 4, 2) := by decide +kernel
theorem zd_M_giveBack_8 : decode zc_M_giveBack 8 = .ok (.ifCond .lt 62, 3) := by decide +kernel
theorem zd_M_giveBack_11 : decode zc_M_giveBack 11 = .ok (.aload_n 0, 1) := by decide +kernel
theorem zd_M_giveBack_12 : decode zc_M_giveBack 12 = .ok (.getfield 18, 3) := by decide +kernel
theorem zd_M_giveBack_15 : decode zc_M_giveBack 15 = .ok (.iload_n 1, 1) := by decide +kernel
theorem zd_M_giveBack_16 : decode zc_M_giveBack 16 = .ok (.iconst 1, 1) := by decide +kernel
theorem zd_M_giveBack_17 : decode zc_M_giveBack 17 = .ok (.iadd, 1) := by decide +kernel
theorem zd_M_giveBack_18 : decode zc_M_giveBack 18 = .ok (.iload 4, 2) := by decide +kernel
theorem zd_M_giveBack_20 : decode zc_M_giveBack 20 = .ok (.iadd, 1) := by decide +kernel
theorem zd_M_giveBack_21 : decode zc_M_giveBack 21 = .ok (.iaload, 1) := by decide +kernel
theorem zd_M_giveBack_22 : decode zc_M_giveBack 22 = .ok (.i2l, 1) := by decide +kernel
theorem zd_M_giveBack_23 : decode zc_M_giveBack 23 = .ok (.ldc2_w 77, 3) := by decide +kernel
theorem zd_M_giveBack_26 : decode zc_M_giveBack 26 = .ok (.land, 1) := by decide +kernel
theorem zd_M_giveBack_27 : decode zc_M_giveBack 27 = .ok (.aload_n 0, 1) := by decide +kernel
theorem zd_M_giveBack_28 : decode zc_M_giveBack 28 = .ok (.getfield 9, 3) := by decide +kernel
theorem zd_M_giveBack_31 : decode zc_M_giveBack 31 = .ok (.iload 4, 2) := by decide +kernel
theorem zd_M_giveBack_33 : decode zc_M_giveBack 33 = .ok (.iaload, 1) := by decide +kernel
theorem zd_M_giveBack_34 : decode zc_M_giveBack 34 = .ok (.i2l, 1) := by decide +kernel
theorem zd_M_giveBack_35 : decode zc_M_giveBack 35 = .ok (.ldc2_w 77, 3) := by decide +kernel
theorem zd_M_giveBack_38 : decode zc_M_giveBack 38 = .ok (.land, 1) := by decide +kernel
theorem zd_M_giveBack_39 : decode zc_M_giveBack 39 = .ok (.ladd, 1) := by decide +kernel
theorem zd_M_giveBack_40 : decode zc_M_giveBack 40 = .ok (.lload_n 2, 1) := by decide +kernel
theorem zd_M_giveBack_41 : decode zc_M_giveBack 41 = .ok (.ladd, 1) := by decide +kernel
theorem zd_M_giveBack_42 : decode zc_M_giveBack 42 = .ok (.lstore 5, 2) := by decide +kernel
theorem zd_M_giveBack_44 : decode zc_M_giveBack 44 = .ok (.aload_n 0, 1) := by decide +kernel
theorem zd_M_giveBack_45 : decode zc_M_giveBack 45 = .ok (.getfield 18, 3) := by decide +kernel
theorem zd_M_giveBack_48 : decode zc_M_giveBack 48 = .ok (.iload_n 1, 1) := by decide +kernel
theorem zd_M_giveBack_49 : decode zc_M_giveBack 49 = .ok (.iconst 1, 1) := by decide +kernel
theorem zd_M_giveBack_50 : decode zc_M_giveBack 50 = .ok (.iadd, 1) := by decide +kernel
theorem zd_M_giveBack_51 : decode zc_M_giveBack 51 = .ok (.iload 4, 2) := by decide +kernel
theorem zd_M_giveBack_53 : decode zc_M_giveBack 53 = .ok (.iadd, 1) := by decide +kernel
theorem zd_M_giveBack_54 : decode zc_M_giveBack 54 = .ok (.lload 5, 2) := by decide +kernel
theorem zd_M_giveBack_56 : decode zc_M_giveBack 56 = .ok (.l2i, 1) := by decide +kernel
theorem zd_M_giveBack_57 : decode zc_M_giveBack 57 = .ok (.iastore, 1) := by decide +kernel
theorem zd_M_giveBack_58 : decode zc_M_giveBack 58 = .ok (.lload 5, 2) := by decide +kernel
theorem zd_M_giveBack_60 : decode zc_M_giveBack 60 = .ok (.bipush 32, 2) := by decide +kernel
theorem zd_M_giveBack_62 : decode zc_M_giveBack 62 = .ok (.lushr, 1) := by decide +kernel
theorem zd_M_giveBack_63 : decode zc_M_giveBack 63 = .ok (.lstore_n 2, 1) := by decide +kernel
theorem zd_M_giveBack_64 : decode zc_M_giveBack 64 = .ok (.iinc 4 (-1), 3) := by decide +kernel
theorem zd_M_giveBack_67 : decode zc_M_giveBack 67 = .ok (.goto (-61), 3) := by decide +kernel
theorem zd_M_giveBack_70 : decode zc_M_giveBack 70 = .ok (.lload_n 2, 1) := by decide +kernel
theorem zd_M_giveBack_71 : decode zc_M_giveBack 71 = .ok (.lreturn, 1) := by decide +kernel
theorem zd_M_rest_0 : decode zc_M_rest 0 = .ok (.aload_n 0, 1) := by decide +kernel
theorem zd_M_rest_1 : decode zc_M_rest 1 = .ok (.aload_n 1, 1) := by decide +kernel
theorem zd_M_rest_2 : decode zc_M_rest 2 = .ok (.getstatic 41, 3) := by decide +kernel
theorem zd_M_rest_5 : decode zc_M_rest 5 = .ok (.aload_n 2, 1) := by decide +kernel
theorem zd_M_rest_6 : decode zc_M_rest 6 = .ok (.invokevirtual 44, 3) := by decide +kernel
theorem zd_M_rest_9 : decode zc_M_rest 9 = .ok (.return_, 1) := by decide +kernel
theorem zd_H_init_0 : decode zc_H_init 0 = .ok (.aload_n 0, 1) := by decide +kernel
theorem zd_H_init_1 : decode zc_H_init 1 = .ok (.invokespecial 3, 3) := by decide +kernel
theorem zd_H_init_4 : decode zc_H_init 4 = .ok (.aload_n 0, 1) := by decide +kernel
theorem zd_H_init_5 : decode zc_H_init 5 = .ok (.bipush 8, 2) := by decide +kernel
theorem zd_H_init_7 : decode zc_H_init 7 = .ok (.newarray .int, 2) := by decide +kernel
theorem zd_H_init_9 : decode zc_H_init 9 = .ok (.putfield 9, 3) := by decide +kernel
theorem zd_H_init_12 : decode zc_H_init 12 = .ok (.aload_n 0, 1) := by decide +kernel
theorem zd_H_init_13 : decode zc_H_init 13 = .ok (.bipush 8, 2) := by decide +kernel
theorem zd_H_init_15 : decode zc_H_init 15 = .ok (.newarray .int, 2) := by decide +kernel
theorem zd_H_init_17 : decode zc_H_init 17 = .ok (.putfield 15, 3) := by decide +kernel
theorem zd_H_init_20 : decode zc_H_init 20 = .ok (.aload_n 0, 1) := by decide +kernel
theorem zd_H_init_21 : decode zc_H_init 21 = .ok (.bipush 8, 2) := by decide +kernel
theorem zd_H_init_23 : decode zc_H_init 23 = .ok (.newarray .int, 2) := by decide +kernel
theorem zd_H_init_25 : decode zc_H_init 25 = .ok (.putfield 18, 3) := by decide +kernel
theorem zd_H_init_28 : decode zc_H_init 28 = .ok (.aload_n 0, 1) := by decide +kernel
theorem zd_H_init_29 : decode zc_H_init 29 = .ok (.bipush 8, 2) := by decide +kernel
theorem zd_H_init_31 : decode zc_H_init 31 = .ok (.newarray .int, 2) := by decide +kernel
theorem zd_H_init_33 : decode zc_H_init 33 = .ok (.putfield 21, 3) := by decide +kernel
theorem zd_H_init_36 : decode zc_H_init 36 = .ok (.aload_n 0, 1) := by decide +kernel
theorem zd_H_init_37 : decode zc_H_init 37 = .ok (.bipush 16, 2) := by decide +kernel
theorem zd_H_init_39 : decode zc_H_init 39 = .ok (.newarray .int, 2) := by decide +kernel
theorem zd_H_init_41 : decode zc_H_init 41 = .ok (.putfield 24, 3) := by decide +kernel
theorem zd_H_init_44 : decode zc_H_init 44 = .ok (.return_, 1) := by decide +kernel
theorem zd_H_take_0 : decode zc_H_take 0 = .ok (.aload_n 1, 1) := by decide +kernel
theorem zd_H_take_1 : decode zc_H_take 1 = .ok (.aload_n 0, 1) := by decide +kernel
theorem zd_H_take_2 : decode zc_H_take 2 = .ok (.getfield 18, 3) := by decide +kernel
theorem zd_H_take_5 : decode zc_H_take 5 = .ok (.invokestatic 27, 3) := by decide +kernel
theorem zd_H_take_8 : decode zc_H_take 8 = .ok (.aload_n 2, 1) := by decide +kernel
theorem zd_H_take_9 : decode zc_H_take 9 = .ok (.aload_n 0, 1) := by decide +kernel
theorem zd_H_take_10 : decode zc_H_take 10 = .ok (.getfield 21, 3) := by decide +kernel
theorem zd_H_take_13 : decode zc_H_take 13 = .ok (.invokestatic 27, 3) := by decide +kernel
theorem zd_H_take_16 : decode zc_H_take 16 = .ok (.aload_n 0, 1) := by decide +kernel
theorem zd_H_take_17 : decode zc_H_take 17 = .ok (.getfield 18, 3) := by decide +kernel
theorem zd_H_take_20 : decode zc_H_take 20 = .ok (.iconst 3, 1) := by decide +kernel
theorem zd_H_take_21 : decode zc_H_take 21 = .ok (.invokestatic 31, 3) := by decide +kernel
theorem zd_H_take_24 : decode zc_H_take 24 = .ok (.ifCond .eq 14, 3) := by decide +kernel
theorem zd_H_take_27 : decode zc_H_take 27 = .ok (.aload_n 0, 1) := by decide +kernel
theorem zd_H_take_28 : decode zc_H_take 28 = .ok (.getfield 21, 3) := by decide +kernel
theorem zd_H_take_31 : decode zc_H_take 31 = .ok (.iconst 3, 1) := by decide +kernel
theorem zd_H_take_32 : decode zc_H_take 32 = .ok (.invokestatic 31, 3) := by decide +kernel
theorem zd_H_take_35 : decode zc_H_take 35 = .ok (.ifCond .ne 5, 3) := by decide +kernel
theorem zd_H_take_38 : decode zc_H_take 38 = .ok (.iconst 0, 1) := by decide +kernel
theorem zd_H_take_39 : decode zc_H_take 39 = .ok (.ireturn, 1) := by decide +kernel
theorem zd_H_take_40 : decode zc_H_take 40 = .ok (.aload_n 0, 1) := by decide +kernel
theorem zd_H_take_41 : decode zc_H_take 41 = .ok (.aload_n 0, 1) := by decide +kernel
theorem zd_H_take_42 : decode zc_H_take 42 = .ok (.getfield 9, 3) := by decide +kernel
theorem zd_H_take_45 : decode zc_H_take 45 = .ok (.invokevirtual 37, 3) := by decide +kernel
theorem zd_H_take_48 : decode zc_H_take 48 = .ok (.aload_n 0, 1) := by decide +kernel
theorem zd_H_take_49 : decode zc_H_take 49 = .ok (.getfield 18, 3) := by decide +kernel
theorem zd_H_take_52 : decode zc_H_take 52 = .ok (.iconst 1, 1) := by decide +kernel
theorem zd_H_take_53 : decode zc_H_take 53 = .ok (.aload_n 0, 1) := by decide +kernel
theorem zd_H_take_54 : decode zc_H_take 54 = .ok (.getfield 18, 3) := by decide +kernel
theorem zd_H_take_57 : decode zc_H_take 57 = .ok (.invokestatic 41, 3) := by decide +kernel
theorem zd_H_take_60 : decode zc_H_take 60 = .ok (.aload_n 0, 1) := by decide +kernel
theorem zd_H_take_61 : decode zc_H_take 61 = .ok (.getfield 21, 3) := by decide +kernel
theorem zd_H_take_64 : decode zc_H_take 64 = .ok (.iconst 1, 1) := by decide +kernel
theorem zd_H_take_65 : decode zc_H_take 65 = .ok (.aload_n 0, 1) := by decide +kernel
theorem zd_H_take_66 : decode zc_H_take 66 = .ok (.getfield 21, 3) := by decide +kernel
theorem zd_H_take_69 : decode zc_H_take 69 = .ok (.invokestatic 41, 3) := by decide +kernel
theorem zd_H_take_72 : decode zc_H_take 72 = .ok (.aload_n 0, 1) := by decide +kernel
theorem zd_H_take_73 : decode zc_H_take 73 = .ok (.aload_n 0, 1) := by decide +kernel
theorem zd_H_take_74 : decode zc_H_take 74 = .ok (.getfield 15, 3) := by decide +kernel
theorem zd_H_take_77 : decode zc_H_take 77 = .ok (.invokevirtual 37, 3) := by decide +kernel
theorem zd_H_take_80 : decode zc_H_take 80 = .ok (.aload_n 0, 1) := by decide +kernel
theorem zd_H_take_81 : decode zc_H_take 81 = .ok (.invokevirtual 45, 3) := by decide +kernel
theorem zd_H_take_84 : decode zc_H_take 84 = .ok (.ireturn, 1) := by decide +kernel
theorem zd_H_takeLowHalf_0 : decode zc_H_takeLowHalf 0 = .ok (.iconst 4, 1) := by decide +kernel
theorem zd_H_takeLowHalf_1 : decode zc_H_takeLowHalf 1 = .ok (.istore_n 2, 1) := by decide +kernel
theorem zd_H_takeLowHalf_2 : decode zc_H_takeLowHalf 2 = .ok (.iload_n 2, 1) := by decide +kernel
theorem zd_H_takeLowHalf_3 : decode zc_H_takeLowHalf 3 = .ok (.bipush 8, 2) := by decide +kernel
theorem zd_H_takeLowHalf_5 : decode zc_H_takeLowHalf 5 = .ok (.if_icmp .ge 15, 3) := by decide +kernel
theorem zd_H_takeLowHalf_8 : decode zc_H_takeLowHalf 8 = .ok (.aload_n 1, 1) := by decide +kernel
theorem zd_H_takeLowHalf_9 : decode zc_H_takeLowHalf 9 = .ok (.iload_n 2, 1) := by decide +kernel
theorem zd_H_takeLowHalf_10 : decode zc_H_takeLowHalf 10 = .ok (.aload_n 0, 1) := by decide +kernel
theorem zd_H_takeLowHalf_11 : decode zc_H_takeLowHalf 11 = .ok (.iload_n 2, 1) := by decide +kernel
theorem zd_H_takeLowHalf_12 : decode zc_H_takeLowHalf 12 = .ok (.iaload, 1) := by decide +kernel
theorem zd_H_takeLowHalf_13 : decode zc_H_takeLowHalf 13 = .ok (.iastore, 1) := by decide +kernel
theorem zd_H_takeLowHalf_14 : decode zc_H_takeLowHalf 14 = .ok (.iinc 2 1, 3) := by decide +kernel
theorem zd_H_takeLowHalf_17 : decode zc_H_takeLowHalf 17 = .ok (.goto (-15), 3) := by decide +kernel
theorem zd_H_takeLowHalf_20 : decode zc_H_takeLowHalf 20 = .ok (.return_, 1) := by decide +kernel
theorem zd_H_multiplyBoth_0 : decode zc_H_multiplyBoth 0 = .ok (.aload_n 0, 1) := by decide +kernel
theorem zd_H_multiplyBoth_1 : decode zc_H_multiplyBoth 1 = .ok (.getfield 18, 3) := by decide +kernel
theorem zd_H_multiplyBoth_4 : decode zc_H_multiplyBoth 4 = .ok (.aload_n 0, 1) := by decide +kernel
theorem zd_H_multiplyBoth_5 : decode zc_H_multiplyBoth 5 = .ok (.getfield 21, 3) := by decide +kernel
theorem zd_H_multiplyBoth_8 : decode zc_H_multiplyBoth 8 = .ok (.aload_n 0, 1) := by decide +kernel
theorem zd_H_multiplyBoth_9 : decode zc_H_multiplyBoth 9 = .ok (.getfield 24, 3) := by decide +kernel
theorem zd_H_multiplyBoth_12 : decode zc_H_multiplyBoth 12 = .ok (.invokestatic 49, 3) := by decide +kernel
theorem zd_H_multiplyBoth_15 : decode zc_H_multiplyBoth 15 = .ok (.aload_n 0, 1) := by decide +kernel
theorem zd_H_multiplyBoth_16 : decode zc_H_multiplyBoth 16 = .ok (.getfield 24, 3) := by decide +kernel
theorem zd_H_multiplyBoth_19 : decode zc_H_multiplyBoth 19 = .ok (.bipush 8, 2) := by decide +kernel
theorem zd_H_multiplyBoth_21 : decode zc_H_multiplyBoth 21 = .ok (.aload_n 1, 1) := by decide +kernel
theorem zd_H_multiplyBoth_22 : decode zc_H_multiplyBoth 22 = .ok (.iconst 0, 1) := by decide +kernel
theorem zd_H_multiplyBoth_23 : decode zc_H_multiplyBoth 23 = .ok (.bipush 8, 2) := by decide +kernel
theorem zd_H_multiplyBoth_25 : decode zc_H_multiplyBoth 25 = .ok (.invokestatic 53, 3) := by decide +kernel
theorem zd_H_multiplyBoth_28 : decode zc_H_multiplyBoth 28 = .ok (.return_, 1) := by decide +kernel
theorem zd_H_invert_0 : decode zc_H_invert 0 = .ok (.aload_n 0, 1) := by decide +kernel
theorem zd_H_invert_1 : decode zc_H_invert 1 = .ok (.invokevirtual 59, 3) := by decide +kernel
theorem zd_H_invert_4 : decode zc_H_invert 4 = .ok (.lstore_n 1, 1) := by decide +kernel
theorem zd_H_invert_5 : decode zc_H_invert 5 = .ok (.lload_n 1, 1) := by decide +kernel
theorem zd_H_invert_6 : decode zc_H_invert 6 = .ok (.lconst 0, 1) := by decide +kernel
theorem zd_H_invert_7 : decode zc_H_invert 7 = .ok (.lcmp, 1) := by decide +kernel
theorem zd_H_invert_8 : decode zc_H_invert 8 = .ok (.ifCond .ne 5, 3) := by decide +kernel
theorem zd_H_invert_11 : decode zc_H_invert 11 = .ok (.iconst 0, 1) := by decide +kernel
theorem zd_H_invert_12 : decode zc_H_invert 12 = .ok (.ireturn, 1) := by decide +kernel
theorem zd_H_invert_13 : decode zc_H_invert 13 = .ok (.ldc2_w 63, 3) := by decide +kernel
theorem zd_H_invert_16 : decode zc_H_invert 16 = .ok (.lload_n 1, 1) := by decide +kernel
theorem zd_H_invert_17 : decode zc_H_invert 17 = .ok (.invokestatic 65, 3) := by decide +kernel
theorem zd_H_invert_20 : decode zc_H_invert 20 = .ok (.lsub, 1) := by decide +kernel
theorem zd_H_invert_21 : decode zc_H_invert 21 = .ok (.lstore_n 3, 1) := by decide +kernel
theorem zd_H_invert_22 : decode zc_H_invert 22 = .ok (.lconst 1, 1) := by decide +kernel
theorem zd_H_invert_23 : decode zc_H_invert 23 = .ok (.lstore 5, 2) := by decide +kernel
theorem zd_H_invert_25 : decode zc_H_invert 25 = .ok (.bipush 7, 2) := by decide +kernel
theorem zd_H_invert_27 : decode zc_H_invert 27 = .ok (.istore 7, 2) := by decide +kernel
theorem zd_H_invert_29 : decode zc_H_invert 29 = .ok (.iload 7, 2) := by decide +kernel
theorem zd_H_invert_31 : decode zc_H_invert 31 = .ok (.ifCond .lt 45, 3) := by decide +kernel
theorem zd_H_invert_34 : decode zc_H_invert 34 = .ok (.lload_n 3, 1) := by decide +kernel
theorem zd_H_invert_35 : decode zc_H_invert 35 = .ok (.aload_n 0, 1) := by decide +kernel
theorem zd_H_invert_36 : decode zc_H_invert 36 = .ok (.getfield 15, 3) := by decide +kernel
theorem zd_H_invert_39 : decode zc_H_invert 39 = .ok (.iload 7, 2) := by decide +kernel
theorem zd_H_invert_41 : decode zc_H_invert 41 = .ok (.iaload, 1) := by decide +kernel
theorem zd_H_invert_42 : decode zc_H_invert 42 = .ok (.i2l, 1) := by decide +kernel
theorem zd_H_invert_43 : decode zc_H_invert 43 = .ok (.ldc2_w 69, 3) := by decide +kernel
theorem zd_H_invert_46 : decode zc_H_invert 46 = .ok (.land, 1) := by decide +kernel
theorem zd_H_invert_47 : decode zc_H_invert 47 = .ok (.lmul, 1) := by decide +kernel
theorem zd_H_invert_48 : decode zc_H_invert 48 = .ok (.lload 5, 2) := by decide +kernel
theorem zd_H_invert_50 : decode zc_H_invert 50 = .ok (.ladd, 1) := by decide +kernel
theorem zd_H_invert_51 : decode zc_H_invert 51 = .ok (.lstore 8, 2) := by decide +kernel
theorem zd_H_invert_53 : decode zc_H_invert 53 = .ok (.aload_n 0, 1) := by decide +kernel
theorem zd_H_invert_54 : decode zc_H_invert 54 = .ok (.getfield 15, 3) := by decide +kernel
theorem zd_H_invert_57 : decode zc_H_invert 57 = .ok (.iload 7, 2) := by decide +kernel
theorem zd_H_invert_59 : decode zc_H_invert 59 = .ok (.lload 8, 2) := by decide +kernel
theorem zd_H_invert_61 : decode zc_H_invert 61 = .ok (.l2i, 1) := by decide +kernel
theorem zd_H_invert_62 : decode zc_H_invert 62 = .ok (.iastore, 1) := by decide +kernel
theorem zd_H_invert_63 : decode zc_H_invert 63 = .ok (.lload 8, 2) := by decide +kernel
theorem zd_H_invert_65 : decode zc_H_invert 65 = .ok (.bipush 32, 2) := by decide +kernel
theorem zd_H_invert_67 : decode zc_H_invert 67 = .ok (.lushr, 1) := by decide +kernel
theorem zd_H_invert_68 : decode zc_H_invert 68 = .ok (.lstore 5, 2) := by decide +kernel
theorem zd_H_invert_70 : decode zc_H_invert 70 = .ok (.iinc 7 (-1), 3) := by decide +kernel
theorem zd_H_invert_73 : decode zc_H_invert 73 = .ok (.goto (-44), 3) := by decide +kernel
theorem zd_H_invert_76 : decode zc_H_invert 76 = .ok (.aload_n 0, 1) := by decide +kernel
theorem zd_H_invert_77 : decode zc_H_invert 77 = .ok (.lload 5, 2) := by decide +kernel
theorem zd_H_invert_79 : decode zc_H_invert 79 = .ok (.invokevirtual 71, 3) := by decide +kernel
theorem zd_H_invert_82 : decode zc_H_invert 82 = .ok (.iconst 1, 1) := by decide +kernel
theorem zd_H_invert_83 : decode zc_H_invert 83 = .ok (.ireturn, 1) := by decide +kernel
theorem zd_H_restOfInverse_0 : decode zc_H_restOfInverse 0 = .ok (.lconst 0, 1) := by decide +kernel
theorem zd_H_restOfInverse_1 : decode zc_H_restOfInverse 1 = .ok (.lstore_n 1, 1) := by decide +kernel
theorem zd_H_restOfInverse_2 : decode zc_H_restOfInverse 2 = .ok (.iconst 0, 1) := by decide +kernel
theorem zd_H_restOfInverse_3 : decode zc_H_restOfInverse 3 = .ok (.istore_n 3, 1) := by decide +kernel
theorem zd_H_restOfInverse_4 : decode zc_H_restOfInverse 4 = .ok (.iload_n 3, 1) := by decide +kernel
theorem zd_H_restOfInverse_5 : decode zc_H_restOfInverse 5 = .ok (.bipush 8, 2) := by decide +kernel
theorem zd_H_restOfInverse_7 : decode zc_H_restOfInverse 7 = .ok (.if_icmp .ge 30, 3) := by decide +kernel
theorem zd_H_restOfInverse_10 : decode zc_H_restOfInverse 10 = .ok (.lload_n 1, 1) := by decide +kernel
theorem zd_H_restOfInverse_11 : decode zc_H_restOfInverse 11 = .ok (.bipush 32, 2) := by decide +kernel
theorem zd_H_restOfInverse_13 : decode zc_H_restOfInverse 13 = .ok (.lshl, 1) := by decide +kernel
theorem zd_H_restOfInverse_14 : decode zc_H_restOfInverse 14 = .ok (.aload_n 0, 1) := by decide +kernel
theorem zd_H_restOfInverse_15 : decode zc_H_restOfInverse 15 = .ok (.getfield 15, 3) := by decide +kernel
theorem zd_H_restOfInverse_18 : decode zc_H_restOfInverse 18 = .ok (.iload_n 3, 1) := by decide +kernel
theorem zd_H_restOfInverse_19 : decode zc_H_restOfInverse 19 = .ok (.iaload, 1) := by decide +kernel
theorem zd_H_restOfInverse_20 : decode zc_H_restOfInverse 20 = .ok (.i2l, 1) := by decide +kernel
theorem zd_H_restOfInverse_21 : decode zc_H_restOfInverse 21 = .ok (.ldc2_w 69, 3) := by decide +kernel
theorem zd_H_restOfInverse_24 : decode zc_H_restOfInverse 24 = .ok (.land, 1) := by decide +kernel
theorem zd_H_restOfInverse_25 : decode zc_H_restOfInverse 25 = .ok (.lor, 1) := by decide +kernel
theorem zd_H_restOfInverse_26 : decode zc_H_restOfInverse 26 = .ok (.ldc2_w 63, 3) := by decide +kernel
theorem zd_H_restOfInverse_29 : decode zc_H_restOfInverse 29 = .ok (.lrem, 1) := by decide +kernel
theorem zd_H_restOfInverse_30 : decode zc_H_restOfInverse 30 = .ok (.lstore_n 1, 1) := by decide +kernel
theorem zd_H_restOfInverse_31 : decode zc_H_restOfInverse 31 = .ok (.iinc 3 1, 3) := by decide +kernel
theorem zd_H_restOfInverse_34 : decode zc_H_restOfInverse 34 = .ok (.goto (-30), 3) := by decide +kernel
theorem zd_H_restOfInverse_37 : decode zc_H_restOfInverse 37 = .ok (.lload_n 1, 1) := by decide +kernel
theorem zd_H_restOfInverse_38 : decode zc_H_restOfInverse 38 = .ok (.lreturn, 1) := by decide +kernel
theorem zd_H_inverseOfSmall_0 : decode zc_H_inverseOfSmall 0 = .ok (.lconst 1, 1) := by decide +kernel
theorem zd_H_inverseOfSmall_1 : decode zc_H_inverseOfSmall 1 = .ok (.lstore_n 2, 1) := by decide +kernel
theorem zd_H_inverseOfSmall_2 : decode zc_H_inverseOfSmall 2 = .ok (.iconst 0, 1) := by decide +kernel
theorem zd_H_inverseOfSmall_3 : decode zc_H_inverseOfSmall 3 = .ok (.istore 4, 2) := by decide +kernel
theorem zd_H_inverseOfSmall_5 : decode zc_H_inverseOfSmall 5 = .ok (.iload 4, 2) := by decide +kernel
theorem zd_H_inverseOfSmall_7 : decode zc_H_inverseOfSmall 7 = .ok (.bipush 16, 2) := by decide +kernel
theorem zd_H_inverseOfSmall_9 : decode zc_H_inverseOfSmall 9 = .ok (.if_icmp .ge 23, 3) := by decide +kernel
theorem zd_H_inverseOfSmall_12 : decode zc_H_inverseOfSmall 12 = .ok (.lload_n 2, 1) := by decide +kernel
theorem zd_H_inverseOfSmall_13 : decode zc_H_inverseOfSmall 13 = .ok (.lload_n 2, 1) := by decide +kernel
theorem zd_H_inverseOfSmall_14 : decode zc_H_inverseOfSmall 14 = .ok (.lmul, 1) := by decide +kernel
theorem zd_H_inverseOfSmall_15 : decode zc_H_inverseOfSmall 15 = .ok (.ldc2_w 63, 3) := by decide +kernel
theorem zd_H_inverseOfSmall_18 : decode zc_H_inverseOfSmall 18 = .ok (.lrem, 1) := by decide +kernel
theorem zd_H_inverseOfSmall_19 : decode zc_H_inverseOfSmall 19 = .ok (.lload_n 0, 1) := by decide +kernel
theorem zd_H_inverseOfSmall_20 : decode zc_H_inverseOfSmall 20 = .ok (.lmul, 1) := by decide +kernel
theorem zd_H_inverseOfSmall_21 : decode zc_H_inverseOfSmall 21 = .ok (.ldc2_w 63, 3) := by decide +kernel
theorem zd_H_inverseOfSmall_24 : decode zc_H_inverseOfSmall 24 = .ok (.lrem, 1) := by decide +kernel
theorem zd_H_inverseOfSmall_25 : decode zc_H_inverseOfSmall 25 = .ok (.lstore_n 2, 1) := by decide +kernel
theorem zd_H_inverseOfSmall_26 : decode zc_H_inverseOfSmall 26 = .ok (.iinc 4 1, 3) := by decide +kernel
theorem zd_H_inverseOfSmall_29 : decode zc_H_inverseOfSmall 29 = .ok (.goto (-24), 3) := by decide +kernel
theorem zd_H_inverseOfSmall_32 : decode zc_H_inverseOfSmall 32 = .ok (.lload_n 2, 1) := by decide +kernel
theorem zd_H_inverseOfSmall_33 : decode zc_H_inverseOfSmall 33 = .ok (.lreturn, 1) := by decide +kernel
theorem zd_H_divideInverse_0 : decode zc_H_divideInverse 0 = .ok (.lload_n 1, 1) := by decide +kernel
theorem zd_H_divideInverse_1 : decode zc_H_divideInverse 1 = .ok (.lstore_n 3, 1) := by decide +kernel
theorem zd_H_divideInverse_2 : decode zc_H_divideInverse 2 = .ok (.iconst 0, 1) := by decide +kernel
theorem zd_H_divideInverse_3 : decode zc_H_divideInverse 3 = .ok (.istore 5, 2) := by decide +kernel
theorem zd_H_divideInverse_5 : decode zc_H_divideInverse 5 = .ok (.iload 5, 2) := by decide +kernel
theorem zd_H_divideInverse_7 : decode zc_H_divideInverse 7 = .ok (.bipush 8, 2) := by decide +kernel
theorem zd_H_divideInverse_9 : decode zc_H_divideInverse 9 = .ok (.if_icmp .ge 49, 3) := by decide +kernel
theorem zd_H_divideInverse_12 : decode zc_H_divideInverse 12 = .ok (.lload_n 3, 1) := by decide +kernel
theorem zd_H_divideInverse_13 : decode zc_H_divideInverse 13 = .ok (.bipush 32, 2) := by decide +kernel
theorem zd_H_divideInverse_15 : decode zc_H_divideInverse 15 = .ok (.lshl, 1) := by decide +kernel
theorem zd_H_divideInverse_16 : decode zc_H_divideInverse 16 = .ok (.aload_n 0, 1) := by decide +kernel
theorem zd_H_divideInverse_17 : decode zc_H_divideInverse 17 = .ok (.getfield 15, 3) := by decide +kernel
theorem zd_H_divideInverse_20 : decode zc_H_divideInverse 20 = .ok (.iload 5, 2) := by decide +kernel
theorem zd_H_divideInverse_22 : decode zc_H_divideInverse 22 = .ok (.iaload, 1) := by decide +kernel
theorem zd_H_divideInverse_23 : decode zc_H_divideInverse 23 = .ok (.i2l, 1) := by decide +kernel
theorem zd_H_divideInverse_24 : decode zc_H_divideInverse 24 = .ok (.ldc2_w 69, 3) := by decide +kernel
theorem zd_H_divideInverse_27 : decode zc_H_divideInverse 27 = .ok (.land, 1) := by decide +kernel
theorem zd_H_divideInverse_28 : decode zc_H_divideInverse 28 = .ok (.lor, 1) := by decide +kernel
theorem zd_H_divideInverse_29 : decode zc_H_divideInverse 29 = .ok (.lstore 6, 2) := by decide +kernel
theorem zd_H_divideInverse_31 : decode zc_H_divideInverse 31 = .ok (.aload_n 0, 1) := by decide +kernel
theorem zd_H_divideInverse_32 : decode zc_H_divideInverse 32 = .ok (.getfield 15, 3) := by decide +kernel
theorem zd_H_divideInverse_35 : decode zc_H_divideInverse 35 = .ok (.iload 5, 2) := by decide +kernel
theorem zd_H_divideInverse_37 : decode zc_H_divideInverse 37 = .ok (.lload 6, 2) := by decide +kernel
theorem zd_H_divideInverse_39 : decode zc_H_divideInverse 39 = .ok (.ldc2_w 63, 3) := by decide +kernel
theorem zd_H_divideInverse_42 : decode zc_H_divideInverse 42 = .ok (.ldiv, 1) := by decide +kernel
theorem zd_H_divideInverse_43 : decode zc_H_divideInverse 43 = .ok (.l2i, 1) := by decide +kernel
theorem zd_H_divideInverse_44 : decode zc_H_divideInverse 44 = .ok (.iastore, 1) := by decide +kernel
theorem zd_H_divideInverse_45 : decode zc_H_divideInverse 45 = .ok (.lload 6, 2) := by decide +kernel
theorem zd_H_divideInverse_47 : decode zc_H_divideInverse 47 = .ok (.ldc2_w 63, 3) := by decide +kernel
theorem zd_H_divideInverse_50 : decode zc_H_divideInverse 50 = .ok (.lrem, 1) := by decide +kernel
theorem zd_H_divideInverse_51 : decode zc_H_divideInverse 51 = .ok (.lstore_n 3, 1) := by decide +kernel
theorem zd_H_divideInverse_52 : decode zc_H_divideInverse 52 = .ok (.iinc 5 1, 3) := by decide +kernel
theorem zd_H_divideInverse_55 : decode zc_H_divideInverse 55 = .ok (.goto (-50), 3) := by decide +kernel
theorem zd_H_divideInverse_58 : decode zc_H_divideInverse 58 = .ok (.return_, 1) := by decide +kernel
theorem zd_D_init_0 : decode zc_D_init 0 = .ok (.aload_n 0, 1) := by decide +kernel
theorem zd_D_init_1 : decode zc_D_init 1 = .ok (.invokespecial 3, 3) := by decide +kernel
theorem zd_D_init_4 : decode zc_D_init 4 = .ok (.aload_n 0, 1) := by decide +kernel
theorem zd_D_init_5 : decode zc_D_init 5 = .ok (.bipush 8, 2) := by decide +kernel
theorem zd_D_init_7 : decode zc_D_init 7 = .ok (.newarray .int, 2) := by decide +kernel
theorem zd_D_init_9 : decode zc_D_init 9 = .ok (.putfield 9, 3) := by decide +kernel
theorem zd_D_init_12 : decode zc_D_init 12 = .ok (.aload_n 0, 1) := by decide +kernel
theorem zd_D_init_13 : decode zc_D_init 13 = .ok (.bipush 64, 2) := by decide +kernel
theorem zd_D_init_15 : decode zc_D_init 15 = .ok (.newarray .int, 2) := by decide +kernel
theorem zd_D_init_17 : decode zc_D_init 17 = .ok (.putfield 15, 3) := by decide +kernel
theorem zd_D_init_20 : decode zc_D_init 20 = .ok (.return_, 1) := by decide +kernel
theorem zd_D_clear_0 : decode zc_D_clear 0 = .ok (.getstatic 18, 3) := by decide +kernel
theorem zd_D_clear_3 : decode zc_D_clear 3 = .ok (.aload_n 0, 1) := by decide +kernel
theorem zd_D_clear_4 : decode zc_D_clear 4 = .ok (.getfield 9, 3) := by decide +kernel
theorem zd_D_clear_7 : decode zc_D_clear 7 = .ok (.invokestatic 21, 3) := by decide +kernel
theorem zd_D_clear_10 : decode zc_D_clear 10 = .ok (.aload_n 0, 1) := by decide +kernel
theorem zd_D_clear_11 : decode zc_D_clear 11 = .ok (.iconst 0, 1) := by decide +kernel
theorem zd_D_clear_12 : decode zc_D_clear 12 = .ok (.putfield 27, 3) := by decide +kernel
theorem zd_D_clear_15 : decode zc_D_clear 15 = .ok (.return_, 1) := by decide +kernel
theorem zd_D_put_0 : decode zc_D_put 0 = .ok (.iconst 0, 1) := by decide +kernel
theorem zd_D_put_1 : decode zc_D_put 1 = .ok (.istore_n 2, 1) := by decide +kernel
theorem zd_D_put_2 : decode zc_D_put 2 = .ok (.iload_n 2, 1) := by decide +kernel
theorem zd_D_put_3 : decode zc_D_put 3 = .ok (.bipush 8, 2) := by decide +kernel
theorem zd_D_put_5 : decode zc_D_put 5 = .ok (.if_icmp .ge 16, 3) := by decide +kernel
theorem zd_D_put_8 : decode zc_D_put 8 = .ok (.aload_n 0, 1) := by decide +kernel
theorem zd_D_put_9 : decode zc_D_put 9 = .ok (.aload_n 1, 1) := by decide +kernel
theorem zd_D_put_10 : decode zc_D_put 10 = .ok (.iload_n 2, 1) := by decide +kernel
theorem zd_D_put_11 : decode zc_D_put 11 = .ok (.iaload, 1) := by decide +kernel
theorem zd_D_put_12 : decode zc_D_put 12 = .ok (.invokevirtual 31, 3) := by decide +kernel
theorem zd_D_put_15 : decode zc_D_put 15 = .ok (.iinc 2 1, 3) := by decide +kernel
theorem zd_D_put_18 : decode zc_D_put 18 = .ok (.goto (-16), 3) := by decide +kernel
theorem zd_D_put_21 : decode zc_D_put 21 = .ok (.return_, 1) := by decide +kernel
theorem zd_D_putWord_0 : decode zc_D_putWord 0 = .ok (.aload_n 0, 1) := by decide +kernel
theorem zd_D_putWord_1 : decode zc_D_putWord 1 = .ok (.getfield 15, 3) := by decide +kernel
theorem zd_D_putWord_4 : decode zc_D_putWord 4 = .ok (.aload_n 0, 1) := by decide +kernel
theorem zd_D_putWord_5 : decode zc_D_putWord 5 = .ok (.getfield 27, 3) := by decide +kernel
theorem zd_D_putWord_8 : decode zc_D_putWord 8 = .ok (.bipush 16, 2) := by decide +kernel
theorem zd_D_putWord_10 : decode zc_D_putWord 10 = .ok (.irem, 1) := by decide +kernel
theorem zd_D_putWord_11 : decode zc_D_putWord 11 = .ok (.iload_n 1, 1) := by decide +kernel
theorem zd_D_putWord_12 : decode zc_D_putWord 12 = .ok (.iastore, 1) := by decide +kernel
theorem zd_D_putWord_13 : decode zc_D_putWord 13 = .ok (.aload_n 0, 1) := by decide +kernel
theorem zd_D_putWord_14 : decode zc_D_putWord 14 = .ok (.dup, 1) := by decide +kernel
theorem zd_D_putWord_15 : decode zc_D_putWord 15 = .ok (.getfield 27, 3) := by decide +kernel
theorem zd_D_putWord_18 : decode zc_D_putWord 18 = .ok (.iconst 1, 1) := by decide +kernel
theorem zd_D_putWord_19 : decode zc_D_putWord 19 = .ok (.iadd, 1) := by decide +kernel
theorem zd_D_putWord_20 : decode zc_D_putWord 20 = .ok (.putfield 27, 3) := by decide +kernel
theorem zd_D_putWord_23 : decode zc_D_putWord 23 = .ok (.aload_n 0, 1) := by decide +kernel
theorem zd_D_putWord_24 : decode zc_D_putWord 24 = .ok (.getfield 27, 3) := by decide +kernel
theorem zd_D_putWord_27 : decode zc_D_putWord 27 = .ok (.bipush 16, 2) := by decide +kernel
theorem zd_D_putWord_29 : decode zc_D_putWord 29 = .ok (.irem, 1) := by decide +kernel
theorem zd_D_putWord_30 : decode zc_D_putWord 30 = .ok (.ifCond .ne 7, 3) := by decide +kernel
theorem zd_D_putWord_33 : decode zc_D_putWord 33 = .ok (.aload_n 0, 1) := by decide +kernel
theorem zd_D_putWord_34 : decode zc_D_putWord 34 = .ok (.invokevirtual 44, 3) := by decide +kernel
theorem zd_D_putWord_37 : decode zc_D_putWord 37 = .ok (.return_, 1) := by decide +kernel
theorem zd_D_mixRow_0 : decode zc_D_mixRow 0 = .ok (.aload_n 0, 1) := by decide +kernel
theorem zd_D_mixRow_1 : decode zc_D_mixRow 1 = .ok (.invokevirtual 47, 3) := by decide +kernel
theorem zd_D_mixRow_4 : decode zc_D_mixRow 4 = .ok (.aload_n 0, 1) := by decide +kernel
theorem zd_D_mixRow_5 : decode zc_D_mixRow 5 = .ok (.getfield 9, 3) := by decide +kernel
theorem zd_D_mixRow_8 : decode zc_D_mixRow 8 = .ok (.iconst 0, 1) := by decide +kernel
theorem zd_D_mixRow_9 : decode zc_D_mixRow 9 = .ok (.iaload, 1) := by decide +kernel
theorem zd_D_mixRow_10 : decode zc_D_mixRow 10 = .ok (.istore_n 1, 1) := by decide +kernel
theorem zd_D_mixRow_11 : decode zc_D_mixRow 11 = .ok (.aload_n 0, 1) := by decide +kernel
theorem zd_D_mixRow_12 : decode zc_D_mixRow 12 = .ok (.getfield 9, 3) := by decide +kernel
theorem zd_D_mixRow_15 : decode zc_D_mixRow 15 = .ok (.iconst 1, 1) := by decide +kernel
theorem zd_D_mixRow_16 : decode zc_D_mixRow 16 = .ok (.iaload, 1) := by decide +kernel
theorem zd_D_mixRow_17 : decode zc_D_mixRow 17 = .ok (.istore_n 2, 1) := by decide +kernel
theorem zd_D_mixRow_18 : decode zc_D_mixRow 18 = .ok (.aload_n 0, 1) := by decide +kernel
theorem zd_D_mixRow_19 : decode zc_D_mixRow 19 = .ok (.getfield 9, 3) := by decide +kernel
theorem zd_D_mixRow_22 : decode zc_D_mixRow 22 = .ok (.iconst 2, 1) := by decide +kernel
theorem zd_D_mixRow_23 : decode zc_D_mixRow 23 = .ok (.iaload, 1) := by decide +kernel
theorem zd_D_mixRow_24 : decode zc_D_mixRow 24 = .ok (.istore_n 3, 1) := by decide +kernel
theorem zd_D_mixRow_25 : decode zc_D_mixRow 25 = .ok (.aload_n 0, 1) := by decide +kernel
theorem zd_D_mixRow_26 : decode zc_D_mixRow 26 = .ok (.getfield 9, 3) := by decide +kernel
theorem zd_D_mixRow_29 : decode zc_D_mixRow 29 = .ok (.iconst 3, 1) := by decide +kernel
theorem zd_D_mixRow_30 : decode zc_D_mixRow 30 = .ok (.iaload, 1) := by decide +kernel
theorem zd_D_mixRow_31 : decode zc_D_mixRow 31 = .ok (.istore 4, 2) := by decide +kernel
theorem zd_D_mixRow_33 : decode zc_D_mixRow 33 = .ok (.aload_n 0, 1) := by decide +kernel
theorem zd_D_mixRow_34 : decode zc_D_mixRow 34 = .ok (.getfield 9, 3) := by decide +kernel
theorem zd_D_mixRow_37 : decode zc_D_mixRow 37 = .ok (.iconst 4, 1) := by decide +kernel
theorem zd_D_mixRow_38 : decode zc_D_mixRow 38 = .ok (.iaload, 1) := by decide +kernel
theorem zd_D_mixRow_39 : decode zc_D_mixRow 39 = .ok (.istore 5, 2) := by decide +kernel
theorem zd_D_mixRow_41 : decode zc_D_mixRow 41 = .ok (.aload_n 0, 1) := by decide +kernel
theorem zd_D_mixRow_42 : decode zc_D_mixRow 42 = .ok (.getfield 9, 3) := by decide +kernel
theorem zd_D_mixRow_45 : decode zc_D_mixRow 45 = .ok (.iconst 5, 1) := by decide +kernel
theorem zd_D_mixRow_46 : decode zc_D_mixRow 46 = .ok (.iaload, 1) := by decide +kernel
theorem zd_D_mixRow_47 : decode zc_D_mixRow 47 = .ok (.istore 6, 2) := by decide +kernel
theorem zd_D_mixRow_49 : decode zc_D_mixRow 49 = .ok (.aload_n 0, 1) := by decide +kernel
theorem zd_D_mixRow_50 : decode zc_D_mixRow 50 = .ok (.getfield 9, 3) := by decide +kernel
theorem zd_D_mixRow_53 : decode zc_D_mixRow 53 = .ok (.bipush 6, 2) := by decide +kernel
theorem zd_D_mixRow_55 : decode zc_D_mixRow 55 = .ok (.iaload, 1) := by decide +kernel
theorem zd_D_mixRow_56 : decode zc_D_mixRow 56 = .ok (.istore 7, 2) := by decide +kernel
theorem zd_D_mixRow_58 : decode zc_D_mixRow 58 = .ok (.aload_n 0, 1) := by decide +kernel
theorem zd_D_mixRow_59 : decode zc_D_mixRow 59 = .ok (.getfield 9, 3) := by decide +kernel
theorem zd_D_mixRow_62 : decode zc_D_mixRow 62 = .ok (.bipush 7, 2) := by decide +kernel
theorem zd_D_mixRow_64 : decode zc_D_mixRow 64 = .ok (.iaload, 1) := by decide +kernel
theorem zd_D_mixRow_65 : decode zc_D_mixRow 65 = .ok (.istore 8, 2) := by decide +kernel
theorem zd_D_mixRow_67 : decode zc_D_mixRow 67 = .ok (.iconst 0, 1) := by decide +kernel
theorem zd_D_mixRow_68 : decode zc_D_mixRow 68 = .ok (.istore 9, 2) := by decide +kernel
theorem zd_D_mixRow_70 : decode zc_D_mixRow 70 = .ok (.iload 9, 2) := by decide +kernel
theorem zd_D_mixRow_72 : decode zc_D_mixRow 72 = .ok (.bipush 64, 2) := by decide +kernel
theorem zd_D_mixRow_74 : decode zc_D_mixRow 74 = .ok (.if_icmp .ge 131, 3) := by decide +kernel
theorem zd_D_mixRow_77 : decode zc_D_mixRow 77 = .ok (.iload 8, 2) := by decide +kernel
theorem zd_D_mixRow_79 : decode zc_D_mixRow 79 = .ok (.iload 5, 2) := by decide +kernel
theorem zd_D_mixRow_81 : decode zc_D_mixRow 81 = .ok (.bipush 6, 2) := by decide +kernel
theorem zd_D_mixRow_83 : decode zc_D_mixRow 83 = .ok (.invokestatic 50, 3) := by decide +kernel
theorem zd_D_mixRow_86 : decode zc_D_mixRow 86 = .ok (.iload 5, 2) := by decide +kernel
theorem zd_D_mixRow_88 : decode zc_D_mixRow 88 = .ok (.bipush 11, 2) := by decide +kernel
theorem zd_D_mixRow_90 : decode zc_D_mixRow 90 = .ok (.invokestatic 50, 3) := by decide +kernel
theorem zd_D_mixRow_93 : decode zc_D_mixRow 93 = .ok (.ixor, 1) := by decide +kernel
theorem zd_D_mixRow_94 : decode zc_D_mixRow 94 = .ok (.iload 5, 2) := by decide +kernel
theorem zd_D_mixRow_96 : decode zc_D_mixRow 96 = .ok (.bipush 25, 2) := by decide +kernel
theorem zd_D_mixRow_98 : decode zc_D_mixRow 98 = .ok (.invokestatic 50, 3) := by decide +kernel
theorem zd_D_mixRow_101 : decode zc_D_mixRow 101 = .ok (.ixor, 1) := by decide +kernel
theorem zd_D_mixRow_102 : decode zc_D_mixRow 102 = .ok (.iadd, 1) := by decide +kernel
theorem zd_D_mixRow_103 : decode zc_D_mixRow 103 = .ok (.iload 5, 2) := by decide +kernel
theorem zd_D_mixRow_105 : decode zc_D_mixRow 105 = .ok (.iload 6, 2) := by decide +kernel
theorem zd_D_mixRow_107 : decode zc_D_mixRow 107 = .ok (.iand, 1) := by decide +kernel
theorem zd_D_mixRow_108 : decode zc_D_mixRow 108 = .ok (.iload 5, 2) := by decide +kernel
theorem zd_D_mixRow_110 : decode zc_D_mixRow 110 = .ok (.iconst (-1), 1) := by decide +kernel
theorem zd_D_mixRow_111 : decode zc_D_mixRow 111 = .ok (.ixor, 1) := by decide +kernel
theorem zd_D_mixRow_112 : decode zc_D_mixRow 112 = .ok (.iload 7, 2) := by decide +kernel
theorem zd_D_mixRow_114 : decode zc_D_mixRow 114 = .ok (.iand, 1) := by decide +kernel
theorem zd_D_mixRow_115 : decode zc_D_mixRow 115 = .ok (.ixor, 1) := by decide +kernel
theorem zd_D_mixRow_116 : decode zc_D_mixRow 116 = .ok (.iadd, 1) := by decide +kernel
theorem zd_D_mixRow_117 : decode zc_D_mixRow 117 = .ok (.getstatic 54, 3) := by decide +kernel
theorem zd_D_mixRow_120 : decode zc_D_mixRow 120 = .ok (.iload 9, 2) := by decide +kernel
theorem zd_D_mixRow_122 : decode zc_D_mixRow 122 = .ok (.iaload, 1) := by decide +kernel
theorem zd_D_mixRow_123 : decode zc_D_mixRow 123 = .ok (.iadd, 1) := by decide +kernel
theorem zd_D_mixRow_124 : decode zc_D_mixRow 124 = .ok (.aload_n 0, 1) := by decide +kernel
theorem zd_D_mixRow_125 : decode zc_D_mixRow 125 = .ok (.getfield 15, 3) := by decide +kernel
theorem zd_D_mixRow_128 : decode zc_D_mixRow 128 = .ok (.iload 9, 2) := by decide +kernel
theorem zd_D_mixRow_130 : decode zc_D_mixRow 130 = .ok (.iaload, 1) := by decide +kernel
theorem zd_D_mixRow_131 : decode zc_D_mixRow 131 = .ok (.iadd, 1) := by decide +kernel
theorem zd_D_mixRow_132 : decode zc_D_mixRow 132 = .ok (.istore 10, 2) := by decide +kernel
theorem zd_D_mixRow_134 : decode zc_D_mixRow 134 = .ok (.iload_n 1, 1) := by decide +kernel
theorem zd_D_mixRow_135 : decode zc_D_mixRow 135 = .ok (.iconst 2, 1) := by decide +kernel
theorem zd_D_mixRow_136 : decode zc_D_mixRow 136 = .ok (.invokestatic 50, 3) := by decide +kernel
theorem zd_D_mixRow_139 : decode zc_D_mixRow 139 = .ok (.iload_n 1, 1) := by decide +kernel
theorem zd_D_mixRow_140 : decode zc_D_mixRow 140 = .ok (.bipush 13, 2) := by decide +kernel
theorem zd_D_mixRow_142 : decode zc_D_mixRow 142 = .ok (.invokestatic 50, 3) := by decide +kernel
theorem zd_D_mixRow_145 : decode zc_D_mixRow 145 = .ok (.ixor, 1) := by decide +kernel
theorem zd_D_mixRow_146 : decode zc_D_mixRow 146 = .ok (.iload_n 1, 1) := by decide +kernel
theorem zd_D_mixRow_147 : decode zc_D_mixRow 147 = .ok (.bipush 22, 2) := by decide +kernel
theorem zd_D_mixRow_149 : decode zc_D_mixRow 149 = .ok (.invokestatic 50, 3) := by decide +kernel
theorem zd_D_mixRow_152 : decode zc_D_mixRow 152 = .ok (.ixor, 1) := by decide +kernel
theorem zd_D_mixRow_153 : decode zc_D_mixRow 153 = .ok (.iload_n 1, 1) := by decide +kernel
theorem zd_D_mixRow_154 : decode zc_D_mixRow 154 = .ok (.iload_n 2, 1) := by decide +kernel
theorem zd_D_mixRow_155 : decode zc_D_mixRow 155 = .ok (.iand, 1) := by decide +kernel
theorem zd_D_mixRow_156 : decode zc_D_mixRow 156 = .ok (.iload_n 1, 1) := by decide +kernel
theorem zd_D_mixRow_157 : decode zc_D_mixRow 157 = .ok (.iload_n 3, 1) := by decide +kernel
theorem zd_D_mixRow_158 : decode zc_D_mixRow 158 = .ok (.iand, 1) := by decide +kernel
theorem zd_D_mixRow_159 : decode zc_D_mixRow 159 = .ok (.ixor, 1) := by decide +kernel
theorem zd_D_mixRow_160 : decode zc_D_mixRow 160 = .ok (.iload_n 2, 1) := by decide +kernel
theorem zd_D_mixRow_161 : decode zc_D_mixRow 161 = .ok (.iload_n 3, 1) := by decide +kernel
theorem zd_D_mixRow_162 : decode zc_D_mixRow 162 = .ok (.iand, 1) := by decide +kernel
theorem zd_D_mixRow_163 : decode zc_D_mixRow 163 = .ok (.ixor, 1) := by decide +kernel
theorem zd_D_mixRow_164 : decode zc_D_mixRow 164 = .ok (.iadd, 1) := by decide +kernel
theorem zd_D_mixRow_165 : decode zc_D_mixRow 165 = .ok (.istore 11, 2) := by decide +kernel
theorem zd_D_mixRow_167 : decode zc_D_mixRow 167 = .ok (.iload 7, 2) := by decide +kernel
theorem zd_D_mixRow_169 : decode zc_D_mixRow 169 = .ok (.istore 8, 2) := by decide +kernel
theorem zd_D_mixRow_171 : decode zc_D_mixRow 171 = .ok (.iload 6, 2) := by decide +kernel
theorem zd_D_mixRow_173 : decode zc_D_mixRow 173 = .ok (.istore 7, 2) := by decide +kernel
theorem zd_D_mixRow_175 : decode zc_D_mixRow 175 = .ok (.iload 5, 2) := by decide +kernel
theorem zd_D_mixRow_177 : decode zc_D_mixRow 177 = .ok (.istore 6, 2) := by decide +kernel
theorem zd_D_mixRow_179 : decode zc_D_mixRow 179 = .ok (.iload 4, 2) := by decide +kernel
theorem zd_D_mixRow_181 : decode zc_D_mixRow 181 = .ok (.iload 10, 2) := by decide +kernel
theorem zd_D_mixRow_183 : decode zc_D_mixRow 183 = .ok (.iadd, 1) := by decide +kernel
theorem zd_D_mixRow_184 : decode zc_D_mixRow 184 = .ok (.istore 5, 2) := by decide +kernel
theorem zd_D_mixRow_186 : decode zc_D_mixRow 186 = .ok (.iload_n 3, 1) := by decide +kernel
theorem zd_D_mixRow_187 : decode zc_D_mixRow 187 = .ok (.istore 4, 2) := by decide +kernel
theorem zd_D_mixRow_189 : decode zc_D_mixRow 189 = .ok (.iload_n 2, 1) := by decide +kernel
theorem zd_D_mixRow_190 : decode zc_D_mixRow 190 = .ok (.istore_n 3, 1) := by decide +kernel
theorem zd_D_mixRow_191 : decode zc_D_mixRow 191 = .ok (.iload_n 1, 1) := by decide +kernel
theorem zd_D_mixRow_192 : decode zc_D_mixRow 192 = .ok (.istore_n 2, 1) := by decide +kernel
theorem zd_D_mixRow_193 : decode zc_D_mixRow 193 = .ok (.iload 10, 2) := by decide +kernel
theorem zd_D_mixRow_195 : decode zc_D_mixRow 195 = .ok (.iload 11, 2) := by decide +kernel
theorem zd_D_mixRow_197 : decode zc_D_mixRow 197 = .ok (.iadd, 1) := by decide +kernel
theorem zd_D_mixRow_198 : decode zc_D_mixRow 198 = .ok (.istore_n 1, 1) := by decide +kernel
theorem zd_D_mixRow_199 : decode zc_D_mixRow 199 = .ok (.iinc 9 1, 3) := by decide +kernel
theorem zd_D_mixRow_202 : decode zc_D_mixRow 202 = .ok (.goto (-132), 3) := by decide +kernel
theorem zd_D_mixRow_205 : decode zc_D_mixRow 205 = .ok (.aload_n 0, 1) := by decide +kernel
theorem zd_D_mixRow_206 : decode zc_D_mixRow 206 = .ok (.getfield 9, 3) := by decide +kernel
theorem zd_D_mixRow_209 : decode zc_D_mixRow 209 = .ok (.iconst 0, 1) := by decide +kernel
theorem zd_D_mixRow_210 : decode zc_D_mixRow 210 = .ok (.dup2, 1) := by decide +kernel
theorem zd_D_mixRow_211 : decode zc_D_mixRow 211 = .ok (.iaload, 1) := by decide +kernel
theorem zd_D_mixRow_212 : decode zc_D_mixRow 212 = .ok (.iload_n 1, 1) := by decide +kernel
theorem zd_D_mixRow_213 : decode zc_D_mixRow 213 = .ok (.iadd, 1) := by decide +kernel
theorem zd_D_mixRow_214 : decode zc_D_mixRow 214 = .ok (.iastore, 1) := by decide +kernel
theorem zd_D_mixRow_215 : decode zc_D_mixRow 215 = .ok (.aload_n 0, 1) := by decide +kernel
theorem zd_D_mixRow_216 : decode zc_D_mixRow 216 = .ok (.getfield 9, 3) := by decide +kernel
theorem zd_D_mixRow_219 : decode zc_D_mixRow 219 = .ok (.iconst 1, 1) := by decide +kernel
theorem zd_D_mixRow_220 : decode zc_D_mixRow 220 = .ok (.dup2, 1) := by decide +kernel
theorem zd_D_mixRow_221 : decode zc_D_mixRow 221 = .ok (.iaload, 1) := by decide +kernel
theorem zd_D_mixRow_222 : decode zc_D_mixRow 222 = .ok (.iload_n 2, 1) := by decide +kernel
theorem zd_D_mixRow_223 : decode zc_D_mixRow 223 = .ok (.iadd, 1) := by decide +kernel
theorem zd_D_mixRow_224 : decode zc_D_mixRow 224 = .ok (.iastore, 1) := by decide +kernel
theorem zd_D_mixRow_225 : decode zc_D_mixRow 225 = .ok (.aload_n 0, 1) := by decide +kernel
theorem zd_D_mixRow_226 : decode zc_D_mixRow 226 = .ok (.getfield 9, 3) := by decide +kernel
theorem zd_D_mixRow_229 : decode zc_D_mixRow 229 = .ok (.iconst 2, 1) := by decide +kernel
theorem zd_D_mixRow_230 : decode zc_D_mixRow 230 = .ok (.dup2, 1) := by decide +kernel
theorem zd_D_mixRow_231 : decode zc_D_mixRow 231 = .ok (.iaload, 1) := by decide +kernel
theorem zd_D_mixRow_232 : decode zc_D_mixRow 232 = .ok (.iload_n 3, 1) := by decide +kernel
theorem zd_D_mixRow_233 : decode zc_D_mixRow 233 = .ok (.iadd, 1) := by decide +kernel
theorem zd_D_mixRow_234 : decode zc_D_mixRow 234 = .ok (.iastore, 1) := by decide +kernel
theorem zd_D_mixRow_235 : decode zc_D_mixRow 235 = .ok (.aload_n 0, 1) := by decide +kernel
theorem zd_D_mixRow_236 : decode zc_D_mixRow 236 = .ok (.getfield 9, 3) := by decide +kernel
theorem zd_D_mixRow_239 : decode zc_D_mixRow 239 = .ok (.iconst 3, 1) := by decide +kernel
theorem zd_D_mixRow_240 : decode zc_D_mixRow 240 = .ok (.dup2, 1) := by decide +kernel
theorem zd_D_mixRow_241 : decode zc_D_mixRow 241 = .ok (.iaload, 1) := by decide +kernel
theorem zd_D_mixRow_242 : decode zc_D_mixRow 242 = .ok (.iload 4, 2) := by decide +kernel
theorem zd_D_mixRow_244 : decode zc_D_mixRow 244 = .ok (.iadd, 1) := by decide +kernel
theorem zd_D_mixRow_245 : decode zc_D_mixRow 245 = .ok (.iastore, 1) := by decide +kernel
theorem zd_D_mixRow_246 : decode zc_D_mixRow 246 = .ok (.aload_n 0, 1) := by decide +kernel
theorem zd_D_mixRow_247 : decode zc_D_mixRow 247 = .ok (.getfield 9, 3) := by decide +kernel
theorem zd_D_mixRow_250 : decode zc_D_mixRow 250 = .ok (.iconst 4, 1) := by decide +kernel
theorem zd_D_mixRow_251 : decode zc_D_mixRow 251 = .ok (.dup2, 1) := by decide +kernel
theorem zd_D_mixRow_252 : decode zc_D_mixRow 252 = .ok (.iaload, 1) := by decide +kernel
theorem zd_D_mixRow_253 : decode zc_D_mixRow 253 = .ok (.iload 5, 2) := by decide +kernel
theorem zd_D_mixRow_255 : decode zc_D_mixRow 255 = .ok (.iadd, 1) := by decide +kernel
theorem zd_D_mixRow_256 : decode zc_D_mixRow 256 = .ok (.iastore, 1) := by decide +kernel
theorem zd_D_mixRow_257 : decode zc_D_mixRow 257 = .ok (.aload_n 0, 1) := by decide +kernel
theorem zd_D_mixRow_258 : decode zc_D_mixRow 258 = .ok (.getfield 9, 3) := by decide +kernel
theorem zd_D_mixRow_261 : decode zc_D_mixRow 261 = .ok (.iconst 5, 1) := by decide +kernel
theorem zd_D_mixRow_262 : decode zc_D_mixRow 262 = .ok (.dup2, 1) := by decide +kernel
theorem zd_D_mixRow_263 : decode zc_D_mixRow 263 = .ok (.iaload, 1) := by decide +kernel
theorem zd_D_mixRow_264 : decode zc_D_mixRow 264 = .ok (.iload 6, 2) := by decide +kernel
theorem zd_D_mixRow_266 : decode zc_D_mixRow 266 = .ok (.iadd, 1) := by decide +kernel
theorem zd_D_mixRow_267 : decode zc_D_mixRow 267 = .ok (.iastore, 1) := by decide +kernel
theorem zd_D_mixRow_268 : decode zc_D_mixRow 268 = .ok (.aload_n 0, 1) := by decide +kernel
theorem zd_D_mixRow_269 : decode zc_D_mixRow 269 = .ok (.getfield 9, 3) := by decide +kernel
theorem zd_D_mixRow_272 : decode zc_D_mixRow 272 = .ok (.bipush 6, 2) := by decide +kernel
theorem zd_D_mixRow_274 : decode zc_D_mixRow 274 = .ok (.dup2, 1) := by decide +kernel
theorem zd_D_mixRow_275 : decode zc_D_mixRow 275 = .ok (.iaload, 1) := by decide +kernel
theorem zd_D_mixRow_276 : decode zc_D_mixRow 276 = .ok (.iload 7, 2) := by decide +kernel
theorem zd_D_mixRow_278 : decode zc_D_mixRow 278 = .ok (.iadd, 1) := by decide +kernel
theorem zd_D_mixRow_279 : decode zc_D_mixRow 279 = .ok (.iastore, 1) := by decide +kernel
theorem zd_D_mixRow_280 : decode zc_D_mixRow 280 = .ok (.aload_n 0, 1) := by decide +kernel
theorem zd_D_mixRow_281 : decode zc_D_mixRow 281 = .ok (.getfield 9, 3) := by decide +kernel
theorem zd_D_mixRow_284 : decode zc_D_mixRow 284 = .ok (.bipush 7, 2) := by decide +kernel
theorem zd_D_mixRow_286 : decode zc_D_mixRow 286 = .ok (.dup2, 1) := by decide +kernel
theorem zd_D_mixRow_287 : decode zc_D_mixRow 287 = .ok (.iaload, 1) := by decide +kernel
theorem zd_D_mixRow_288 : decode zc_D_mixRow 288 = .ok (.iload 8, 2) := by decide +kernel
theorem zd_D_mixRow_290 : decode zc_D_mixRow 290 = .ok (.iadd, 1) := by decide +kernel
theorem zd_D_mixRow_291 : decode zc_D_mixRow 291 = .ok (.iastore, 1) := by decide +kernel
theorem zd_D_mixRow_292 : decode zc_D_mixRow 292 = .ok (.return_, 1) := by decide +kernel
theorem zd_D_spreadRow_0 : decode zc_D_spreadRow 0 = .ok (.bipush 16, 2) := by decide +kernel
theorem zd_D_spreadRow_2 : decode zc_D_spreadRow 2 = .ok (.istore_n 1, 1) := by decide +kernel
theorem zd_D_spreadRow_3 : decode zc_D_spreadRow 3 = .ok (.iload_n 1, 1) := by decide +kernel
theorem zd_D_spreadRow_4 : decode zc_D_spreadRow 4 = .ok (.bipush 64, 2) := by decide +kernel
theorem zd_D_spreadRow_6 : decode zc_D_spreadRow 6 = .ok (.if_icmp .ge 100, 3) := by decide +kernel
theorem zd_D_spreadRow_9 : decode zc_D_spreadRow 9 = .ok (.aload_n 0, 1) := by decide +kernel
theorem zd_D_spreadRow_10 : decode zc_D_spreadRow 10 = .ok (.getfield 15, 3) := by decide +kernel
theorem zd_D_spreadRow_13 : decode zc_D_spreadRow 13 = .ok (.iload_n 1, 1) := by decide +kernel
theorem zd_D_spreadRow_14 : decode zc_D_spreadRow 14 = .ok (.bipush 15, 2) := by decide +kernel
theorem zd_D_spreadRow_16 : decode zc_D_spreadRow 16 = .ok (.isub, 1) := by decide +kernel
theorem zd_D_spreadRow_17 : decode zc_D_spreadRow 17 = .ok (.iaload, 1) := by decide +kernel
theorem zd_D_spreadRow_18 : decode zc_D_spreadRow 18 = .ok (.istore_n 2, 1) := by decide +kernel
theorem zd_D_spreadRow_19 : decode zc_D_spreadRow 19 = .ok (.iload_n 2, 1) := by decide +kernel
theorem zd_D_spreadRow_20 : decode zc_D_spreadRow 20 = .ok (.bipush 7, 2) := by decide +kernel
theorem zd_D_spreadRow_22 : decode zc_D_spreadRow 22 = .ok (.invokestatic 50, 3) := by decide +kernel
theorem zd_D_spreadRow_25 : decode zc_D_spreadRow 25 = .ok (.iload_n 2, 1) := by decide +kernel
theorem zd_D_spreadRow_26 : decode zc_D_spreadRow 26 = .ok (.bipush 18, 2) := by decide +kernel
theorem zd_D_spreadRow_28 : decode zc_D_spreadRow 28 = .ok (.invokestatic 50, 3) := by decide +kernel
theorem zd_D_spreadRow_31 : decode zc_D_spreadRow 31 = .ok (.ixor, 1) := by decide +kernel
theorem zd_D_spreadRow_32 : decode zc_D_spreadRow 32 = .ok (.iload_n 2, 1) := by decide +kernel
theorem zd_D_spreadRow_33 : decode zc_D_spreadRow 33 = .ok (.iconst 3, 1) := by decide +kernel
theorem zd_D_spreadRow_34 : decode zc_D_spreadRow 34 = .ok (.iushr, 1) := by decide +kernel
theorem zd_D_spreadRow_35 : decode zc_D_spreadRow 35 = .ok (.ixor, 1) := by decide +kernel
theorem zd_D_spreadRow_36 : decode zc_D_spreadRow 36 = .ok (.istore_n 3, 1) := by decide +kernel
theorem zd_D_spreadRow_37 : decode zc_D_spreadRow 37 = .ok (.aload_n 0, 1) := by decide +kernel
theorem zd_D_spreadRow_38 : decode zc_D_spreadRow 38 = .ok (.getfield 15, 3) := by decide +kernel
theorem zd_D_spreadRow_41 : decode zc_D_spreadRow 41 = .ok (.iload_n 1, 1) := by decide +kernel
theorem zd_D_spreadRow_42 : decode zc_D_spreadRow 42 = .ok (.iconst 2, 1) := by decide +kernel
theorem zd_D_spreadRow_43 : decode zc_D_spreadRow 43 = .ok (.isub, 1) := by decide +kernel
theorem zd_D_spreadRow_44 : decode zc_D_spreadRow 44 = .ok (.iaload, 1) := by decide +kernel
theorem zd_D_spreadRow_45 : decode zc_D_spreadRow 45 = .ok (.istore 4, 2) := by decide +kernel
theorem zd_D_spreadRow_47 : decode zc_D_spreadRow 47 = .ok (.iload 4, 2) := by decide +kernel
theorem zd_D_spreadRow_49 : decode zc_D_spreadRow 49 = .ok (.bipush 17, 2) := by decide +kernel
theorem zd_D_spreadRow_51 : decode zc_D_spreadRow 51 = .ok (.invokestatic 50, 3) := by decide +kernel
theorem zd_D_spreadRow_54 : decode zc_D_spreadRow 54 = .ok (.iload 4, 2) := by decide +kernel
theorem zd_D_spreadRow_56 : decode zc_D_spreadRow 56 = .ok (.bipush 19, 2) := by decide +kernel
theorem zd_D_spreadRow_58 : decode zc_D_spreadRow 58 = .ok (.invokestatic 50, 3) := by decide +kernel
theorem zd_D_spreadRow_61 : decode zc_D_spreadRow 61 = .ok (.ixor, 1) := by decide +kernel
theorem zd_D_spreadRow_62 : decode zc_D_spreadRow 62 = .ok (.iload 4, 2) := by decide +kernel
theorem zd_D_spreadRow_64 : decode zc_D_spreadRow 64 = .ok (.bipush 10, 2) := by decide +kernel
theorem zd_D_spreadRow_66 : decode zc_D_spreadRow 66 = .ok (.iushr, 1) := by decide +kernel
theorem zd_D_spreadRow_67 : decode zc_D_spreadRow 67 = .ok (.ixor, 1) := by decide +kernel
theorem zd_D_spreadRow_68 : decode zc_D_spreadRow 68 = .ok (.istore 5, 2) := by decide +kernel
theorem zd_D_spreadRow_70 : decode zc_D_spreadRow 70 = .ok (.aload_n 0, 1) := by decide +kernel
theorem zd_D_spreadRow_71 : decode zc_D_spreadRow 71 = .ok (.getfield 15, 3) := by decide +kernel
theorem zd_D_spreadRow_74 : decode zc_D_spreadRow 74 = .ok (.iload_n 1, 1) := by decide +kernel
theorem zd_D_spreadRow_75 : decode zc_D_spreadRow 75 = .ok (.aload_n 0, 1) := by decide +kernel
theorem zd_D_spreadRow_76 : decode zc_D_spreadRow 76 = .ok (.getfield 15, 3) := by decide +kernel
theorem zd_D_spreadRow_79 : decode zc_D_spreadRow 79 = .ok (.iload_n 1, 1) := by decide +kernel
theorem zd_D_spreadRow_80 : decode zc_D_spreadRow 80 = .ok (.bipush 16, 2) := by decide +kernel
theorem zd_D_spreadRow_82 : decode zc_D_spreadRow 82 = .ok (.isub, 1) := by decide +kernel
theorem zd_D_spreadRow_83 : decode zc_D_spreadRow 83 = .ok (.iaload, 1) := by decide +kernel
theorem zd_D_spreadRow_84 : decode zc_D_spreadRow 84 = .ok (.iload_n 3, 1) := by decide +kernel
theorem zd_D_spreadRow_85 : decode zc_D_spreadRow 85 = .ok (.iadd, 1) := by decide +kernel
theorem zd_D_spreadRow_86 : decode zc_D_spreadRow 86 = .ok (.aload_n 0, 1) := by decide +kernel
theorem zd_D_spreadRow_87 : decode zc_D_spreadRow 87 = .ok (.getfield 15, 3) := by decide +kernel
theorem zd_D_spreadRow_90 : decode zc_D_spreadRow 90 = .ok (.iload_n 1, 1) := by decide +kernel
theorem zd_D_spreadRow_91 : decode zc_D_spreadRow 91 = .ok (.bipush 7, 2) := by decide +kernel
theorem zd_D_spreadRow_93 : decode zc_D_spreadRow 93 = .ok (.isub, 1) := by decide +kernel
theorem zd_D_spreadRow_94 : decode zc_D_spreadRow 94 = .ok (.iaload, 1) := by decide +kernel
theorem zd_D_spreadRow_95 : decode zc_D_spreadRow 95 = .ok (.iadd, 1) := by decide +kernel
theorem zd_D_spreadRow_96 : decode zc_D_spreadRow 96 = .ok (.iload 5, 2) := by decide +kernel
theorem zd_D_spreadRow_98 : decode zc_D_spreadRow 98 = .ok (.iadd, 1) := by decide +kernel
theorem zd_D_spreadRow_99 : decode zc_D_spreadRow 99 = .ok (.iastore, 1) := by decide +kernel
theorem zd_D_spreadRow_100 : decode zc_D_spreadRow 100 = .ok (.iinc 1 1, 3) := by decide +kernel
theorem zd_D_spreadRow_103 : decode zc_D_spreadRow 103 = .ok (.goto (-100), 3) := by decide +kernel
theorem zd_D_spreadRow_106 : decode zc_D_spreadRow 106 = .ok (.return_, 1) := by decide +kernel
theorem zd_D_turn_0 : decode zc_D_turn 0 = .ok (.iload_n 0, 1) := by decide +kernel
theorem zd_D_turn_1 : decode zc_D_turn 1 = .ok (.iload_n 1, 1) := by decide +kernel
theorem zd_D_turn_2 : decode zc_D_turn 2 = .ok (.iushr, 1) := by decide +kernel
theorem zd_D_turn_3 : decode zc_D_turn 3 = .ok (.iload_n 0, 1) := by decide +kernel
theorem zd_D_turn_4 : decode zc_D_turn 4 = .ok (.bipush 32, 2) := by decide +kernel
theorem zd_D_turn_6 : decode zc_D_turn 6 = .ok (.iload_n 1, 1) := by decide +kernel
theorem zd_D_turn_7 : decode zc_D_turn 7 = .ok (.isub, 1) := by decide +kernel
theorem zd_D_turn_8 : decode zc_D_turn 8 = .ok (.ishl, 1) := by decide +kernel
theorem zd_D_turn_9 : decode zc_D_turn 9 = .ok (.ior, 1) := by decide +kernel
theorem zd_D_turn_10 : decode zc_D_turn 10 = .ok (.ireturn, 1) := by decide +kernel
theorem zd_D_end_0 : decode zc_D_end 0 = .ok (.ldc2_w 35, 3) := by decide +kernel
theorem zd_D_end_3 : decode zc_D_end 3 = .ok (.aload_n 0, 1) := by decide +kernel
theorem zd_D_end_4 : decode zc_D_end 4 = .ok (.getfield 27, 3) := by decide +kernel
theorem zd_D_end_7 : decode zc_D_end 7 = .ok (.i2l, 1) := by decide +kernel
theorem zd_D_end_8 : decode zc_D_end 8 = .ok (.lmul, 1) := by decide +kernel
theorem zd_D_end_9 : decode zc_D_end 9 = .ok (.iload_n 2, 1) := by decide +kernel
theorem zd_D_end_10 : decode zc_D_end 10 = .ok (.i2l, 1) := by decide +kernel
theorem zd_D_end_11 : decode zc_D_end 11 = .ok (.ladd, 1) := by decide +kernel
theorem zd_D_end_12 : decode zc_D_end 12 = .ok (.lstore 5, 2) := by decide +kernel
theorem zd_D_end_14 : decode zc_D_end 14 = .ok (.aload_n 0, 1) := by decide +kernel
theorem zd_D_end_15 : decode zc_D_end 15 = .ok (.iload_n 1, 1) := by decide +kernel
theorem zd_D_end_16 : decode zc_D_end 16 = .ok (.ldc 37, 2) := by decide +kernel
theorem zd_D_end_18 : decode zc_D_end 18 = .ok (.iload_n 2, 1) := by decide +kernel
theorem zd_D_end_19 : decode zc_D_end 19 = .ok (.iushr, 1) := by decide +kernel
theorem zd_D_end_20 : decode zc_D_end 20 = .ok (.ior, 1) := by decide +kernel
theorem zd_D_end_21 : decode zc_D_end 21 = .ok (.invokevirtual 31, 3) := by decide +kernel
theorem zd_D_end_24 : decode zc_D_end 24 = .ok (.iconst 0, 1) := by decide +kernel
theorem zd_D_end_25 : decode zc_D_end 25 = .ok (.istore 7, 2) := by decide +kernel
theorem zd_D_end_27 : decode zc_D_end 27 = .ok (.iload 7, 2) := by decide +kernel
theorem zd_D_end_29 : decode zc_D_end 29 = .ok (.bipush 16, 2) := by decide +kernel
theorem zd_D_end_31 : decode zc_D_end 31 = .ok (.if_icmp .ge 26, 3) := by decide +kernel
theorem zd_D_end_34 : decode zc_D_end 34 = .ok (.aload_n 0, 1) := by decide +kernel
theorem zd_D_end_35 : decode zc_D_end 35 = .ok (.getfield 27, 3) := by decide +kernel
theorem zd_D_end_38 : decode zc_D_end 38 = .ok (.bipush 16, 2) := by decide +kernel
theorem zd_D_end_40 : decode zc_D_end 40 = .ok (.irem, 1) := by decide +kernel
theorem zd_D_end_41 : decode zc_D_end 41 = .ok (.bipush 14, 2) := by decide +kernel
theorem zd_D_end_43 : decode zc_D_end 43 = .ok (.if_icmp .eq 14, 3) := by decide +kernel
theorem zd_D_end_46 : decode zc_D_end 46 = .ok (.aload_n 0, 1) := by decide +kernel
theorem zd_D_end_47 : decode zc_D_end 47 = .ok (.iconst 0, 1) := by decide +kernel
theorem zd_D_end_48 : decode zc_D_end 48 = .ok (.invokevirtual 31, 3) := by decide +kernel
theorem zd_D_end_51 : decode zc_D_end 51 = .ok (.iinc 7 1, 3) := by decide +kernel
theorem zd_D_end_54 : decode zc_D_end 54 = .ok (.goto (-27), 3) := by decide +kernel
theorem zd_D_end_57 : decode zc_D_end 57 = .ok (.aload_n 0, 1) := by decide +kernel
theorem zd_D_end_58 : decode zc_D_end 58 = .ok (.lload 5, 2) := by decide +kernel
theorem zd_D_end_60 : decode zc_D_end 60 = .ok (.bipush 32, 2) := by decide +kernel
theorem zd_D_end_62 : decode zc_D_end 62 = .ok (.lushr, 1) := by decide +kernel
theorem zd_D_end_63 : decode zc_D_end 63 = .ok (.l2i, 1) := by decide +kernel
theorem zd_D_end_64 : decode zc_D_end 64 = .ok (.invokevirtual 31, 3) := by decide +kernel
theorem zd_D_end_67 : decode zc_D_end 67 = .ok (.aload_n 0, 1) := by decide +kernel
theorem zd_D_end_68 : decode zc_D_end 68 = .ok (.lload 5, 2) := by decide +kernel
theorem zd_D_end_70 : decode zc_D_end 70 = .ok (.l2i, 1) := by decide +kernel
theorem zd_D_end_71 : decode zc_D_end 71 = .ok (.invokevirtual 31, 3) := by decide +kernel
theorem zd_D_end_74 : decode zc_D_end 74 = .ok (.aload_n 0, 1) := by decide +kernel
theorem zd_D_end_75 : decode zc_D_end 75 = .ok (.getfield 9, 3) := by decide +kernel
theorem zd_D_end_78 : decode zc_D_end 78 = .ok (.iconst 0, 1) := by decide +kernel
theorem zd_D_end_79 : decode zc_D_end 79 = .ok (.aload_n 3, 1) := by decide +kernel
theorem zd_D_end_80 : decode zc_D_end 80 = .ok (.iload 4, 2) := by decide +kernel
theorem zd_D_end_82 : decode zc_D_end 82 = .ok (.bipush 8, 2) := by decide +kernel
theorem zd_D_end_84 : decode zc_D_end 84 = .ok (.invokestatic 38, 3) := by decide +kernel
theorem zd_D_end_87 : decode zc_D_end 87 = .ok (.return_, 1) := by decide +kernel
