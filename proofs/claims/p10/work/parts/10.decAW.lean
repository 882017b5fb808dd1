/-! DECODE rows (by wip/names.py) -/
theorem zd_A_fill_0 : decode zc_A_fill 0 = .ok (.iconst 0, 1) := by decide +kernel
theorem zd_A_fill_1 : decode zc_A_fill 1 = .ok (.istore_n 2, 1) := by decide +kernel
theorem zd_A_fill_2 : decode zc_A_fill 2 = .ok (.aload_n 0, 1) := by decide +kernel
theorem zd_A_fill_3 : decode zc_A_fill 3 = .ok (.arraylength, 1) := by decide +kernel
theorem zd_A_fill_4 : decode zc_A_fill 4 = .ok (.istore_n 3, 1) := by decide +kernel
theorem zd_A_fill_5 : decode zc_A_fill 5 = .ok (.iload_n 2, 1) := by decide +kernel
theorem zd_A_fill_6 : decode zc_A_fill 6 = .ok (.iload_n 3, 1) := by decide +kernel
theorem zd_A_fill_7 : decode zc_A_fill 7 = .ok (.if_icmp .ge 13, 3) := by decide +kernel
theorem zd_A_fill_10 : decode zc_A_fill 10 = .ok (.aload_n 0, 1) := by decide +kernel
theorem zd_A_fill_11 : decode zc_A_fill 11 = .ok (.iload_n 2, 1) := by decide +kernel
theorem zd_A_fill_12 : decode zc_A_fill 12 = .ok (.iload_n 1, 1) := by decide +kernel
theorem zd_A_fill_13 : decode zc_A_fill 13 = .ok (.iastore, 1) := by decide +kernel
theorem zd_A_fill_14 : decode zc_A_fill 14 = .ok (.iinc 2 1, 3) := by decide +kernel
theorem zd_A_fill_17 : decode zc_A_fill 17 = .ok (.goto (-12), 3) := by decide +kernel
theorem zd_A_fill_20 : decode zc_A_fill 20 = .ok (.return_, 1) := by decide +kernel
theorem zd_W_atLeast_0 : decode zc_W_atLeast 0 = .ok (.iconst 0, 1) := by decide +kernel
theorem zd_W_atLeast_1 : decode zc_W_atLeast 1 = .ok (.istore_n 2, 1) := by decide +kernel
theorem zd_W_atLeast_2 : decode zc_W_atLeast 2 = .ok (.iload_n 2, 1) := by decide +kernel
theorem zd_W_atLeast_3 : decode zc_W_atLeast 3 = .ok (.bipush 7, 2) := by decide +kernel
theorem zd_W_atLeast_5 : decode zc_W_atLeast 5 = .ok (.if_icmp .ge 17, 3) := by decide +kernel
theorem zd_W_atLeast_8 : decode zc_W_atLeast 8 = .ok (.aload_n 0, 1) := by decide +kernel
theorem zd_W_atLeast_9 : decode zc_W_atLeast 9 = .ok (.iload_n 2, 1) := by decide +kernel
theorem zd_W_atLeast_10 : decode zc_W_atLeast 10 = .ok (.iaload, 1) := by decide +kernel
theorem zd_W_atLeast_11 : decode zc_W_atLeast 11 = .ok (.ifCond .eq 5, 3) := by decide +kernel
theorem zd_W_atLeast_14 : decode zc_W_atLeast 14 = .ok (.iconst 1, 1) := by decide +kernel
theorem zd_W_atLeast_15 : decode zc_W_atLeast 15 = .ok (.ireturn, 1) := by decide +kernel
theorem zd_W_atLeast_16 : decode zc_W_atLeast 16 = .ok (.iinc 2 1, 3) := by decide +kernel
theorem zd_W_atLeast_19 : decode zc_W_atLeast 19 = .ok (.goto (-17), 3) := by decide +kernel
theorem zd_W_atLeast_22 : decode zc_W_atLeast 22 = .ok (.aload_n 0, 1) := by decide +kernel
theorem zd_W_atLeast_23 : decode zc_W_atLeast 23 = .ok (.bipush 7, 2) := by decide +kernel
theorem zd_W_atLeast_25 : decode zc_W_atLeast 25 = .ok (.iaload, 1) := by decide +kernel
theorem zd_W_atLeast_26 : decode zc_W_atLeast 26 = .ok (.i2l, 1) := by decide +kernel
theorem zd_W_atLeast_27 : decode zc_W_atLeast 27 = .ok (.ldc2_w 15, 3) := by decide +kernel
theorem zd_W_atLeast_30 : decode zc_W_atLeast 30 = .ok (.land, 1) := by decide +kernel
theorem zd_W_atLeast_31 : decode zc_W_atLeast 31 = .ok (.iload_n 1, 1) := by decide +kernel
theorem zd_W_atLeast_32 : decode zc_W_atLeast 32 = .ok (.i2l, 1) := by decide +kernel
theorem zd_W_atLeast_33 : decode zc_W_atLeast 33 = .ok (.lcmp, 1) := by decide +kernel
theorem zd_W_atLeast_34 : decode zc_W_atLeast 34 = .ok (.ifCond .lt 7, 3) := by decide +kernel
theorem zd_W_atLeast_37 : decode zc_W_atLeast 37 = .ok (.iconst 1, 1) := by decide +kernel
theorem zd_W_atLeast_38 : decode zc_W_atLeast 38 = .ok (.goto 4, 3) := by decide +kernel
theorem zd_W_atLeast_41 : decode zc_W_atLeast 41 = .ok (.iconst 0, 1) := by decide +kernel
theorem zd_W_atLeast_42 : decode zc_W_atLeast 42 = .ok (.ireturn, 1) := by decide +kernel
theorem zd_W_subtract_0 : decode zc_W_subtract 0 = .ok (.iload_n 1, 1) := by decide +kernel
theorem zd_W_subtract_1 : decode zc_W_subtract 1 = .ok (.i2l, 1) := by decide +kernel
theorem zd_W_subtract_2 : decode zc_W_subtract 2 = .ok (.lstore_n 3, 1) := by decide +kernel
theorem zd_W_subtract_3 : decode zc_W_subtract 3 = .ok (.bipush 7, 2) := by decide +kernel
theorem zd_W_subtract_5 : decode zc_W_subtract 5 = .ok (.istore 5, 2) := by decide +kernel
theorem zd_W_subtract_7 : decode zc_W_subtract 7 = .ok (.iload 5, 2) := by decide +kernel
theorem zd_W_subtract_9 : decode zc_W_subtract 9 = .ok (.ifCond .lt 42, 3) := by decide +kernel
theorem zd_W_subtract_12 : decode zc_W_subtract 12 = .ok (.aload_n 0, 1) := by decide +kernel
theorem zd_W_subtract_13 : decode zc_W_subtract 13 = .ok (.iload 5, 2) := by decide +kernel
theorem zd_W_subtract_15 : decode zc_W_subtract 15 = .ok (.iaload, 1) := by decide +kernel
theorem zd_W_subtract_16 : decode zc_W_subtract 16 = .ok (.i2l, 1) := by decide +kernel
theorem zd_W_subtract_17 : decode zc_W_subtract 17 = .ok (.ldc2_w 15, 3) := by decide +kernel
theorem zd_W_subtract_20 : decode zc_W_subtract 20 = .ok (.land, 1) := by decide +kernel
theorem zd_W_subtract_21 : decode zc_W_subtract 21 = .ok (.lload_n 3, 1) := by decide +kernel
theorem zd_W_subtract_22 : decode zc_W_subtract 22 = .ok (.lsub, 1) := by decide +kernel
theorem zd_W_subtract_23 : decode zc_W_subtract 23 = .ok (.lstore 6, 2) := by decide +kernel
theorem zd_W_subtract_25 : decode zc_W_subtract 25 = .ok (.aload_n 2, 1) := by decide +kernel
theorem zd_W_subtract_26 : decode zc_W_subtract 26 = .ok (.iload 5, 2) := by decide +kernel
theorem zd_W_subtract_28 : decode zc_W_subtract 28 = .ok (.lload 6, 2) := by decide +kernel
theorem zd_W_subtract_30 : decode zc_W_subtract 30 = .ok (.l2i, 1) := by decide +kernel
theorem zd_W_subtract_31 : decode zc_W_subtract 31 = .ok (.iastore, 1) := by decide +kernel
theorem zd_W_subtract_32 : decode zc_W_subtract 32 = .ok (.lload 6, 2) := by decide +kernel
theorem zd_W_subtract_34 : decode zc_W_subtract 34 = .ok (.lconst 0, 1) := by decide +kernel
theorem zd_W_subtract_35 : decode zc_W_subtract 35 = .ok (.lcmp, 1) := by decide +kernel
theorem zd_W_subtract_36 : decode zc_W_subtract 36 = .ok (.ifCond .ge 7, 3) := by decide +kernel
theorem zd_W_subtract_39 : decode zc_W_subtract 39 = .ok (.lconst 1, 1) := by decide +kernel
theorem zd_W_subtract_40 : decode zc_W_subtract 40 = .ok (.goto 4, 3) := by decide +kernel
theorem zd_W_subtract_43 : decode zc_W_subtract 43 = .ok (.lconst 0, 1) := by decide +kernel
theorem zd_W_subtract_44 : decode zc_W_subtract 44 = .ok (.lstore_n 3, 1) := by decide +kernel
theorem zd_W_subtract_45 : decode zc_W_subtract 45 = .ok (.iinc 5 (-1), 3) := by decide +kernel
theorem zd_W_subtract_48 : decode zc_W_subtract 48 = .ok (.goto (-41), 3) := by decide +kernel
theorem zd_W_subtract_51 : decode zc_W_subtract 51 = .ok (.return_, 1) := by decide +kernel
theorem zd_W_compare_0 : decode zc_W_compare 0 = .ok (.iconst 0, 1) := by decide +kernel
theorem zd_W_compare_1 : decode zc_W_compare 1 = .ok (.istore_n 2, 1) := by decide +kernel
theorem zd_W_compare_2 : decode zc_W_compare 2 = .ok (.iload_n 2, 1) := by decide +kernel
theorem zd_W_compare_3 : decode zc_W_compare 3 = .ok (.bipush 8, 2) := by decide +kernel
theorem zd_W_compare_5 : decode zc_W_compare 5 = .ok (.if_icmp .ge 44, 3) := by decide +kernel
theorem zd_W_compare_8 : decode zc_W_compare 8 = .ok (.aload_n 0, 1) := by decide +kernel
theorem zd_W_compare_9 : decode zc_W_compare 9 = .ok (.iload_n 2, 1) := by decide +kernel
theorem zd_W_compare_10 : decode zc_W_compare 10 = .ok (.iaload, 1) := by decide +kernel
theorem zd_W_compare_11 : decode zc_W_compare 11 = .ok (.aload_n 1, 1) := by decide +kernel
theorem zd_W_compare_12 : decode zc_W_compare 12 = .ok (.iload_n 2, 1) := by decide +kernel
theorem zd_W_compare_13 : decode zc_W_compare 13 = .ok (.iaload, 1) := by decide +kernel
theorem zd_W_compare_14 : decode zc_W_compare 14 = .ok (.if_icmp .eq 29, 3) := by decide +kernel
theorem zd_W_compare_17 : decode zc_W_compare 17 = .ok (.aload_n 0, 1) := by decide +kernel
theorem zd_W_compare_18 : decode zc_W_compare 18 = .ok (.iload_n 2, 1) := by decide +kernel
theorem zd_W_compare_19 : decode zc_W_compare 19 = .ok (.iaload, 1) := by decide +kernel
theorem zd_W_compare_20 : decode zc_W_compare 20 = .ok (.i2l, 1) := by decide +kernel
theorem zd_W_compare_21 : decode zc_W_compare 21 = .ok (.ldc2_w 15, 3) := by decide +kernel
theorem zd_W_compare_24 : decode zc_W_compare 24 = .ok (.land, 1) := by decide +kernel
theorem zd_W_compare_25 : decode zc_W_compare 25 = .ok (.aload_n 1, 1) := by decide +kernel
theorem zd_W_compare_26 : decode zc_W_compare 26 = .ok (.iload_n 2, 1) := by decide +kernel
theorem zd_W_compare_27 : decode zc_W_compare 27 = .ok (.iaload, 1) := by decide +kernel
theorem zd_W_compare_28 : decode zc_W_compare 28 = .ok (.i2l, 1) := by decide +kernel
theorem zd_W_compare_29 : decode zc_W_compare 29 = .ok (.ldc2_w 15, 3) := by decide +kernel
theorem zd_W_compare_32 : decode zc_W_compare 32 = .ok (.land, 1) := by decide +kernel
theorem zd_W_compare_33 : decode zc_W_compare 33 = .ok (.lcmp, 1) := by decide +kernel
theorem zd_W_compare_34 : decode zc_W_compare 34 = .ok (.ifCond .ge 7, 3) := by decide +kernel
theorem zd_W_compare_37 : decode zc_W_compare 37 = .ok (.iconst (-1), 1) := by decide +kernel
theorem zd_W_compare_38 : decode zc_W_compare 38 = .ok (.goto 4, 3) := by decide +kernel
theorem zd_W_compare_41 : decode zc_W_compare 41 = .ok (.iconst 1, 1) := by decide +kernel
theorem zd_W_compare_42 : decode zc_W_compare 42 = .ok (.ireturn, 1) := by decide +kernel
theorem zd_W_compare_43 : decode zc_W_compare 43 = .ok (.iinc 2 1, 3) := by decide +kernel
theorem zd_W_compare_46 : decode zc_W_compare 46 = .ok (.goto (-44), 3) := by decide +kernel
theorem zd_W_compare_49 : decode zc_W_compare 49 = .ok (.iconst 0, 1) := by decide +kernel
theorem zd_W_compare_50 : decode zc_W_compare 50 = .ok (.ireturn, 1) := by decide +kernel
theorem zd_W_multiply_0 : decode zc_W_multiply 0 = .ok (.aload_n 2, 1) := by decide +kernel
theorem zd_W_multiply_1 : decode zc_W_multiply 1 = .ok (.iconst 0, 1) := by decide +kernel
theorem zd_W_multiply_2 : decode zc_W_multiply 2 = .ok (.invokestatic 17, 3) := by decide +kernel
theorem zd_W_multiply_5 : decode zc_W_multiply 5 = .ok (.bipush 7, 2) := by decide +kernel
theorem zd_W_multiply_7 : decode zc_W_multiply 7 = .ok (.istore_n 3, 1) := by decide +kernel
theorem zd_W_multiply_8 : decode zc_W_multiply 8 = .ok (.iload_n 3, 1) := by decide +kernel
theorem zd_W_multiply_9 : decode zc_W_multiply 9 = .ok (.ifCond .lt 32, 3) := by decide +kernel
theorem zd_W_multiply_12 : decode zc_W_multiply 12 = .ok (.aload_n 0, 1) := by decide +kernel
theorem zd_W_multiply_13 : decode zc_W_multiply 13 = .ok (.iload_n 3, 1) := by decide +kernel
theorem zd_W_multiply_14 : decode zc_W_multiply 14 = .ok (.iaload, 1) := by decide +kernel
theorem zd_W_multiply_15 : decode zc_W_multiply 15 = .ok (.ifCond .eq 20, 3) := by decide +kernel
theorem zd_W_multiply_18 : decode zc_W_multiply 18 = .ok (.aload_n 2, 1) := by decide +kernel
theorem zd_W_multiply_19 : decode zc_W_multiply 19 = .ok (.iload_n 3, 1) := by decide +kernel
theorem zd_W_multiply_20 : decode zc_W_multiply 20 = .ok (.aload_n 0, 1) := by decide +kernel
theorem zd_W_multiply_21 : decode zc_W_multiply 21 = .ok (.iload_n 3, 1) := by decide +kernel
theorem zd_W_multiply_22 : decode zc_W_multiply 22 = .ok (.iaload, 1) := by decide +kernel
theorem zd_W_multiply_23 : decode zc_W_multiply 23 = .ok (.i2l, 1) := by decide +kernel
theorem zd_W_multiply_24 : decode zc_W_multiply 24 = .ok (.ldc2_w 15, 3) := by decide +kernel
theorem zd_W_multiply_27 : decode zc_W_multiply 27 = .ok (.land, 1) := by decide +kernel
theorem zd_W_multiply_28 : decode zc_W_multiply 28 = .ok (.aload_n 1, 1) := by decide +kernel
theorem zd_W_multiply_29 : decode zc_W_multiply 29 = .ok (.aload_n 2, 1) := by decide +kernel
theorem zd_W_multiply_30 : decode zc_W_multiply 30 = .ok (.iload_n 3, 1) := by decide +kernel
theorem zd_W_multiply_31 : decode zc_W_multiply 31 = .ok (.invokestatic 23, 3) := by decide +kernel
theorem zd_W_multiply_34 : decode zc_W_multiply 34 = .ok (.iastore, 1) := by decide +kernel
theorem zd_W_multiply_35 : decode zc_W_multiply 35 = .ok (.iinc 3 (-1), 3) := by decide +kernel
theorem zd_W_multiply_38 : decode zc_W_multiply 38 = .ok (.goto (-30), 3) := by decide +kernel
theorem zd_W_multiply_41 : decode zc_W_multiply 41 = .ok (.return_, 1) := by decide +kernel
theorem zd_W_addMultiple_0 : decode zc_W_addMultiple 0 = .ok (.lconst 0, 1) := by decide +kernel
theorem zd_W_addMultiple_1 : decode zc_W_addMultiple 1 = .ok (.lstore 5, 2) := by decide +kernel
theorem zd_W_addMultiple_3 : decode zc_W_addMultiple 3 = .ok (.bipush 7, 2) := by decide +kernel
theorem zd_W_addMultiple_5 : decode zc_W_addMultiple 5 = .ok (.istore 7, 2) := by decide +kernel
theorem zd_W_addMultiple_7 : decode zc_W_addMultiple 7 = .ok (.iload 7, 2) := by decide +kernel
theorem zd_W_addMultiple_9 : decode zc_W_addMultiple 9 = .ok (.ifCond .lt 59, 3) := by decide +kernel
theorem zd_W_addMultiple_12 : decode zc_W_addMultiple 12 = .ok (.lload_n 0, 1) := by decide +kernel
theorem zd_W_addMultiple_13 : decode zc_W_addMultiple 13 = .ok (.aload_n 2, 1) := by decide +kernel
theorem zd_W_addMultiple_14 : decode zc_W_addMultiple 14 = .ok (.iload 7, 2) := by decide +kernel
theorem zd_W_addMultiple_16 : decode zc_W_addMultiple 16 = .ok (.iaload, 1) := by decide +kernel
theorem zd_W_addMultiple_17 : decode zc_W_addMultiple 17 = .ok (.i2l, 1) := by decide +kernel
theorem zd_W_addMultiple_18 : decode zc_W_addMultiple 18 = .ok (.ldc2_w 15, 3) := by decide +kernel
theorem zd_W_addMultiple_21 : decode zc_W_addMultiple 21 = .ok (.land, 1) := by decide +kernel
theorem zd_W_addMultiple_22 : decode zc_W_addMultiple 22 = .ok (.lmul, 1) := by decide +kernel
theorem zd_W_addMultiple_23 : decode zc_W_addMultiple 23 = .ok (.aload_n 3, 1) := by decide +kernel
theorem zd_W_addMultiple_24 : decode zc_W_addMultiple 24 = .ok (.iload 4, 2) := by decide +kernel
theorem zd_W_addMultiple_26 : decode zc_W_addMultiple 26 = .ok (.iconst 1, 1) := by decide +kernel
theorem zd_W_addMultiple_27 : decode zc_W_addMultiple 27 = .ok (.iadd, 1) := by decide +kernel
theorem zd_W_addMultiple_28 : decode zc_W_addMultiple 28 = .ok (.iload 7, 2) := by decide +kernel
theorem zd_W_addMultiple_30 : decode zc_W_addMultiple 30 = .ok (.iadd, 1) := by decide +kernel
theorem zd_W_addMultiple_31 : decode zc_W_addMultiple 31 = .ok (.iaload, 1) := by decide +kernel
theorem zd_W_addMultiple_32 : decode zc_W_addMultiple 32 = .ok (.i2l, 1) := by decide +kernel
theorem zd_W_addMultiple_33 : decode zc_W_addMultiple 33 = .ok (.ldc2_w 15, 3) := by decide +kernel
theorem zd_W_addMultiple_36 : decode zc_W_addMultiple 36 = .ok (.land, 1) := by decide +kernel
theorem zd_W_addMultiple_37 : decode zc_W_addMultiple 37 = .ok (.ladd, 1) := by decide +kernel
theorem zd_W_addMultiple_38 : decode zc_W_addMultiple 38 = .ok (.lload 5, 2) := by decide +kernel
theorem zd_W_addMultiple_40 : decode zc_W_addMultiple 40 = .ok (.ladd, 1) := by decide +kernel
theorem zd_W_addMultiple_41 : decode zc_W_addMultiple 41 = .ok (.lstore 8, 2) := by decide +kernel
theorem zd_W_addMultiple_43 : decode zc_W_addMultiple 43 = .ok (.aload_n 3, 1) := by decide +kernel
theorem zd_W_addMultiple_44 : decode zc_W_addMultiple 44 = .ok (.iload 4, 2) := by decide +kernel
theorem zd_W_addMultiple_46 : decode zc_W_addMultiple 46 = .ok (.iconst 1, 1) := by decide +kernel
theorem zd_W_addMultiple_47 : decode zc_W_addMultiple 47 = .ok (.iadd, 1) := by decide +kernel
theorem zd_W_addMultiple_48 : decode zc_W_addMultiple 48 = .ok (.iload 7, 2) := by decide +kernel
theorem zd_W_addMultiple_50 : decode zc_W_addMultiple 50 = .ok (.iadd, 1) := by decide +kernel
theorem zd_W_addMultiple_51 : decode zc_W_addMultiple 51 = .ok (.lload 8, 2) := by decide +kernel
theorem zd_W_addMultiple_53 : decode zc_W_addMultiple 53 = .ok (.l2i, 1) := by decide +kernel
theorem zd_W_addMultiple_54 : decode zc_W_addMultiple 54 = .ok (.iastore, 1) := by decide +kernel
theorem zd_W_addMultiple_55 : decode zc_W_addMultiple 55 = .ok (.lload 8, 2) := by decide +kernel
theorem zd_W_addMultiple_57 : decode zc_W_addMultiple 57 = .ok (.bipush 32, 2) := by decide +kernel
theorem zd_W_addMultiple_59 : decode zc_W_addMultiple 59 = .ok (.lushr, 1) := by decide +kernel
theorem zd_W_addMultiple_60 : decode zc_W_addMultiple 60 = .ok (.lstore 5, 2) := by decide +kernel
theorem zd_W_addMultiple_62 : decode zc_W_addMultiple 62 = .ok (.iinc 7 (-1), 3) := by decide +kernel
theorem zd_W_addMultiple_65 : decode zc_W_addMultiple 65 = .ok (.goto (-58), 3) := by decide +kernel
theorem zd_W_addMultiple_68 : decode zc_W_addMultiple 68 = .ok (.lload 5, 2) := by decide +kernel
theorem zd_W_addMultiple_70 : decode zc_W_addMultiple 70 = .ok (.l2i, 1) := by decide +kernel
theorem zd_W_addMultiple_71 : decode zc_W_addMultiple 71 = .ok (.ireturn, 1) := by decide +kernel
theorem zd_W_leadingZeros_0 : decode zc_W_leadingZeros 0 = .ok (.iconst 0, 1) := by decide +kernel
theorem zd_W_leadingZeros_1 : decode zc_W_leadingZeros 1 = .ok (.istore_n 1, 1) := by decide +kernel
theorem zd_W_leadingZeros_2 : decode zc_W_leadingZeros 2 = .ok (.iload_n 1, 1) := by decide +kernel
theorem zd_W_leadingZeros_3 : decode zc_W_leadingZeros 3 = .ok (.sipush 256, 3) := by decide +kernel
theorem zd_W_leadingZeros_6 : decode zc_W_leadingZeros 6 = .ok (.if_icmp .ge 17, 3) := by decide +kernel
theorem zd_W_leadingZeros_9 : decode zc_W_leadingZeros 9 = .ok (.aload_n 0, 1) := by decide +kernel
theorem zd_W_leadingZeros_10 : decode zc_W_leadingZeros 10 = .ok (.iload_n 1, 1) := by decide +kernel
theorem zd_W_leadingZeros_11 : decode zc_W_leadingZeros 11 = .ok (.invokestatic 29, 3) := by decide +kernel
theorem zd_W_leadingZeros_14 : decode zc_W_leadingZeros 14 = .ok (.ifCond .ne 9, 3) := by decide +kernel
theorem zd_W_leadingZeros_17 : decode zc_W_leadingZeros 17 = .ok (.iinc 1 1, 3) := by decide +kernel
theorem zd_W_leadingZeros_20 : decode zc_W_leadingZeros 20 = .ok (.goto (-18), 3) := by decide +kernel
theorem zd_W_leadingZeros_23 : decode zc_W_leadingZeros 23 = .ok (.iload_n 1, 1) := by decide +kernel
theorem zd_W_leadingZeros_24 : decode zc_W_leadingZeros 24 = .ok (.ireturn, 1) := by decide +kernel
theorem zd_W_hasBit_0 : decode zc_W_hasBit 0 = .ok (.aload_n 0, 1) := by decide +kernel
theorem zd_W_hasBit_1 : decode zc_W_hasBit 1 = .ok (.iload_n 1, 1) := by decide +kernel
theorem zd_W_hasBit_2 : decode zc_W_hasBit 2 = .ok (.iconst 5, 1) := by decide +kernel
theorem zd_W_hasBit_3 : decode zc_W_hasBit 3 = .ok (.iushr, 1) := by decide +kernel
theorem zd_W_hasBit_4 : decode zc_W_hasBit 4 = .ok (.iaload, 1) := by decide +kernel
theorem zd_W_hasBit_5 : decode zc_W_hasBit 5 = .ok (.iload_n 1, 1) := by decide +kernel
theorem zd_W_hasBit_6 : decode zc_W_hasBit 6 = .ok (.bipush 31, 2) := by decide +kernel
theorem zd_W_hasBit_8 : decode zc_W_hasBit 8 = .ok (.iand, 1) := by decide +kernel
theorem zd_W_hasBit_9 : decode zc_W_hasBit 9 = .ok (.ishl, 1) := by decide +kernel
theorem zd_W_hasBit_10 : decode zc_W_hasBit 10 = .ok (.ifCond .ge 7, 3) := by decide +kernel
theorem zd_W_hasBit_13 : decode zc_W_hasBit 13 = .ok (.iconst 1, 1) := by decide +kernel
theorem zd_W_hasBit_14 : decode zc_W_hasBit 14 = .ok (.goto 4, 3) := by decide +kernel
theorem zd_W_hasBit_17 : decode zc_W_hasBit 17 = .ok (.iconst 0, 1) := by decide +kernel
theorem zd_W_hasBit_18 : decode zc_W_hasBit 18 = .ok (.ireturn, 1) := by decide +kernel
theorem zd_W_shiftLeft_0 : decode zc_W_shiftLeft 0 = .ok (.iload_n 1, 1) := by decide +kernel
theorem zd_W_shiftLeft_1 : decode zc_W_shiftLeft 1 = .ok (.iconst 5, 1) := by decide +kernel
theorem zd_W_shiftLeft_2 : decode zc_W_shiftLeft 2 = .ok (.iushr, 1) := by decide +kernel
theorem zd_W_shiftLeft_3 : decode zc_W_shiftLeft 3 = .ok (.istore_n 3, 1) := by decide +kernel
theorem zd_W_shiftLeft_4 : decode zc_W_shiftLeft 4 = .ok (.iconst 0, 1) := by decide +kernel
theorem zd_W_shiftLeft_5 : decode zc_W_shiftLeft 5 = .ok (.istore 4, 2) := by decide +kernel
theorem zd_W_shiftLeft_7 : decode zc_W_shiftLeft 7 = .ok (.iload 4, 2) := by decide +kernel
theorem zd_W_shiftLeft_9 : decode zc_W_shiftLeft 9 = .ok (.bipush 8, 2) := by decide +kernel
theorem zd_W_shiftLeft_11 : decode zc_W_shiftLeft 11 = .ok (.if_icmp .ge 48, 3) := by decide +kernel
theorem zd_W_shiftLeft_14 : decode zc_W_shiftLeft 14 = .ok (.aload_n 0, 1) := by decide +kernel
theorem zd_W_shiftLeft_15 : decode zc_W_shiftLeft 15 = .ok (.iload 4, 2) := by decide +kernel
theorem zd_W_shiftLeft_17 : decode zc_W_shiftLeft 17 = .ok (.iload_n 3, 1) := by decide +kernel
theorem zd_W_shiftLeft_18 : decode zc_W_shiftLeft 18 = .ok (.iadd, 1) := by decide +kernel
theorem zd_W_shiftLeft_19 : decode zc_W_shiftLeft 19 = .ok (.invokestatic 33, 3) := by decide +kernel
theorem zd_W_shiftLeft_22 : decode zc_W_shiftLeft 22 = .ok (.bipush 32, 2) := by decide +kernel
theorem zd_W_shiftLeft_24 : decode zc_W_shiftLeft 24 = .ok (.lshl, 1) := by decide +kernel
theorem zd_W_shiftLeft_25 : decode zc_W_shiftLeft 25 = .ok (.aload_n 0, 1) := by decide +kernel
theorem zd_W_shiftLeft_26 : decode zc_W_shiftLeft 26 = .ok (.iload 4, 2) := by decide +kernel
theorem zd_W_shiftLeft_28 : decode zc_W_shiftLeft 28 = .ok (.iload_n 3, 1) := by decide +kernel
theorem zd_W_shiftLeft_29 : decode zc_W_shiftLeft 29 = .ok (.iadd, 1) := by decide +kernel
theorem zd_W_shiftLeft_30 : decode zc_W_shiftLeft 30 = .ok (.iconst 1, 1) := by decide +kernel
theorem zd_W_shiftLeft_31 : decode zc_W_shiftLeft 31 = .ok (.iadd, 1) := by decide +kernel
theorem zd_W_shiftLeft_32 : decode zc_W_shiftLeft 32 = .ok (.invokestatic 33, 3) := by decide +kernel
theorem zd_W_shiftLeft_35 : decode zc_W_shiftLeft 35 = .ok (.lor, 1) := by decide +kernel
theorem zd_W_shiftLeft_36 : decode zc_W_shiftLeft 36 = .ok (.lstore 5, 2) := by decide +kernel
theorem zd_W_shiftLeft_38 : decode zc_W_shiftLeft 38 = .ok (.aload_n 2, 1) := by decide +kernel
theorem zd_W_shiftLeft_39 : decode zc_W_shiftLeft 39 = .ok (.iload 4, 2) := by decide +kernel
theorem zd_W_shiftLeft_41 : decode zc_W_shiftLeft 41 = .ok (.lload 5, 2) := by decide +kernel
theorem zd_W_shiftLeft_43 : decode zc_W_shiftLeft 43 = .ok (.iload_n 1, 1) := by decide +kernel
theorem zd_W_shiftLeft_44 : decode zc_W_shiftLeft 44 = .ok (.bipush 31, 2) := by decide +kernel
theorem zd_W_shiftLeft_46 : decode zc_W_shiftLeft 46 = .ok (.iand, 1) := by decide +kernel
theorem zd_W_shiftLeft_47 : decode zc_W_shiftLeft 47 = .ok (.lshl, 1) := by decide +kernel
theorem zd_W_shiftLeft_48 : decode zc_W_shiftLeft 48 = .ok (.bipush 32, 2) := by decide +kernel
theorem zd_W_shiftLeft_50 : decode zc_W_shiftLeft 50 = .ok (.lushr, 1) := by decide +kernel
theorem zd_W_shiftLeft_51 : decode zc_W_shiftLeft 51 = .ok (.l2i, 1) := by decide +kernel
theorem zd_W_shiftLeft_52 : decode zc_W_shiftLeft 52 = .ok (.iastore, 1) := by decide +kernel
theorem zd_W_shiftLeft_53 : decode zc_W_shiftLeft 53 = .ok (.iinc 4 1, 3) := by decide +kernel
theorem zd_W_shiftLeft_56 : decode zc_W_shiftLeft 56 = .ok (.goto (-49), 3) := by decide +kernel
theorem zd_W_shiftLeft_59 : decode zc_W_shiftLeft 59 = .ok (.return_, 1) := by decide +kernel
theorem zd_W_wordOrZero_0 : decode zc_W_wordOrZero 0 = .ok (.iload_n 1, 1) := by decide +kernel
theorem zd_W_wordOrZero_1 : decode zc_W_wordOrZero 1 = .ok (.ifCond .lt 20, 3) := by decide +kernel
theorem zd_W_wordOrZero_4 : decode zc_W_wordOrZero 4 = .ok (.iload_n 1, 1) := by decide +kernel
theorem zd_W_wordOrZero_5 : decode zc_W_wordOrZero 5 = .ok (.bipush 8, 2) := by decide +kernel
theorem zd_W_wordOrZero_7 : decode zc_W_wordOrZero 7 = .ok (.if_icmp .ge 14, 3) := by decide +kernel
theorem zd_W_wordOrZero_10 : decode zc_W_wordOrZero 10 = .ok (.aload_n 0, 1) := by decide +kernel
theorem zd_W_wordOrZero_11 : decode zc_W_wordOrZero 11 = .ok (.iload_n 1, 1) := by decide +kernel
theorem zd_W_wordOrZero_12 : decode zc_W_wordOrZero 12 = .ok (.iaload, 1) := by decide +kernel
theorem zd_W_wordOrZero_13 : decode zc_W_wordOrZero 13 = .ok (.i2l, 1) := by decide +kernel
theorem zd_W_wordOrZero_14 : decode zc_W_wordOrZero 14 = .ok (.ldc2_w 15, 3) := by decide +kernel
theorem zd_W_wordOrZero_17 : decode zc_W_wordOrZero 17 = .ok (.land, 1) := by decide +kernel
theorem zd_W_wordOrZero_18 : decode zc_W_wordOrZero 18 = .ok (.goto 4, 3) := by decide +kernel
theorem zd_W_wordOrZero_21 : decode zc_W_wordOrZero 21 = .ok (.lconst 0, 1) := by decide +kernel
theorem zd_W_wordOrZero_22 : decode zc_W_wordOrZero 22 = .ok (.lreturn, 1) := by decide +kernel
theorem zd_W_shiftRight_0 : decode zc_W_shiftRight 0 = .ok (.iload_n 1, 1) := by decide +kernel
theorem zd_W_shiftRight_1 : decode zc_W_shiftRight 1 = .ok (.iconst 5, 1) := by decide +kernel
theorem zd_W_shiftRight_2 : decode zc_W_shiftRight 2 = .ok (.iushr, 1) := by decide +kernel
theorem zd_W_shiftRight_3 : decode zc_W_shiftRight 3 = .ok (.istore_n 3, 1) := by decide +kernel
theorem zd_W_shiftRight_4 : decode zc_W_shiftRight 4 = .ok (.bipush 7, 2) := by decide +kernel
theorem zd_W_shiftRight_6 : decode zc_W_shiftRight 6 = .ok (.istore 4, 2) := by decide +kernel
theorem zd_W_shiftRight_8 : decode zc_W_shiftRight 8 = .ok (.iload 4, 2) := by decide +kernel
theorem zd_W_shiftRight_10 : decode zc_W_shiftRight 10 = .ok (.ifCond .lt 45, 3) := by decide +kernel
theorem zd_W_shiftRight_13 : decode zc_W_shiftRight 13 = .ok (.aload_n 0, 1) := by decide +kernel
theorem zd_W_shiftRight_14 : decode zc_W_shiftRight 14 = .ok (.iload 4, 2) := by decide +kernel
theorem zd_W_shiftRight_16 : decode zc_W_shiftRight 16 = .ok (.iload_n 3, 1) := by decide +kernel
theorem zd_W_shiftRight_17 : decode zc_W_shiftRight 17 = .ok (.isub, 1) := by decide +kernel
theorem zd_W_shiftRight_18 : decode zc_W_shiftRight 18 = .ok (.iconst 1, 1) := by decide +kernel
theorem zd_W_shiftRight_19 : decode zc_W_shiftRight 19 = .ok (.isub, 1) := by decide +kernel
theorem zd_W_shiftRight_20 : decode zc_W_shiftRight 20 = .ok (.invokestatic 33, 3) := by decide +kernel
theorem zd_W_shiftRight_23 : decode zc_W_shiftRight 23 = .ok (.bipush 32, 2) := by decide +kernel
theorem zd_W_shiftRight_25 : decode zc_W_shiftRight 25 = .ok (.lshl, 1) := by decide +kernel
theorem zd_W_shiftRight_26 : decode zc_W_shiftRight 26 = .ok (.aload_n 0, 1) := by decide +kernel
theorem zd_W_shiftRight_27 : decode zc_W_shiftRight 27 = .ok (.iload 4, 2) := by decide +kernel
theorem zd_W_shiftRight_29 : decode zc_W_shiftRight 29 = .ok (.iload_n 3, 1) := by decide +kernel
theorem zd_W_shiftRight_30 : decode zc_W_shiftRight 30 = .ok (.isub, 1) := by decide +kernel
theorem zd_W_shiftRight_31 : decode zc_W_shiftRight 31 = .ok (.invokestatic 33, 3) := by decide +kernel
theorem zd_W_shiftRight_34 : decode zc_W_shiftRight 34 = .ok (.lor, 1) := by decide +kernel
theorem zd_W_shiftRight_35 : decode zc_W_shiftRight 35 = .ok (.lstore 5, 2) := by decide +kernel
theorem zd_W_shiftRight_37 : decode zc_W_shiftRight 37 = .ok (.aload_n 2, 1) := by decide +kernel
theorem zd_W_shiftRight_38 : decode zc_W_shiftRight 38 = .ok (.iload 4, 2) := by decide +kernel
theorem zd_W_shiftRight_40 : decode zc_W_shiftRight 40 = .ok (.lload 5, 2) := by decide +kernel
theorem zd_W_shiftRight_42 : decode zc_W_shiftRight 42 = .ok (.iload_n 1, 1) := by decide +kernel
theorem zd_W_shiftRight_43 : decode zc_W_shiftRight 43 = .ok (.bipush 31, 2) := by decide +kernel
theorem zd_W_shiftRight_45 : decode zc_W_shiftRight 45 = .ok (.iand, 1) := by decide +kernel
theorem zd_W_shiftRight_46 : decode zc_W_shiftRight 46 = .ok (.lushr, 1) := by decide +kernel
theorem zd_W_shiftRight_47 : decode zc_W_shiftRight 47 = .ok (.l2i, 1) := by decide +kernel
theorem zd_W_shiftRight_48 : decode zc_W_shiftRight 48 = .ok (.iastore, 1) := by decide +kernel
theorem zd_W_shiftRight_49 : decode zc_W_shiftRight 49 = .ok (.iinc 4 (-1), 3) := by decide +kernel
theorem zd_W_shiftRight_52 : decode zc_W_shiftRight 52 = .ok (.goto (-44), 3) := by decide +kernel
theorem zd_W_shiftRight_55 : decode zc_W_shiftRight 55 = .ok (.return_, 1) := by decide +kernel
theorem zd_W_copy_0 : decode zc_W_copy 0 = .ok (.aload_n 0, 1) := by decide +kernel
theorem zd_W_copy_1 : decode zc_W_copy 1 = .ok (.iconst 0, 1) := by decide +kernel
theorem zd_W_copy_2 : decode zc_W_copy 2 = .ok (.aload_n 1, 1) := by decide +kernel
theorem zd_W_copy_3 : decode zc_W_copy 3 = .ok (.iconst 0, 1) := by decide +kernel
theorem zd_W_copy_4 : decode zc_W_copy 4 = .ok (.bipush 8, 2) := by decide +kernel
theorem zd_W_copy_6 : decode zc_W_copy 6 = .ok (.invokestatic 9, 3) := by decide +kernel
theorem zd_W_copy_9 : decode zc_W_copy 9 = .ok (.return_, 1) := by decide +kernel
