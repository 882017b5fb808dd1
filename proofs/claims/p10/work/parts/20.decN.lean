/-! DECODE rows (by wip/names.py) -/
theorem zd_N_number_0 : decode zc_N_number 0 = .ok (.aload_n 0, 1) := by decide +kernel
theorem zd_N_number_1 : decode zc_N_number 1 = .ok (.iload_n 1, 1) := by decide +kernel
theorem zd_N_number_2 : decode zc_N_number 2 = .ok (.ifCond .lt 19, 3) := by decide +kernel
theorem zd_N_number_5 : decode zc_N_number 5 = .ok (.iload_n 1, 1) := by decide +kernel
theorem zd_N_number_6 : decode zc_N_number 6 = .ok (.bipush 6, 2) := by decide +kernel
theorem zd_N_number_8 : decode zc_N_number 8 = .ok (.if_icmp .gt 13, 3) := by decide +kernel
theorem zd_N_number_11 : decode zc_N_number 11 = .ok (.iload_n 2, 1) := by decide +kernel
theorem zd_N_number_12 : decode zc_N_number 12 = .ok (.ifCond .lt 9, 3) := by decide +kernel
theorem zd_N_number_15 : decode zc_N_number 15 = .ok (.iload_n 2, 1) := by decide +kernel
theorem zd_N_number_16 : decode zc_N_number 16 = .ok (.bipush 7, 2) := by decide +kernel
theorem zd_N_number_18 : decode zc_N_number 18 = .ok (.if_icmp .le 7, 3) := by decide +kernel
theorem zd_N_number_21 : decode zc_N_number 21 = .ok (.iconst 1, 1) := by decide +kernel
theorem zd_N_number_22 : decode zc_N_number 22 = .ok (.goto 4, 3) := by decide +kernel
theorem zd_N_number_25 : decode zc_N_number 25 = .ok (.iconst 0, 1) := by decide +kernel
theorem zd_N_number_26 : decode zc_N_number 26 = .ok (.iconst 0, 1) := by decide +kernel
theorem zd_N_number_27 : decode zc_N_number 27 = .ok (.invokevirtual 187, 3) := by decide +kernel
theorem zd_N_number_30 : decode zc_N_number 30 = .ok (.ifCond .ne 15, 3) := by decide +kernel
theorem zd_N_number_33 : decode zc_N_number 33 = .ok (.aload_n 0, 1) := by decide +kernel
theorem zd_N_number_34 : decode zc_N_number 34 = .ok (.getfield 7, 3) := by decide +kernel
theorem zd_N_number_37 : decode zc_N_number 37 = .ok (.bipush 8, 2) := by decide +kernel
theorem zd_N_number_39 : decode zc_N_number 39 = .ok (.iload_n 1, 1) := by decide +kernel
theorem zd_N_number_40 : decode zc_N_number 40 = .ok (.imul, 1) := by decide +kernel
theorem zd_N_number_41 : decode zc_N_number 41 = .ok (.iload_n 2, 1) := by decide +kernel
theorem zd_N_number_42 : decode zc_N_number 42 = .ok (.iadd, 1) := by decide +kernel
theorem zd_N_number_43 : decode zc_N_number 43 = .ok (.iload_n 3, 1) := by decide +kernel
theorem zd_N_number_44 : decode zc_N_number 44 = .ok (.iastore, 1) := by decide +kernel
theorem zd_N_number_45 : decode zc_N_number 45 = .ok (.return_, 1) := by decide +kernel
theorem zd_N_refused_0 : decode zc_N_refused 0 = .ok (.aload_n 0, 1) := by decide +kernel
theorem zd_N_refused_1 : decode zc_N_refused 1 = .ok (.iload_n 1, 1) := by decide +kernel
theorem zd_N_refused_2 : decode zc_N_refused 2 = .ok (.ifCond .eq 7, 3) := by decide +kernel
theorem zd_N_refused_5 : decode zc_N_refused 5 = .ok (.iconst 1, 1) := by decide +kernel
theorem zd_N_refused_6 : decode zc_N_refused 6 = .ok (.goto 12, 3) := by decide +kernel
theorem zd_N_refused_9 : decode zc_N_refused 9 = .ok (.iload_n 2, 1) := by decide +kernel
theorem zd_N_refused_10 : decode zc_N_refused 10 = .ok (.ifCond .eq 7, 3) := by decide +kernel
theorem zd_N_refused_13 : decode zc_N_refused 13 = .ok (.iconst 2, 1) := by decide +kernel
theorem zd_N_refused_14 : decode zc_N_refused 14 = .ok (.goto 4, 3) := by decide +kernel
theorem zd_N_refused_17 : decode zc_N_refused 17 = .ok (.iconst 0, 1) := by decide +kernel
theorem zd_N_refused_18 : decode zc_N_refused 18 = .ok (.putfield 153, 3) := by decide +kernel
theorem zd_N_refused_21 : decode zc_N_refused 21 = .ok (.aload_n 0, 1) := by decide +kernel
theorem zd_N_refused_22 : decode zc_N_refused 22 = .ok (.getfield 153, 3) := by decide +kernel
theorem zd_N_refused_25 : decode zc_N_refused 25 = .ok (.ifCond .le 7, 3) := by decide +kernel
theorem zd_N_refused_28 : decode zc_N_refused 28 = .ok (.iconst 1, 1) := by decide +kernel
theorem zd_N_refused_29 : decode zc_N_refused 29 = .ok (.goto 4, 3) := by decide +kernel
theorem zd_N_refused_32 : decode zc_N_refused 32 = .ok (.iconst 0, 1) := by decide +kernel
theorem zd_N_refused_33 : decode zc_N_refused 33 = .ok (.ireturn, 1) := by decide +kernel
theorem zd_N_small_0 : decode zc_N_small 0 = .ok (.iload_n 1, 1) := by decide +kernel
theorem zd_N_small_1 : decode zc_N_small 1 = .ok (.ifCond .lt 9, 3) := by decide +kernel
theorem zd_N_small_4 : decode zc_N_small 4 = .ok (.iload_n 1, 1) := by decide +kernel
theorem zd_N_small_5 : decode zc_N_small 5 = .ok (.bipush 6, 2) := by decide +kernel
theorem zd_N_small_7 : decode zc_N_small 7 = .ok (.if_icmp .le 7, 3) := by decide +kernel
theorem zd_N_small_10 : decode zc_N_small 10 = .ok (.iconst 1, 1) := by decide +kernel
theorem zd_N_small_11 : decode zc_N_small 11 = .ok (.goto 4, 3) := by decide +kernel
theorem zd_N_small_14 : decode zc_N_small 14 = .ok (.iconst 0, 1) := by decide +kernel
theorem zd_N_small_15 : decode zc_N_small 15 = .ok (.istore 4, 2) := by decide +kernel
theorem zd_N_small_17 : decode zc_N_small 17 = .ok (.aload_n 0, 1) := by decide +kernel
theorem zd_N_small_18 : decode zc_N_small 18 = .ok (.iload 4, 2) := by decide +kernel
theorem zd_N_small_20 : decode zc_N_small 20 = .ok (.lload_n 2, 1) := by decide +kernel
theorem zd_N_small_21 : decode zc_N_small 21 = .ok (.lconst 0, 1) := by decide +kernel
theorem zd_N_small_22 : decode zc_N_small 22 = .ok (.lcmp, 1) := by decide +kernel
theorem zd_N_small_23 : decode zc_N_small 23 = .ok (.ifCond .ge 7, 3) := by decide +kernel
theorem zd_N_small_26 : decode zc_N_small 26 = .ok (.iconst 1, 1) := by decide +kernel
theorem zd_N_small_27 : decode zc_N_small 27 = .ok (.goto 4, 3) := by decide +kernel
theorem zd_N_small_30 : decode zc_N_small 30 = .ok (.iconst 0, 1) := by decide +kernel
theorem zd_N_small_31 : decode zc_N_small 31 = .ok (.invokevirtual 187, 3) := by decide +kernel
theorem zd_N_small_34 : decode zc_N_small 34 = .ok (.ifCond .ne 58, 3) := by decide +kernel
theorem zd_N_small_37 : decode zc_N_small 37 = .ok (.iconst 0, 1) := by decide +kernel
theorem zd_N_small_38 : decode zc_N_small 38 = .ok (.istore 5, 2) := by decide +kernel
theorem zd_N_small_40 : decode zc_N_small 40 = .ok (.iload 5, 2) := by decide +kernel
theorem zd_N_small_42 : decode zc_N_small 42 = .ok (.bipush 8, 2) := by decide +kernel
theorem zd_N_small_44 : decode zc_N_small 44 = .ok (.if_icmp .ge 48, 3) := by decide +kernel
theorem zd_N_small_47 : decode zc_N_small 47 = .ok (.aload_n 0, 1) := by decide +kernel
theorem zd_N_small_48 : decode zc_N_small 48 = .ok (.getfield 7, 3) := by decide +kernel
theorem zd_N_small_51 : decode zc_N_small 51 = .ok (.bipush 8, 2) := by decide +kernel
theorem zd_N_small_53 : decode zc_N_small 53 = .ok (.iload_n 1, 1) := by decide +kernel
theorem zd_N_small_54 : decode zc_N_small 54 = .ok (.imul, 1) := by decide +kernel
theorem zd_N_small_55 : decode zc_N_small 55 = .ok (.iload 5, 2) := by decide +kernel
theorem zd_N_small_57 : decode zc_N_small 57 = .ok (.iadd, 1) := by decide +kernel
theorem zd_N_small_58 : decode zc_N_small 58 = .ok (.iload 5, 2) := by decide +kernel
theorem zd_N_small_60 : decode zc_N_small 60 = .ok (.bipush 6, 2) := by decide +kernel
theorem zd_N_small_62 : decode zc_N_small 62 = .ok (.if_icmp .ge 7, 3) := by decide +kernel
theorem zd_N_small_65 : decode zc_N_small 65 = .ok (.iconst 0, 1) := by decide +kernel
theorem zd_N_small_66 : decode zc_N_small 66 = .ok (.goto 19, 3) := by decide +kernel
theorem zd_N_small_69 : decode zc_N_small 69 = .ok (.iload 5, 2) := by decide +kernel
theorem zd_N_small_71 : decode zc_N_small 71 = .ok (.bipush 6, 2) := by decide +kernel
theorem zd_N_small_73 : decode zc_N_small 73 = .ok (.if_icmp .ne 10, 3) := by decide +kernel
theorem zd_N_small_76 : decode zc_N_small 76 = .ok (.lload_n 2, 1) := by decide +kernel
theorem zd_N_small_77 : decode zc_N_small 77 = .ok (.bipush 32, 2) := by decide +kernel
theorem zd_N_small_79 : decode zc_N_small 79 = .ok (.lshr, 1) := by decide +kernel
theorem zd_N_small_80 : decode zc_N_small 80 = .ok (.goto 4, 3) := by decide +kernel
theorem zd_N_small_83 : decode zc_N_small 83 = .ok (.lload_n 2, 1) := by decide +kernel
theorem zd_N_small_84 : decode zc_N_small 84 = .ok (.l2i, 1) := by decide +kernel
theorem zd_N_small_85 : decode zc_N_small 85 = .ok (.iastore, 1) := by decide +kernel
theorem zd_N_small_86 : decode zc_N_small 86 = .ok (.iinc 5 1, 3) := by decide +kernel
theorem zd_N_small_89 : decode zc_N_small 89 = .ok (.goto (-49), 3) := by decide +kernel
theorem zd_N_small_92 : decode zc_N_small 92 = .ok (.return_, 1) := by decide +kernel
theorem zd_N_offer_0 : decode zc_N_offer 0 = .ok (.aload_n 0, 1) := by decide +kernel
theorem zd_N_offer_1 : decode zc_N_offer 1 = .ok (.iconst 0, 1) := by decide +kernel
theorem zd_N_offer_2 : decode zc_N_offer 2 = .ok (.putfield 153, 3) := by decide +kernel
theorem zd_N_offer_5 : decode zc_N_offer 5 = .ok (.aload_n 0, 1) := by decide +kernel
theorem zd_N_offer_6 : decode zc_N_offer 6 = .ok (.getfield 149, 3) := by decide +kernel
theorem zd_N_offer_9 : decode zc_N_offer 9 = .ok (.ifCond .eq 6, 3) := by decide +kernel
theorem zd_N_offer_12 : decode zc_N_offer 12 = .ok (.bipush (-11), 2) := by decide +kernel
theorem zd_N_offer_14 : decode zc_N_offer 14 = .ok (.ireturn, 1) := by decide +kernel
theorem zd_N_offer_15 : decode zc_N_offer 15 = .ok (.aload_n 0, 1) := by decide +kernel
theorem zd_N_offer_16 : decode zc_N_offer 16 = .ok (.invokevirtual 225, 3) := by decide +kernel
theorem zd_N_offer_19 : decode zc_N_offer 19 = .ok (.ifCond .ne 6, 3) := by decide +kernel
theorem zd_N_offer_22 : decode zc_N_offer 22 = .ok (.bipush (-10), 2) := by decide +kernel
theorem zd_N_offer_24 : decode zc_N_offer 24 = .ok (.ireturn, 1) := by decide +kernel
theorem zd_N_offer_25 : decode zc_N_offer 25 = .ok (.aload_n 0, 1) := by decide +kernel
theorem zd_N_offer_26 : decode zc_N_offer 26 = .ok (.aload_n 0, 1) := by decide +kernel
theorem zd_N_offer_27 : decode zc_N_offer 27 = .ok (.getfield 7, 3) := by decide +kernel
theorem zd_N_offer_30 : decode zc_N_offer 30 = .ok (.bipush 8, 2) := by decide +kernel
theorem zd_N_offer_32 : decode zc_N_offer 32 = .ok (.iconst 4, 1) := by decide +kernel
theorem zd_N_offer_33 : decode zc_N_offer 33 = .ok (.aload_n 0, 1) := by decide +kernel
theorem zd_N_offer_34 : decode zc_N_offer 34 = .ok (.getfield 13, 3) := by decide +kernel
theorem zd_N_offer_37 : decode zc_N_offer 37 = .ok (.iconst 0, 1) := by decide +kernel
theorem zd_N_offer_38 : decode zc_N_offer 38 = .ok (.invokevirtual 229, 3) := by decide +kernel
theorem zd_N_offer_41 : decode zc_N_offer 41 = .ok (.iconst 0, 1) := by decide +kernel
theorem zd_N_offer_42 : decode zc_N_offer 42 = .ok (.istore_n 1, 1) := by decide +kernel
theorem zd_N_offer_43 : decode zc_N_offer 43 = .ok (.iload_n 1, 1) := by decide +kernel
theorem zd_N_offer_44 : decode zc_N_offer 44 = .ok (.bipush 8, 2) := by decide +kernel
theorem zd_N_offer_46 : decode zc_N_offer 46 = .ok (.if_icmp .ge 21, 3) := by decide +kernel
theorem zd_N_offer_49 : decode zc_N_offer 49 = .ok (.aload_n 0, 1) := by decide +kernel
theorem zd_N_offer_50 : decode zc_N_offer 50 = .ok (.getfield 16, 3) := by decide +kernel
theorem zd_N_offer_53 : decode zc_N_offer 53 = .ok (.iload_n 1, 1) := by decide +kernel
theorem zd_N_offer_54 : decode zc_N_offer 54 = .ok (.aload_n 0, 1) := by decide +kernel
theorem zd_N_offer_55 : decode zc_N_offer 55 = .ok (.getfield 13, 3) := by decide +kernel
theorem zd_N_offer_58 : decode zc_N_offer 58 = .ok (.iload_n 1, 1) := by decide +kernel
theorem zd_N_offer_59 : decode zc_N_offer 59 = .ok (.iaload, 1) := by decide +kernel
theorem zd_N_offer_60 : decode zc_N_offer 60 = .ok (.iastore, 1) := by decide +kernel
theorem zd_N_offer_61 : decode zc_N_offer 61 = .ok (.iinc 1 1, 3) := by decide +kernel
theorem zd_N_offer_64 : decode zc_N_offer 64 = .ok (.goto (-21), 3) := by decide +kernel
theorem zd_N_offer_67 : decode zc_N_offer 67 = .ok (.aload_n 0, 1) := by decide +kernel
theorem zd_N_offer_68 : decode zc_N_offer 68 = .ok (.iconst 1, 1) := by decide +kernel
theorem zd_N_offer_69 : decode zc_N_offer 69 = .ok (.putfield 149, 3) := by decide +kernel
theorem zd_N_offer_72 : decode zc_N_offer 72 = .ok (.iconst 1, 1) := by decide +kernel
theorem zd_N_offer_73 : decode zc_N_offer 73 = .ok (.ireturn, 1) := by decide +kernel
theorem zd_N_isGood_0 : decode zc_N_isGood 0 = .ok (.aload_n 0, 1) := by decide +kernel
theorem zd_N_isGood_1 : decode zc_N_isGood 1 = .ok (.getfield 7, 3) := by decide +kernel
theorem zd_N_isGood_4 : decode zc_N_isGood 4 = .ok (.iconst 0, 1) := by decide +kernel
theorem zd_N_isGood_5 : decode zc_N_isGood 5 = .ok (.aload_n 0, 1) := by decide +kernel
theorem zd_N_isGood_6 : decode zc_N_isGood 6 = .ok (.getfield 28, 3) := by decide +kernel
theorem zd_N_isGood_9 : decode zc_N_isGood 9 = .ok (.invokestatic 191, 3) := by decide +kernel
theorem zd_N_isGood_12 : decode zc_N_isGood 12 = .ok (.aload_n 0, 1) := by decide +kernel
theorem zd_N_isGood_13 : decode zc_N_isGood 13 = .ok (.getfield 7, 3) := by decide +kernel
theorem zd_N_isGood_16 : decode zc_N_isGood 16 = .ok (.bipush 8, 2) := by decide +kernel
theorem zd_N_isGood_18 : decode zc_N_isGood 18 = .ok (.aload_n 0, 1) := by decide +kernel
theorem zd_N_isGood_19 : decode zc_N_isGood 19 = .ok (.getfield 34, 3) := by decide +kernel
theorem zd_N_isGood_22 : decode zc_N_isGood 22 = .ok (.invokestatic 191, 3) := by decide +kernel
theorem zd_N_isGood_25 : decode zc_N_isGood 25 = .ok (.aload_n 0, 1) := by decide +kernel
theorem zd_N_isGood_26 : decode zc_N_isGood 26 = .ok (.invokevirtual 208, 3) := by decide +kernel
theorem zd_N_isGood_29 : decode zc_N_isGood 29 = .ok (.aload_n 0, 1) := by decide +kernel
theorem zd_N_isGood_30 : decode zc_N_isGood 30 = .ok (.getfield 28, 3) := by decide +kernel
theorem zd_N_isGood_33 : decode zc_N_isGood 33 = .ok (.iconst 0, 1) := by decide +kernel
theorem zd_N_isGood_34 : decode zc_N_isGood 34 = .ok (.iaload, 1) := by decide +kernel
theorem zd_N_isGood_35 : decode zc_N_isGood 35 = .ok (.iconst 4, 1) := by decide +kernel
theorem zd_N_isGood_36 : decode zc_N_isGood 36 = .ok (.if_icmp .le 7, 3) := by decide +kernel
theorem zd_N_isGood_39 : decode zc_N_isGood 39 = .ok (.iconst 1, 1) := by decide +kernel
theorem zd_N_isGood_40 : decode zc_N_isGood 40 = .ok (.goto 4, 3) := by decide +kernel
theorem zd_N_isGood_43 : decode zc_N_isGood 43 = .ok (.iconst 0, 1) := by decide +kernel
theorem zd_N_isGood_44 : decode zc_N_isGood 44 = .ok (.istore_n 1, 1) := by decide +kernel
theorem zd_N_isGood_45 : decode zc_N_isGood 45 = .ok (.iconst 1, 1) := by decide +kernel
theorem zd_N_isGood_46 : decode zc_N_isGood 46 = .ok (.istore_n 2, 1) := by decide +kernel
theorem zd_N_isGood_47 : decode zc_N_isGood 47 = .ok (.iload_n 2, 1) := by decide +kernel
theorem zd_N_isGood_48 : decode zc_N_isGood 48 = .ok (.bipush 16, 2) := by decide +kernel
theorem zd_N_isGood_50 : decode zc_N_isGood 50 = .ok (.if_icmp .ge 28, 3) := by decide +kernel
theorem zd_N_isGood_53 : decode zc_N_isGood 53 = .ok (.iload_n 1, 1) := by decide +kernel
theorem zd_N_isGood_54 : decode zc_N_isGood 54 = .ok (.ifCond .ne 12, 3) := by decide +kernel
theorem zd_N_isGood_57 : decode zc_N_isGood 57 = .ok (.aload_n 0, 1) := by decide +kernel
theorem zd_N_isGood_58 : decode zc_N_isGood 58 = .ok (.getfield 28, 3) := by decide +kernel
theorem zd_N_isGood_61 : decode zc_N_isGood 61 = .ok (.iload_n 2, 1) := by decide +kernel
theorem zd_N_isGood_62 : decode zc_N_isGood 62 = .ok (.iaload, 1) := by decide +kernel
theorem zd_N_isGood_63 : decode zc_N_isGood 63 = .ok (.ifCond .le 7, 3) := by decide +kernel
theorem zd_N_isGood_66 : decode zc_N_isGood 66 = .ok (.iconst 1, 1) := by decide +kernel
theorem zd_N_isGood_67 : decode zc_N_isGood 67 = .ok (.goto 4, 3) := by decide +kernel
theorem zd_N_isGood_70 : decode zc_N_isGood 70 = .ok (.iconst 0, 1) := by decide +kernel
theorem zd_N_isGood_71 : decode zc_N_isGood 71 = .ok (.istore_n 1, 1) := by decide +kernel
theorem zd_N_isGood_72 : decode zc_N_isGood 72 = .ok (.iinc 2 1, 3) := by decide +kernel
theorem zd_N_isGood_75 : decode zc_N_isGood 75 = .ok (.goto (-28), 3) := by decide +kernel
theorem zd_N_isGood_78 : decode zc_N_isGood 78 = .ok (.iload_n 1, 1) := by decide +kernel
theorem zd_N_isGood_79 : decode zc_N_isGood 79 = .ok (.ifCond .eq 27, 3) := by decide +kernel
theorem zd_N_isGood_82 : decode zc_N_isGood 82 = .ok (.aload_n 0, 1) := by decide +kernel
theorem zd_N_isGood_83 : decode zc_N_isGood 83 = .ok (.getfield 195, 3) := by decide +kernel
theorem zd_N_isGood_86 : decode zc_N_isGood 86 = .ok (.ifCond .eq 20, 3) := by decide +kernel
theorem zd_N_isGood_89 : decode zc_N_isGood 89 = .ok (.aload_n 0, 1) := by decide +kernel
theorem zd_N_isGood_90 : decode zc_N_isGood 90 = .ok (.aload_n 0, 1) := by decide +kernel
theorem zd_N_isGood_91 : decode zc_N_isGood 91 = .ok (.getfield 34, 3) := by decide +kernel
theorem zd_N_isGood_94 : decode zc_N_isGood 94 = .ok (.iconst 2, 1) := by decide +kernel
theorem zd_N_isGood_95 : decode zc_N_isGood 95 = .ok (.iconst 2, 1) := by decide +kernel
theorem zd_N_isGood_96 : decode zc_N_isGood 96 = .ok (.invokevirtual 211, 3) := by decide +kernel
theorem zd_N_isGood_99 : decode zc_N_isGood 99 = .ok (.ifCond .eq 7, 3) := by decide +kernel
theorem zd_N_isGood_102 : decode zc_N_isGood 102 = .ok (.iconst 1, 1) := by decide +kernel
theorem zd_N_isGood_103 : decode zc_N_isGood 103 = .ok (.goto 4, 3) := by decide +kernel
theorem zd_N_isGood_106 : decode zc_N_isGood 106 = .ok (.iconst 0, 1) := by decide +kernel
theorem zd_N_isGood_107 : decode zc_N_isGood 107 = .ok (.ireturn, 1) := by decide +kernel
theorem zd_N_figures_0 : decode zc_N_figures 0 = .ok (.iconst 0, 1) := by decide +kernel
theorem zd_N_figures_1 : decode zc_N_figures 1 = .ok (.istore_n 3, 1) := by decide +kernel
theorem zd_N_figures_2 : decode zc_N_figures 2 = .ok (.iload_n 3, 1) := by decide +kernel
theorem zd_N_figures_3 : decode zc_N_figures 3 = .ok (.bipush 16, 2) := by decide +kernel
theorem zd_N_figures_5 : decode zc_N_figures 5 = .ok (.if_icmp .ge 43, 3) := by decide +kernel
theorem zd_N_figures_8 : decode zc_N_figures 8 = .ok (.aload_n 0, 1) := by decide +kernel
theorem zd_N_figures_9 : decode zc_N_figures 9 = .ok (.iload_n 1, 1) := by decide +kernel
theorem zd_N_figures_10 : decode zc_N_figures 10 = .ok (.bipush 7, 2) := by decide +kernel
theorem zd_N_figures_12 : decode zc_N_figures 12 = .ok (.iadd, 1) := by decide +kernel
theorem zd_N_figures_13 : decode zc_N_figures 13 = .ok (.iload_n 3, 1) := by decide +kernel
theorem zd_N_figures_14 : decode zc_N_figures 14 = .ok (.iconst 2, 1) := by decide +kernel
theorem zd_N_figures_15 : decode zc_N_figures 15 = .ok (.idiv, 1) := by decide +kernel
theorem zd_N_figures_16 : decode zc_N_figures 16 = .ok (.isub, 1) := by decide +kernel
theorem zd_N_figures_17 : decode zc_N_figures 17 = .ok (.iaload, 1) := by decide +kernel
theorem zd_N_figures_18 : decode zc_N_figures 18 = .ok (.istore 4, 2) := by decide +kernel
theorem zd_N_figures_20 : decode zc_N_figures 20 = .ok (.aload_n 2, 1) := by decide +kernel
theorem zd_N_figures_21 : decode zc_N_figures 21 = .ok (.iload_n 3, 1) := by decide +kernel
theorem zd_N_figures_22 : decode zc_N_figures 22 = .ok (.iload_n 3, 1) := by decide +kernel
theorem zd_N_figures_23 : decode zc_N_figures 23 = .ok (.iconst 2, 1) := by decide +kernel
theorem zd_N_figures_24 : decode zc_N_figures 24 = .ok (.irem, 1) := by decide +kernel
theorem zd_N_figures_25 : decode zc_N_figures 25 = .ok (.ifCond .ne 11, 3) := by decide +kernel
theorem zd_N_figures_28 : decode zc_N_figures 28 = .ok (.iload 4, 2) := by decide +kernel
theorem zd_N_figures_30 : decode zc_N_figures 30 = .ok (.ldc 156, 2) := by decide +kernel
theorem zd_N_figures_32 : decode zc_N_figures 32 = .ok (.iand, 1) := by decide +kernel
theorem zd_N_figures_33 : decode zc_N_figures 33 = .ok (.goto 8, 3) := by decide +kernel
theorem zd_N_figures_36 : decode zc_N_figures 36 = .ok (.iload 4, 2) := by decide +kernel
theorem zd_N_figures_38 : decode zc_N_figures 38 = .ok (.bipush 16, 2) := by decide +kernel
theorem zd_N_figures_40 : decode zc_N_figures 40 = .ok (.iushr, 1) := by decide +kernel
theorem zd_N_figures_41 : decode zc_N_figures 41 = .ok (.iastore, 1) := by decide +kernel
theorem zd_N_figures_42 : decode zc_N_figures 42 = .ok (.iinc 3 1, 3) := by decide +kernel
theorem zd_N_figures_45 : decode zc_N_figures 45 = .ok (.goto (-43), 3) := by decide +kernel
theorem zd_N_figures_48 : decode zc_N_figures 48 = .ok (.return_, 1) := by decide +kernel
theorem zd_N_find_0 : decode zc_N_find 0 = .ok (.aload_n 0, 1) := by decide +kernel
theorem zd_N_find_1 : decode zc_N_find 1 = .ok (.getfield 7, 3) := by decide +kernel
theorem zd_N_find_4 : decode zc_N_find 4 = .ok (.bipush 16, 2) := by decide +kernel
theorem zd_N_find_6 : decode zc_N_find 6 = .ok (.aload_n 0, 1) := by decide +kernel
theorem zd_N_find_7 : decode zc_N_find 7 = .ok (.getfield 49, 3) := by decide +kernel
theorem zd_N_find_10 : decode zc_N_find 10 = .ok (.invokestatic 191, 3) := by decide +kernel
theorem zd_N_find_13 : decode zc_N_find 13 = .ok (.aload_n 0, 1) := by decide +kernel
theorem zd_N_find_14 : decode zc_N_find 14 = .ok (.getfield 7, 3) := by decide +kernel
theorem zd_N_find_17 : decode zc_N_find 17 = .ok (.bipush 24, 2) := by decide +kernel
theorem zd_N_find_19 : decode zc_N_find 19 = .ok (.aload_n 0, 1) := by decide +kernel
theorem zd_N_find_20 : decode zc_N_find 20 = .ok (.getfield 52, 3) := by decide +kernel
theorem zd_N_find_23 : decode zc_N_find 23 = .ok (.invokestatic 191, 3) := by decide +kernel
theorem zd_N_find_26 : decode zc_N_find 26 = .ok (.bipush 8, 2) := by decide +kernel
theorem zd_N_find_28 : decode zc_N_find 28 = .ok (.istore_n 1, 1) := by decide +kernel
theorem zd_N_find_29 : decode zc_N_find 29 = .ok (.iload_n 1, 1) := by decide +kernel
theorem zd_N_find_30 : decode zc_N_find 30 = .ok (.bipush 16, 2) := by decide +kernel
theorem zd_N_find_32 : decode zc_N_find 32 = .ok (.if_icmp .ge 23, 3) := by decide +kernel
theorem zd_N_find_35 : decode zc_N_find 35 = .ok (.aload_n 0, 1) := by decide +kernel
theorem zd_N_find_36 : decode zc_N_find 36 = .ok (.getfield 49, 3) := by decide +kernel
theorem zd_N_find_39 : decode zc_N_find 39 = .ok (.iload_n 1, 1) := by decide +kernel
theorem zd_N_find_40 : decode zc_N_find 40 = .ok (.iconst 0, 1) := by decide +kernel
theorem zd_N_find_41 : decode zc_N_find 41 = .ok (.iastore, 1) := by decide +kernel
theorem zd_N_find_42 : decode zc_N_find 42 = .ok (.aload_n 0, 1) := by decide +kernel
theorem zd_N_find_43 : decode zc_N_find 43 = .ok (.getfield 52, 3) := by decide +kernel
theorem zd_N_find_46 : decode zc_N_find 46 = .ok (.iload_n 1, 1) := by decide +kernel
theorem zd_N_find_47 : decode zc_N_find 47 = .ok (.iconst 0, 1) := by decide +kernel
theorem zd_N_find_48 : decode zc_N_find 48 = .ok (.iastore, 1) := by decide +kernel
theorem zd_N_find_49 : decode zc_N_find 49 = .ok (.iinc 1 1, 3) := by decide +kernel
theorem zd_N_find_52 : decode zc_N_find 52 = .ok (.goto (-23), 3) := by decide +kernel
theorem zd_N_find_55 : decode zc_N_find 55 = .ok (.aload_n 0, 1) := by decide +kernel
theorem zd_N_find_56 : decode zc_N_find 56 = .ok (.iconst 0, 1) := by decide +kernel
theorem zd_N_find_57 : decode zc_N_find 57 = .ok (.putfield 195, 3) := by decide +kernel
theorem zd_N_find_60 : decode zc_N_find 60 = .ok (.iconst 0, 1) := by decide +kernel
theorem zd_N_find_61 : decode zc_N_find 61 = .ok (.istore_n 1, 1) := by decide +kernel
theorem zd_N_find_62 : decode zc_N_find 62 = .ok (.iload_n 1, 1) := by decide +kernel
theorem zd_N_find_63 : decode zc_N_find 63 = .ok (.bipush 18, 2) := by decide +kernel
theorem zd_N_find_65 : decode zc_N_find 65 = .ok (.if_icmp .ge 16, 3) := by decide +kernel
theorem zd_N_find_68 : decode zc_N_find 68 = .ok (.aload_n 0, 1) := by decide +kernel
theorem zd_N_find_69 : decode zc_N_find 69 = .ok (.getfield 55, 3) := by decide +kernel
theorem zd_N_find_72 : decode zc_N_find 72 = .ok (.iload_n 1, 1) := by decide +kernel
theorem zd_N_find_73 : decode zc_N_find 73 = .ok (.iconst 0, 1) := by decide +kernel
theorem zd_N_find_74 : decode zc_N_find 74 = .ok (.iastore, 1) := by decide +kernel
theorem zd_N_find_75 : decode zc_N_find 75 = .ok (.iinc 1 1, 3) := by decide +kernel
theorem zd_N_find_78 : decode zc_N_find 78 = .ok (.goto (-16), 3) := by decide +kernel
theorem zd_N_find_81 : decode zc_N_find 81 = .ok (.aload_n 0, 1) := by decide +kernel
theorem zd_N_find_82 : decode zc_N_find 82 = .ok (.getfield 49, 3) := by decide +kernel
theorem zd_N_find_85 : decode zc_N_find 85 = .ok (.invokestatic 199, 3) := by decide +kernel
theorem zd_N_find_88 : decode zc_N_find 88 = .ok (.ifCond .ne 13, 3) := by decide +kernel
theorem zd_N_find_91 : decode zc_N_find 91 = .ok (.aload_n 0, 1) := by decide +kernel
theorem zd_N_find_92 : decode zc_N_find 92 = .ok (.getfield 52, 3) := by decide +kernel
theorem zd_N_find_95 : decode zc_N_find 95 = .ok (.invokestatic 199, 3) := by decide +kernel
theorem zd_N_find_98 : decode zc_N_find 98 = .ok (.ifCond .eq 4, 3) := by decide +kernel
theorem zd_N_find_101 : decode zc_N_find 101 = .ok (.return_, 1) := by decide +kernel
theorem zd_N_find_102 : decode zc_N_find 102 = .ok (.aload_n 0, 1) := by decide +kernel
theorem zd_N_find_103 : decode zc_N_find 103 = .ok (.getfield 49, 3) := by decide +kernel
theorem zd_N_find_106 : decode zc_N_find 106 = .ok (.invokestatic 203, 3) := by decide +kernel
theorem zd_N_find_109 : decode zc_N_find 109 = .ok (.aload_n 0, 1) := by decide +kernel
theorem zd_N_find_110 : decode zc_N_find 110 = .ok (.getfield 52, 3) := by decide +kernel
theorem zd_N_find_113 : decode zc_N_find 113 = .ok (.invokestatic 203, 3) := by decide +kernel
theorem zd_N_find_116 : decode zc_N_find 116 = .ok (.aload_n 0, 1) := by decide +kernel
theorem zd_N_find_117 : decode zc_N_find 117 = .ok (.aload_n 0, 1) := by decide +kernel
theorem zd_N_find_118 : decode zc_N_find 118 = .ok (.getfield 49, 3) := by decide +kernel
theorem zd_N_find_121 : decode zc_N_find 121 = .ok (.aload_n 0, 1) := by decide +kernel
theorem zd_N_find_122 : decode zc_N_find 122 = .ok (.getfield 52, 3) := by decide +kernel
theorem zd_N_find_125 : decode zc_N_find 125 = .ok (.invokevirtual 173, 3) := by decide +kernel
theorem zd_N_find_128 : decode zc_N_find 128 = .ok (.lconst 0, 1) := by decide +kernel
theorem zd_N_find_129 : decode zc_N_find 129 = .ok (.lstore_n 1, 1) := by decide +kernel
theorem zd_N_find_130 : decode zc_N_find 130 = .ok (.bipush 15, 2) := by decide +kernel
theorem zd_N_find_132 : decode zc_N_find 132 = .ok (.istore_n 3, 1) := by decide +kernel
theorem zd_N_find_133 : decode zc_N_find 133 = .ok (.iload_n 3, 1) := by decide +kernel
theorem zd_N_find_134 : decode zc_N_find 134 = .ok (.ifCond .lt 27, 3) := by decide +kernel
theorem zd_N_find_137 : decode zc_N_find 137 = .ok (.ldc2_w 157, 3) := by decide +kernel
theorem zd_N_find_140 : decode zc_N_find 140 = .ok (.lload_n 1, 1) := by decide +kernel
theorem zd_N_find_141 : decode zc_N_find 141 = .ok (.lmul, 1) := by decide +kernel
theorem zd_N_find_142 : decode zc_N_find 142 = .ok (.aload_n 0, 1) := by decide +kernel
theorem zd_N_find_143 : decode zc_N_find 143 = .ok (.getfield 43, 3) := by decide +kernel
theorem zd_N_find_146 : decode zc_N_find 146 = .ok (.iload_n 3, 1) := by decide +kernel
theorem zd_N_find_147 : decode zc_N_find 147 = .ok (.iaload, 1) := by decide +kernel
theorem zd_N_find_148 : decode zc_N_find 148 = .ok (.i2l, 1) := by decide +kernel
theorem zd_N_find_149 : decode zc_N_find 149 = .ok (.ladd, 1) := by decide +kernel
theorem zd_N_find_150 : decode zc_N_find 150 = .ok (.ldc2_w 206, 3) := by decide +kernel
theorem zd_N_find_153 : decode zc_N_find 153 = .ok (.lrem, 1) := by decide +kernel
theorem zd_N_find_154 : decode zc_N_find 154 = .ok (.lstore_n 1, 1) := by decide +kernel
theorem zd_N_find_155 : decode zc_N_find 155 = .ok (.iinc 3 (-1), 3) := by decide +kernel
theorem zd_N_find_158 : decode zc_N_find 158 = .ok (.goto (-25), 3) := by decide +kernel
theorem zd_N_find_161 : decode zc_N_find 161 = .ok (.lload_n 1, 1) := by decide +kernel
theorem zd_N_find_162 : decode zc_N_find 162 = .ok (.lconst 0, 1) := by decide +kernel
theorem zd_N_find_163 : decode zc_N_find 163 = .ok (.lcmp, 1) := by decide +kernel
theorem zd_N_find_164 : decode zc_N_find 164 = .ok (.ifCond .ne 4, 3) := by decide +kernel
theorem zd_N_find_167 : decode zc_N_find 167 = .ok (.return_, 1) := by decide +kernel
theorem zd_N_find_168 : decode zc_N_find 168 = .ok (.iconst 0, 1) := by decide +kernel
theorem zd_N_find_169 : decode zc_N_find 169 = .ok (.istore_n 3, 1) := by decide +kernel
theorem zd_N_find_170 : decode zc_N_find 170 = .ok (.lconst 1, 1) := by decide +kernel
theorem zd_N_find_171 : decode zc_N_find 171 = .ok (.iload_n 3, 1) := by decide +kernel
theorem zd_N_find_172 : decode zc_N_find 172 = .ok (.i2l, 1) := by decide +kernel
theorem zd_N_find_173 : decode zc_N_find 173 = .ok (.lload_n 1, 1) := by decide +kernel
theorem zd_N_find_174 : decode zc_N_find 174 = .ok (.lmul, 1) := by decide +kernel
theorem zd_N_find_175 : decode zc_N_find 175 = .ok (.ladd, 1) := by decide +kernel
theorem zd_N_find_176 : decode zc_N_find 176 = .ok (.ldc2_w 206, 3) := by decide +kernel
theorem zd_N_find_179 : decode zc_N_find 179 = .ok (.lrem, 1) := by decide +kernel
theorem zd_N_find_180 : decode zc_N_find 180 = .ok (.lconst 0, 1) := by decide +kernel
theorem zd_N_find_181 : decode zc_N_find 181 = .ok (.lcmp, 1) := by decide +kernel
theorem zd_N_find_182 : decode zc_N_find 182 = .ok (.ifCond .eq 9, 3) := by decide +kernel
theorem zd_N_find_185 : decode zc_N_find 185 = .ok (.iinc 3 1, 3) := by decide +kernel
theorem zd_N_find_188 : decode zc_N_find 188 = .ok (.goto (-18), 3) := by decide +kernel
theorem zd_N_find_191 : decode zc_N_find 191 = .ok (.lconst 1, 1) := by decide +kernel
theorem zd_N_find_192 : decode zc_N_find 192 = .ok (.lstore 4, 2) := by decide +kernel
theorem zd_N_find_194 : decode zc_N_find 194 = .ok (.iconst 0, 1) := by decide +kernel
theorem zd_N_find_195 : decode zc_N_find 195 = .ok (.istore 6, 2) := by decide +kernel
theorem zd_N_find_197 : decode zc_N_find 197 = .ok (.iload 6, 2) := by decide +kernel
theorem zd_N_find_199 : decode zc_N_find 199 = .ok (.bipush 18, 2) := by decide +kernel
theorem zd_N_find_201 : decode zc_N_find 201 = .ok (.if_icmp .ge 57, 3) := by decide +kernel
theorem zd_N_find_204 : decode zc_N_find 204 = .ok (.lload 4, 2) := by decide +kernel
theorem zd_N_find_206 : decode zc_N_find 206 = .ok (.iload 6, 2) := by decide +kernel
theorem zd_N_find_208 : decode zc_N_find 208 = .ok (.bipush 16, 2) := by decide +kernel
theorem zd_N_find_210 : decode zc_N_find 210 = .ok (.if_icmp .ge 17, 3) := by decide +kernel
theorem zd_N_find_213 : decode zc_N_find 213 = .ok (.iload_n 3, 1) := by decide +kernel
theorem zd_N_find_214 : decode zc_N_find 214 = .ok (.i2l, 1) := by decide +kernel
theorem zd_N_find_215 : decode zc_N_find 215 = .ok (.aload_n 0, 1) := by decide +kernel
theorem zd_N_find_216 : decode zc_N_find 216 = .ok (.getfield 43, 3) := by decide +kernel
theorem zd_N_find_219 : decode zc_N_find 219 = .ok (.iload 6, 2) := by decide +kernel
theorem zd_N_find_221 : decode zc_N_find 221 = .ok (.iaload, 1) := by decide +kernel
theorem zd_N_find_222 : decode zc_N_find 222 = .ok (.i2l, 1) := by decide +kernel
theorem zd_N_find_223 : decode zc_N_find 223 = .ok (.lmul, 1) := by decide +kernel
theorem zd_N_find_224 : decode zc_N_find 224 = .ok (.goto 4, 3) := by decide +kernel
theorem zd_N_find_227 : decode zc_N_find 227 = .ok (.lconst 0, 1) := by decide +kernel
theorem zd_N_find_228 : decode zc_N_find 228 = .ok (.ladd, 1) := by decide +kernel
theorem zd_N_find_229 : decode zc_N_find 229 = .ok (.lstore 4, 2) := by decide +kernel
theorem zd_N_find_231 : decode zc_N_find 231 = .ok (.aload_n 0, 1) := by decide +kernel
theorem zd_N_find_232 : decode zc_N_find 232 = .ok (.getfield 55, 3) := by decide +kernel
theorem zd_N_find_235 : decode zc_N_find 235 = .ok (.iload 6, 2) := by decide +kernel
theorem zd_N_find_237 : decode zc_N_find 237 = .ok (.lload 4, 2) := by decide +kernel
theorem zd_N_find_239 : decode zc_N_find 239 = .ok (.ldc2_w 159, 3) := by decide +kernel
theorem zd_N_find_242 : decode zc_N_find 242 = .ok (.land, 1) := by decide +kernel
theorem zd_N_find_243 : decode zc_N_find 243 = .ok (.l2i, 1) := by decide +kernel
theorem zd_N_find_244 : decode zc_N_find 244 = .ok (.iastore, 1) := by decide +kernel
theorem zd_N_find_245 : decode zc_N_find 245 = .ok (.lload 4, 2) := by decide +kernel
theorem zd_N_find_247 : decode zc_N_find 247 = .ok (.bipush 16, 2) := by decide +kernel
theorem zd_N_find_249 : decode zc_N_find 249 = .ok (.lshr, 1) := by decide +kernel
theorem zd_N_find_250 : decode zc_N_find 250 = .ok (.lstore 4, 2) := by decide +kernel
theorem zd_N_find_252 : decode zc_N_find 252 = .ok (.iinc 6 1, 3) := by decide +kernel
theorem zd_N_find_255 : decode zc_N_find 255 = .ok (.goto (-58), 3) := by decide +kernel
theorem zd_N_find_258 : decode zc_N_find 258 = .ok (.lconst 0, 1) := by decide +kernel
theorem zd_N_find_259 : decode zc_N_find 259 = .ok (.lstore 6, 2) := by decide +kernel
theorem zd_N_find_261 : decode zc_N_find 261 = .ok (.bipush 17, 2) := by decide +kernel
theorem zd_N_find_263 : decode zc_N_find 263 = .ok (.istore 8, 2) := by decide +kernel
theorem zd_N_find_265 : decode zc_N_find 265 = .ok (.iload 8, 2) := by decide +kernel
theorem zd_N_find_267 : decode zc_N_find 267 = .ok (.ifCond .lt 48, 3) := by decide +kernel
theorem zd_N_find_270 : decode zc_N_find 270 = .ok (.ldc2_w 157, 3) := by decide +kernel
theorem zd_N_find_273 : decode zc_N_find 273 = .ok (.lload 6, 2) := by decide +kernel
theorem zd_N_find_275 : decode zc_N_find 275 = .ok (.lmul, 1) := by decide +kernel
theorem zd_N_find_276 : decode zc_N_find 276 = .ok (.aload_n 0, 1) := by decide +kernel
theorem zd_N_find_277 : decode zc_N_find 277 = .ok (.getfield 55, 3) := by decide +kernel
theorem zd_N_find_280 : decode zc_N_find 280 = .ok (.iload 8, 2) := by decide +kernel
theorem zd_N_find_282 : decode zc_N_find 282 = .ok (.iaload, 1) := by decide +kernel
theorem zd_N_find_283 : decode zc_N_find 283 = .ok (.i2l, 1) := by decide +kernel
theorem zd_N_find_284 : decode zc_N_find 284 = .ok (.ladd, 1) := by decide +kernel
theorem zd_N_find_285 : decode zc_N_find 285 = .ok (.lstore 6, 2) := by decide +kernel
theorem zd_N_find_287 : decode zc_N_find 287 = .ok (.aload_n 0, 1) := by decide +kernel
theorem zd_N_find_288 : decode zc_N_find 288 = .ok (.getfield 55, 3) := by decide +kernel
theorem zd_N_find_291 : decode zc_N_find 291 = .ok (.iload 8, 2) := by decide +kernel
theorem zd_N_find_293 : decode zc_N_find 293 = .ok (.lload 6, 2) := by decide +kernel
theorem zd_N_find_295 : decode zc_N_find 295 = .ok (.ldc2_w 206, 3) := by decide +kernel
theorem zd_N_find_298 : decode zc_N_find 298 = .ok (.ldiv, 1) := by decide +kernel
theorem zd_N_find_299 : decode zc_N_find 299 = .ok (.l2i, 1) := by decide +kernel
theorem zd_N_find_300 : decode zc_N_find 300 = .ok (.iastore, 1) := by decide +kernel
theorem zd_N_find_301 : decode zc_N_find 301 = .ok (.lload 6, 2) := by decide +kernel
theorem zd_N_find_303 : decode zc_N_find 303 = .ok (.ldc2_w 206, 3) := by decide +kernel
theorem zd_N_find_306 : decode zc_N_find 306 = .ok (.lrem, 1) := by decide +kernel
theorem zd_N_find_307 : decode zc_N_find 307 = .ok (.lstore 6, 2) := by decide +kernel
theorem zd_N_find_309 : decode zc_N_find 309 = .ok (.iinc 8 (-1), 3) := by decide +kernel
theorem zd_N_find_312 : decode zc_N_find 312 = .ok (.goto (-47), 3) := by decide +kernel
theorem zd_N_find_315 : decode zc_N_find 315 = .ok (.aload_n 0, 1) := by decide +kernel
theorem zd_N_find_316 : decode zc_N_find 316 = .ok (.iconst 1, 1) := by decide +kernel
theorem zd_N_find_317 : decode zc_N_find 317 = .ok (.putfield 195, 3) := by decide +kernel
theorem zd_N_find_320 : decode zc_N_find 320 = .ok (.return_, 1) := by decide +kernel
theorem zd_N_isSmall_0 : decode zc_N_isSmall 0 = .ok (.aload_n 0, 1) := by decide +kernel
theorem zd_N_isSmall_1 : decode zc_N_isSmall 1 = .ok (.iconst 0, 1) := by decide +kernel
theorem zd_N_isSmall_2 : decode zc_N_isSmall 2 = .ok (.iaload, 1) := by decide +kernel
theorem zd_N_isSmall_3 : decode zc_N_isSmall 3 = .ok (.iconst 2, 1) := by decide +kernel
theorem zd_N_isSmall_4 : decode zc_N_isSmall 4 = .ok (.if_icmp .le 7, 3) := by decide +kernel
theorem zd_N_isSmall_7 : decode zc_N_isSmall 7 = .ok (.iconst 1, 1) := by decide +kernel
theorem zd_N_isSmall_8 : decode zc_N_isSmall 8 = .ok (.goto 4, 3) := by decide +kernel
theorem zd_N_isSmall_11 : decode zc_N_isSmall 11 = .ok (.iconst 0, 1) := by decide +kernel
theorem zd_N_isSmall_12 : decode zc_N_isSmall 12 = .ok (.istore_n 1, 1) := by decide +kernel
theorem zd_N_isSmall_13 : decode zc_N_isSmall 13 = .ok (.iconst 1, 1) := by decide +kernel
theorem zd_N_isSmall_14 : decode zc_N_isSmall 14 = .ok (.istore_n 2, 1) := by decide +kernel
theorem zd_N_isSmall_15 : decode zc_N_isSmall 15 = .ok (.iload_n 2, 1) := by decide +kernel
theorem zd_N_isSmall_16 : decode zc_N_isSmall 16 = .ok (.bipush 16, 2) := by decide +kernel
theorem zd_N_isSmall_18 : decode zc_N_isSmall 18 = .ok (.if_icmp .ge 25, 3) := by decide +kernel
theorem zd_N_isSmall_21 : decode zc_N_isSmall 21 = .ok (.iload_n 1, 1) := by decide +kernel
theorem zd_N_isSmall_22 : decode zc_N_isSmall 22 = .ok (.ifCond .ne 9, 3) := by decide +kernel
theorem zd_N_isSmall_25 : decode zc_N_isSmall 25 = .ok (.aload_n 0, 1) := by decide +kernel
theorem zd_N_isSmall_26 : decode zc_N_isSmall 26 = .ok (.iload_n 2, 1) := by decide +kernel
theorem zd_N_isSmall_27 : decode zc_N_isSmall 27 = .ok (.iaload, 1) := by decide +kernel
theorem zd_N_isSmall_28 : decode zc_N_isSmall 28 = .ok (.ifCond .le 7, 3) := by decide +kernel
theorem zd_N_isSmall_31 : decode zc_N_isSmall 31 = .ok (.iconst 1, 1) := by decide +kernel
theorem zd_N_isSmall_32 : decode zc_N_isSmall 32 = .ok (.goto 4, 3) := by decide +kernel
theorem zd_N_isSmall_35 : decode zc_N_isSmall 35 = .ok (.iconst 0, 1) := by decide +kernel
theorem zd_N_isSmall_36 : decode zc_N_isSmall 36 = .ok (.istore_n 1, 1) := by decide +kernel
theorem zd_N_isSmall_37 : decode zc_N_isSmall 37 = .ok (.iinc 2 1, 3) := by decide +kernel
theorem zd_N_isSmall_40 : decode zc_N_isSmall 40 = .ok (.goto (-25), 3) := by decide +kernel
theorem zd_N_isSmall_43 : decode zc_N_isSmall 43 = .ok (.iload_n 1, 1) := by decide +kernel
theorem zd_N_isSmall_44 : decode zc_N_isSmall 44 = .ok (.ifCond .ne 7, 3) := by decide +kernel
theorem zd_N_isSmall_47 : decode zc_N_isSmall 47 = .ok (.iconst 1, 1) := by decide +kernel
theorem zd_N_isSmall_48 : decode zc_N_isSmall 48 = .ok (.goto 4, 3) := by decide +kernel
theorem zd_N_isSmall_51 : decode zc_N_isSmall 51 = .ok (.iconst 0, 1) := by decide +kernel
theorem zd_N_isSmall_52 : decode zc_N_isSmall 52 = .ok (.ireturn, 1) := by decide +kernel
theorem zd_N_lessOne_0 : decode zc_N_lessOne 0 = .ok (.iconst 0, 1) := by decide +kernel
theorem zd_N_lessOne_1 : decode zc_N_lessOne 1 = .ok (.istore_n 1, 1) := by decide +kernel
theorem zd_N_lessOne_2 : decode zc_N_lessOne 2 = .ok (.aload_n 0, 1) := by decide +kernel
theorem zd_N_lessOne_3 : decode zc_N_lessOne 3 = .ok (.iload_n 1, 1) := by decide +kernel
theorem zd_N_lessOne_4 : decode zc_N_lessOne 4 = .ok (.iaload, 1) := by decide +kernel
theorem zd_N_lessOne_5 : decode zc_N_lessOne 5 = .ok (.ifCond .ne 14, 3) := by decide +kernel
theorem zd_N_lessOne_8 : decode zc_N_lessOne 8 = .ok (.aload_n 0, 1) := by decide +kernel
theorem zd_N_lessOne_9 : decode zc_N_lessOne 9 = .ok (.iload_n 1, 1) := by decide +kernel
theorem zd_N_lessOne_10 : decode zc_N_lessOne 10 = .ok (.ldc 156, 2) := by decide +kernel
theorem zd_N_lessOne_12 : decode zc_N_lessOne 12 = .ok (.iastore, 1) := by decide +kernel
theorem zd_N_lessOne_13 : decode zc_N_lessOne 13 = .ok (.iinc 1 1, 3) := by decide +kernel
theorem zd_N_lessOne_16 : decode zc_N_lessOne 16 = .ok (.goto (-14), 3) := by decide +kernel
theorem zd_N_lessOne_19 : decode zc_N_lessOne 19 = .ok (.aload_n 0, 1) := by decide +kernel
theorem zd_N_lessOne_20 : decode zc_N_lessOne 20 = .ok (.iload_n 1, 1) := by decide +kernel
theorem zd_N_lessOne_21 : decode zc_N_lessOne 21 = .ok (.dup2, 1) := by decide +kernel
theorem zd_N_lessOne_22 : decode zc_N_lessOne 22 = .ok (.iaload, 1) := by decide +kernel
theorem zd_N_lessOne_23 : decode zc_N_lessOne 23 = .ok (.iconst 1, 1) := by decide +kernel
theorem zd_N_lessOne_24 : decode zc_N_lessOne 24 = .ok (.isub, 1) := by decide +kernel
theorem zd_N_lessOne_25 : decode zc_N_lessOne 25 = .ok (.iastore, 1) := by decide +kernel
theorem zd_N_lessOne_26 : decode zc_N_lessOne 26 = .ok (.return_, 1) := by decide +kernel
theorem zd_N_multiply_0 : decode zc_N_multiply 0 = .ok (.iconst 0, 1) := by decide +kernel
theorem zd_N_multiply_1 : decode zc_N_multiply 1 = .ok (.istore_n 3, 1) := by decide +kernel
theorem zd_N_multiply_2 : decode zc_N_multiply 2 = .ok (.iload_n 3, 1) := by decide +kernel
theorem zd_N_multiply_3 : decode zc_N_multiply 3 = .ok (.bipush 32, 2) := by decide +kernel
theorem zd_N_multiply_5 : decode zc_N_multiply 5 = .ok (.if_icmp .ge 16, 3) := by decide +kernel
theorem zd_N_multiply_8 : decode zc_N_multiply 8 = .ok (.aload_n 0, 1) := by decide +kernel
theorem zd_N_multiply_9 : decode zc_N_multiply 9 = .ok (.getfield 43, 3) := by decide +kernel
theorem zd_N_multiply_12 : decode zc_N_multiply 12 = .ok (.iload_n 3, 1) := by decide +kernel
theorem zd_N_multiply_13 : decode zc_N_multiply 13 = .ok (.iconst 0, 1) := by decide +kernel
theorem zd_N_multiply_14 : decode zc_N_multiply 14 = .ok (.iastore, 1) := by decide +kernel
theorem zd_N_multiply_15 : decode zc_N_multiply 15 = .ok (.iinc 3 1, 3) := by decide +kernel
theorem zd_N_multiply_18 : decode zc_N_multiply 18 = .ok (.goto (-16), 3) := by decide +kernel
theorem zd_N_multiply_21 : decode zc_N_multiply 21 = .ok (.iconst 0, 1) := by decide +kernel
theorem zd_N_multiply_22 : decode zc_N_multiply 22 = .ok (.istore_n 3, 1) := by decide +kernel
theorem zd_N_multiply_23 : decode zc_N_multiply 23 = .ok (.iload_n 3, 1) := by decide +kernel
theorem zd_N_multiply_24 : decode zc_N_multiply 24 = .ok (.bipush 16, 2) := by decide +kernel
theorem zd_N_multiply_26 : decode zc_N_multiply 26 = .ok (.if_icmp .ge 89, 3) := by decide +kernel
theorem zd_N_multiply_29 : decode zc_N_multiply 29 = .ok (.lconst 0, 1) := by decide +kernel
theorem zd_N_multiply_30 : decode zc_N_multiply 30 = .ok (.lstore 4, 2) := by decide +kernel
theorem zd_N_multiply_32 : decode zc_N_multiply 32 = .ok (.iconst 0, 1) := by decide +kernel
theorem zd_N_multiply_33 : decode zc_N_multiply 33 = .ok (.istore 6, 2) := by decide +kernel
theorem zd_N_multiply_35 : decode zc_N_multiply 35 = .ok (.iload 6, 2) := by decide +kernel
theorem zd_N_multiply_37 : decode zc_N_multiply 37 = .ok (.bipush 16, 2) := by decide +kernel
theorem zd_N_multiply_39 : decode zc_N_multiply 39 = .ok (.if_icmp .ge 58, 3) := by decide +kernel
theorem zd_N_multiply_42 : decode zc_N_multiply 42 = .ok (.lload 4, 2) := by decide +kernel
theorem zd_N_multiply_44 : decode zc_N_multiply 44 = .ok (.aload_n 0, 1) := by decide +kernel
theorem zd_N_multiply_45 : decode zc_N_multiply 45 = .ok (.getfield 43, 3) := by decide +kernel
theorem zd_N_multiply_48 : decode zc_N_multiply 48 = .ok (.iload_n 3, 1) := by decide +kernel
theorem zd_N_multiply_49 : decode zc_N_multiply 49 = .ok (.iload 6, 2) := by decide +kernel
theorem zd_N_multiply_51 : decode zc_N_multiply 51 = .ok (.iadd, 1) := by decide +kernel
theorem zd_N_multiply_52 : decode zc_N_multiply 52 = .ok (.iaload, 1) := by decide +kernel
theorem zd_N_multiply_53 : decode zc_N_multiply 53 = .ok (.i2l, 1) := by decide +kernel
theorem zd_N_multiply_54 : decode zc_N_multiply 54 = .ok (.ladd, 1) := by decide +kernel
theorem zd_N_multiply_55 : decode zc_N_multiply 55 = .ok (.aload_n 1, 1) := by decide +kernel
theorem zd_N_multiply_56 : decode zc_N_multiply 56 = .ok (.iload_n 3, 1) := by decide +kernel
theorem zd_N_multiply_57 : decode zc_N_multiply 57 = .ok (.iaload, 1) := by decide +kernel
theorem zd_N_multiply_58 : decode zc_N_multiply 58 = .ok (.i2l, 1) := by decide +kernel
theorem zd_N_multiply_59 : decode zc_N_multiply 59 = .ok (.aload_n 2, 1) := by decide +kernel
theorem zd_N_multiply_60 : decode zc_N_multiply 60 = .ok (.iload 6, 2) := by decide +kernel
theorem zd_N_multiply_62 : decode zc_N_multiply 62 = .ok (.iaload, 1) := by decide +kernel
theorem zd_N_multiply_63 : decode zc_N_multiply 63 = .ok (.i2l, 1) := by decide +kernel
theorem zd_N_multiply_64 : decode zc_N_multiply 64 = .ok (.lmul, 1) := by decide +kernel
theorem zd_N_multiply_65 : decode zc_N_multiply 65 = .ok (.ladd, 1) := by decide +kernel
theorem zd_N_multiply_66 : decode zc_N_multiply 66 = .ok (.lstore 4, 2) := by decide +kernel
theorem zd_N_multiply_68 : decode zc_N_multiply 68 = .ok (.aload_n 0, 1) := by decide +kernel
theorem zd_N_multiply_69 : decode zc_N_multiply 69 = .ok (.getfield 43, 3) := by decide +kernel
theorem zd_N_multiply_72 : decode zc_N_multiply 72 = .ok (.iload_n 3, 1) := by decide +kernel
theorem zd_N_multiply_73 : decode zc_N_multiply 73 = .ok (.iload 6, 2) := by decide +kernel
theorem zd_N_multiply_75 : decode zc_N_multiply 75 = .ok (.iadd, 1) := by decide +kernel
theorem zd_N_multiply_76 : decode zc_N_multiply 76 = .ok (.lload 4, 2) := by decide +kernel
theorem zd_N_multiply_78 : decode zc_N_multiply 78 = .ok (.ldc2_w 159, 3) := by decide +kernel
theorem zd_N_multiply_81 : decode zc_N_multiply 81 = .ok (.land, 1) := by decide +kernel
theorem zd_N_multiply_82 : decode zc_N_multiply 82 = .ok (.l2i, 1) := by decide +kernel
theorem zd_N_multiply_83 : decode zc_N_multiply 83 = .ok (.iastore, 1) := by decide +kernel
theorem zd_N_multiply_84 : decode zc_N_multiply 84 = .ok (.lload 4, 2) := by decide +kernel
theorem zd_N_multiply_86 : decode zc_N_multiply 86 = .ok (.bipush 16, 2) := by decide +kernel
theorem zd_N_multiply_88 : decode zc_N_multiply 88 = .ok (.lshr, 1) := by decide +kernel
theorem zd_N_multiply_89 : decode zc_N_multiply 89 = .ok (.lstore 4, 2) := by decide +kernel
theorem zd_N_multiply_91 : decode zc_N_multiply 91 = .ok (.iinc 6 1, 3) := by decide +kernel
theorem zd_N_multiply_94 : decode zc_N_multiply 94 = .ok (.goto (-59), 3) := by decide +kernel
theorem zd_N_multiply_97 : decode zc_N_multiply 97 = .ok (.aload_n 0, 1) := by decide +kernel
theorem zd_N_multiply_98 : decode zc_N_multiply 98 = .ok (.getfield 43, 3) := by decide +kernel
theorem zd_N_multiply_101 : decode zc_N_multiply 101 = .ok (.iload_n 3, 1) := by decide +kernel
theorem zd_N_multiply_102 : decode zc_N_multiply 102 = .ok (.bipush 16, 2) := by decide +kernel
theorem zd_N_multiply_104 : decode zc_N_multiply 104 = .ok (.iadd, 1) := by decide +kernel
theorem zd_N_multiply_105 : decode zc_N_multiply 105 = .ok (.lload 4, 2) := by decide +kernel
theorem zd_N_multiply_107 : decode zc_N_multiply 107 = .ok (.l2i, 1) := by decide +kernel
theorem zd_N_multiply_108 : decode zc_N_multiply 108 = .ok (.iastore, 1) := by decide +kernel
theorem zd_N_multiply_109 : decode zc_N_multiply 109 = .ok (.iinc 3 1, 3) := by decide +kernel
theorem zd_N_multiply_112 : decode zc_N_multiply 112 = .ok (.goto (-89), 3) := by decide +kernel
theorem zd_N_multiply_115 : decode zc_N_multiply 115 = .ok (.return_, 1) := by decide +kernel
theorem zd_N_isWithin_0 : decode zc_N_isWithin 0 = .ok (.lconst 0, 1) := by decide +kernel
theorem zd_N_isWithin_1 : decode zc_N_isWithin 1 = .ok (.lstore 4, 2) := by decide +kernel
theorem zd_N_isWithin_3 : decode zc_N_isWithin 3 = .ok (.iconst 0, 1) := by decide +kernel
theorem zd_N_isWithin_4 : decode zc_N_isWithin 4 = .ok (.istore 6, 2) := by decide +kernel
theorem zd_N_isWithin_6 : decode zc_N_isWithin 6 = .ok (.bipush 15, 2) := by decide +kernel
theorem zd_N_isWithin_8 : decode zc_N_isWithin 8 = .ok (.istore 7, 2) := by decide +kernel
theorem zd_N_isWithin_10 : decode zc_N_isWithin 10 = .ok (.iload 7, 2) := by decide +kernel
theorem zd_N_isWithin_12 : decode zc_N_isWithin 12 = .ok (.ifCond .lt 59, 3) := by decide +kernel
theorem zd_N_isWithin_15 : decode zc_N_isWithin 15 = .ok (.iload 6, 2) := by decide +kernel
theorem zd_N_isWithin_17 : decode zc_N_isWithin 17 = .ok (.ifCond .ne 16, 3) := by decide +kernel
theorem zd_N_isWithin_20 : decode zc_N_isWithin 20 = .ok (.iload 7, 2) := by decide +kernel
theorem zd_N_isWithin_22 : decode zc_N_isWithin 22 = .ok (.iconst 1, 1) := by decide +kernel
theorem zd_N_isWithin_23 : decode zc_N_isWithin 23 = .ok (.if_icmp .le 14, 3) := by decide +kernel
theorem zd_N_isWithin_26 : decode zc_N_isWithin 26 = .ok (.aload_n 1, 1) := by decide +kernel
theorem zd_N_isWithin_27 : decode zc_N_isWithin 27 = .ok (.iload 7, 2) := by decide +kernel
theorem zd_N_isWithin_29 : decode zc_N_isWithin 29 = .ok (.iaload, 1) := by decide +kernel
theorem zd_N_isWithin_30 : decode zc_N_isWithin 30 = .ok (.ifCond .le 7, 3) := by decide +kernel
theorem zd_N_isWithin_33 : decode zc_N_isWithin 33 = .ok (.iconst 1, 1) := by decide +kernel
theorem zd_N_isWithin_34 : decode zc_N_isWithin 34 = .ok (.goto 4, 3) := by decide +kernel
theorem zd_N_isWithin_37 : decode zc_N_isWithin 37 = .ok (.iconst 0, 1) := by decide +kernel
theorem zd_N_isWithin_38 : decode zc_N_isWithin 38 = .ok (.istore 6, 2) := by decide +kernel
theorem zd_N_isWithin_40 : decode zc_N_isWithin 40 = .ok (.iload 7, 2) := by decide +kernel
theorem zd_N_isWithin_42 : decode zc_N_isWithin 42 = .ok (.iconst 2, 1) := by decide +kernel
theorem zd_N_isWithin_43 : decode zc_N_isWithin 43 = .ok (.if_icmp .ge 18, 3) := by decide +kernel
theorem zd_N_isWithin_46 : decode zc_N_isWithin 46 = .ok (.ldc2_w 157, 3) := by decide +kernel
theorem zd_N_isWithin_49 : decode zc_N_isWithin 49 = .ok (.lload 4, 2) := by decide +kernel
theorem zd_N_isWithin_51 : decode zc_N_isWithin 51 = .ok (.lmul, 1) := by decide +kernel
theorem zd_N_isWithin_52 : decode zc_N_isWithin 52 = .ok (.aload_n 1, 1) := by decide +kernel
theorem zd_N_isWithin_53 : decode zc_N_isWithin 53 = .ok (.iload 7, 2) := by decide +kernel
theorem zd_N_isWithin_55 : decode zc_N_isWithin 55 = .ok (.iaload, 1) := by decide +kernel
theorem zd_N_isWithin_56 : decode zc_N_isWithin 56 = .ok (.i2l, 1) := by decide +kernel
theorem zd_N_isWithin_57 : decode zc_N_isWithin 57 = .ok (.ladd, 1) := by decide +kernel
theorem zd_N_isWithin_58 : decode zc_N_isWithin 58 = .ok (.goto 5, 3) := by decide +kernel
theorem zd_N_isWithin_61 : decode zc_N_isWithin 61 = .ok (.lload 4, 2) := by decide +kernel
theorem zd_N_isWithin_63 : decode zc_N_isWithin 63 = .ok (.lstore 4, 2) := by decide +kernel
theorem zd_N_isWithin_65 : decode zc_N_isWithin 65 = .ok (.iinc 7 (-1), 3) := by decide +kernel
theorem zd_N_isWithin_68 : decode zc_N_isWithin 68 = .ok (.goto (-58), 3) := by decide +kernel
theorem zd_N_isWithin_71 : decode zc_N_isWithin 71 = .ok (.iload 6, 2) := by decide +kernel
theorem zd_N_isWithin_73 : decode zc_N_isWithin 73 = .ok (.ifCond .ne 13, 3) := by decide +kernel
theorem zd_N_isWithin_76 : decode zc_N_isWithin 76 = .ok (.lload 4, 2) := by decide +kernel
theorem zd_N_isWithin_78 : decode zc_N_isWithin 78 = .ok (.iload_n 2, 1) := by decide +kernel
theorem zd_N_isWithin_79 : decode zc_N_isWithin 79 = .ok (.i2l, 1) := by decide +kernel
theorem zd_N_isWithin_80 : decode zc_N_isWithin 80 = .ok (.lcmp, 1) := by decide +kernel
theorem zd_N_isWithin_81 : decode zc_N_isWithin 81 = .ok (.ifCond .ge 5, 3) := by decide +kernel
theorem zd_N_isWithin_84 : decode zc_N_isWithin 84 = .ok (.iconst 0, 1) := by decide +kernel
theorem zd_N_isWithin_85 : decode zc_N_isWithin 85 = .ok (.ireturn, 1) := by decide +kernel
theorem zd_N_isWithin_86 : decode zc_N_isWithin 86 = .ok (.iload_n 3, 1) := by decide +kernel
theorem zd_N_isWithin_87 : decode zc_N_isWithin 87 = .ok (.i2l, 1) := by decide +kernel
theorem zd_N_isWithin_88 : decode zc_N_isWithin 88 = .ok (.lstore 7, 2) := by decide +kernel
theorem zd_N_isWithin_90 : decode zc_N_isWithin 90 = .ok (.iconst 0, 1) := by decide +kernel
theorem zd_N_isWithin_91 : decode zc_N_isWithin 91 = .ok (.istore 9, 2) := by decide +kernel
theorem zd_N_isWithin_93 : decode zc_N_isWithin 93 = .ok (.iload 9, 2) := by decide +kernel
theorem zd_N_isWithin_95 : decode zc_N_isWithin 95 = .ok (.bipush 16, 2) := by decide +kernel
theorem zd_N_isWithin_97 : decode zc_N_isWithin 97 = .ok (.if_icmp .ge 40, 3) := by decide +kernel
theorem zd_N_isWithin_100 : decode zc_N_isWithin 100 = .ok (.lload 7, 2) := by decide +kernel
theorem zd_N_isWithin_102 : decode zc_N_isWithin 102 = .ok (.aload_n 1, 1) := by decide +kernel
theorem zd_N_isWithin_103 : decode zc_N_isWithin 103 = .ok (.iload 9, 2) := by decide +kernel
theorem zd_N_isWithin_105 : decode zc_N_isWithin 105 = .ok (.iaload, 1) := by decide +kernel
theorem zd_N_isWithin_106 : decode zc_N_isWithin 106 = .ok (.i2l, 1) := by decide +kernel
theorem zd_N_isWithin_107 : decode zc_N_isWithin 107 = .ok (.ladd, 1) := by decide +kernel
theorem zd_N_isWithin_108 : decode zc_N_isWithin 108 = .ok (.lstore 7, 2) := by decide +kernel
theorem zd_N_isWithin_110 : decode zc_N_isWithin 110 = .ok (.aload_n 0, 1) := by decide +kernel
theorem zd_N_isWithin_111 : decode zc_N_isWithin 111 = .ok (.getfield 46, 3) := by decide +kernel
theorem zd_N_isWithin_114 : decode zc_N_isWithin 114 = .ok (.iload 9, 2) := by decide +kernel
theorem zd_N_isWithin_116 : decode zc_N_isWithin 116 = .ok (.lload 7, 2) := by decide +kernel
theorem zd_N_isWithin_118 : decode zc_N_isWithin 118 = .ok (.ldc2_w 159, 3) := by decide +kernel
theorem zd_N_isWithin_121 : decode zc_N_isWithin 121 = .ok (.land, 1) := by decide +kernel
theorem zd_N_isWithin_122 : decode zc_N_isWithin 122 = .ok (.l2i, 1) := by decide +kernel
theorem zd_N_isWithin_123 : decode zc_N_isWithin 123 = .ok (.iastore, 1) := by decide +kernel
theorem zd_N_isWithin_124 : decode zc_N_isWithin 124 = .ok (.lload 7, 2) := by decide +kernel
theorem zd_N_isWithin_126 : decode zc_N_isWithin 126 = .ok (.bipush 16, 2) := by decide +kernel
theorem zd_N_isWithin_128 : decode zc_N_isWithin 128 = .ok (.lshr, 1) := by decide +kernel
theorem zd_N_isWithin_129 : decode zc_N_isWithin 129 = .ok (.lstore 7, 2) := by decide +kernel
theorem zd_N_isWithin_131 : decode zc_N_isWithin 131 = .ok (.iinc 9 1, 3) := by decide +kernel
theorem zd_N_isWithin_134 : decode zc_N_isWithin 134 = .ok (.goto (-41), 3) := by decide +kernel
theorem zd_N_isWithin_137 : decode zc_N_isWithin 137 = .ok (.lload 7, 2) := by decide +kernel
theorem zd_N_isWithin_139 : decode zc_N_isWithin 139 = .ok (.lconst 0, 1) := by decide +kernel
theorem zd_N_isWithin_140 : decode zc_N_isWithin 140 = .ok (.lcmp, 1) := by decide +kernel
theorem zd_N_isWithin_141 : decode zc_N_isWithin 141 = .ok (.ifCond .ne 21, 3) := by decide +kernel
theorem zd_N_isWithin_144 : decode zc_N_isWithin 144 = .ok (.aload_n 0, 1) := by decide +kernel
theorem zd_N_isWithin_145 : decode zc_N_isWithin 145 = .ok (.getfield 46, 3) := by decide +kernel
theorem zd_N_isWithin_148 : decode zc_N_isWithin 148 = .ok (.aload_n 0, 1) := by decide +kernel
theorem zd_N_isWithin_149 : decode zc_N_isWithin 149 = .ok (.getfield 28, 3) := by decide +kernel
theorem zd_N_isWithin_152 : decode zc_N_isWithin 152 = .ok (.invokestatic 161, 3) := by decide +kernel
theorem zd_N_isWithin_155 : decode zc_N_isWithin 155 = .ok (.ifCond .gt 7, 3) := by decide +kernel
theorem zd_N_isWithin_158 : decode zc_N_isWithin 158 = .ok (.iconst 1, 1) := by decide +kernel
theorem zd_N_isWithin_159 : decode zc_N_isWithin 159 = .ok (.goto 4, 3) := by decide +kernel
theorem zd_N_isWithin_162 : decode zc_N_isWithin 162 = .ok (.iconst 0, 1) := by decide +kernel
theorem zd_N_isWithin_163 : decode zc_N_isWithin 163 = .ok (.ireturn, 1) := by decide +kernel
theorem zd_N_compare_0 : decode zc_N_compare 0 = .ok (.bipush 15, 2) := by decide +kernel
theorem zd_N_compare_2 : decode zc_N_compare 2 = .ok (.istore_n 2, 1) := by decide +kernel
theorem zd_N_compare_3 : decode zc_N_compare 3 = .ok (.iload_n 2, 1) := by decide +kernel
theorem zd_N_compare_4 : decode zc_N_compare 4 = .ok (.ifCond .lt 33, 3) := by decide +kernel
theorem zd_N_compare_7 : decode zc_N_compare 7 = .ok (.aload_n 0, 1) := by decide +kernel
theorem zd_N_compare_8 : decode zc_N_compare 8 = .ok (.iload_n 2, 1) := by decide +kernel
theorem zd_N_compare_9 : decode zc_N_compare 9 = .ok (.iaload, 1) := by decide +kernel
theorem zd_N_compare_10 : decode zc_N_compare 10 = .ok (.aload_n 1, 1) := by decide +kernel
theorem zd_N_compare_11 : decode zc_N_compare 11 = .ok (.iload_n 2, 1) := by decide +kernel
theorem zd_N_compare_12 : decode zc_N_compare 12 = .ok (.iaload, 1) := by decide +kernel
theorem zd_N_compare_13 : decode zc_N_compare 13 = .ok (.if_icmp .eq 18, 3) := by decide +kernel
theorem zd_N_compare_16 : decode zc_N_compare 16 = .ok (.aload_n 0, 1) := by decide +kernel
theorem zd_N_compare_17 : decode zc_N_compare 17 = .ok (.iload_n 2, 1) := by decide +kernel
theorem zd_N_compare_18 : decode zc_N_compare 18 = .ok (.iaload, 1) := by decide +kernel
theorem zd_N_compare_19 : decode zc_N_compare 19 = .ok (.aload_n 1, 1) := by decide +kernel
theorem zd_N_compare_20 : decode zc_N_compare 20 = .ok (.iload_n 2, 1) := by decide +kernel
theorem zd_N_compare_21 : decode zc_N_compare 21 = .ok (.iaload, 1) := by decide +kernel
theorem zd_N_compare_22 : decode zc_N_compare 22 = .ok (.if_icmp .ge 7, 3) := by decide +kernel
theorem zd_N_compare_25 : decode zc_N_compare 25 = .ok (.iconst (-1), 1) := by decide +kernel
theorem zd_N_compare_26 : decode zc_N_compare 26 = .ok (.goto 4, 3) := by decide +kernel
theorem zd_N_compare_29 : decode zc_N_compare 29 = .ok (.iconst 1, 1) := by decide +kernel
theorem zd_N_compare_30 : decode zc_N_compare 30 = .ok (.ireturn, 1) := by decide +kernel
theorem zd_N_compare_31 : decode zc_N_compare 31 = .ok (.iinc 2 (-1), 3) := by decide +kernel
theorem zd_N_compare_34 : decode zc_N_compare 34 = .ok (.goto (-31), 3) := by decide +kernel
theorem zd_N_compare_37 : decode zc_N_compare 37 = .ok (.iconst 0, 1) := by decide +kernel
theorem zd_N_compare_38 : decode zc_N_compare 38 = .ok (.ireturn, 1) := by decide +kernel
theorem zd_N_raiseBy_0 : decode zc_N_raiseBy 0 = .ok (.aload_n 1, 1) := by decide +kernel
theorem zd_N_raiseBy_1 : decode zc_N_raiseBy 1 = .ok (.iload_n 2, 1) := by decide +kernel
theorem zd_N_raiseBy_2 : decode zc_N_raiseBy 2 = .ok (.aload_n 0, 1) := by decide +kernel
theorem zd_N_raiseBy_3 : decode zc_N_raiseBy 3 = .ok (.getfield 34, 3) := by decide +kernel
theorem zd_N_raiseBy_6 : decode zc_N_raiseBy 6 = .ok (.invokestatic 191, 3) := by decide +kernel
theorem zd_N_raiseBy_9 : decode zc_N_raiseBy 9 = .ok (.aload_n 0, 1) := by decide +kernel
theorem zd_N_raiseBy_10 : decode zc_N_raiseBy 10 = .ok (.getfield 7, 3) := by decide +kernel
theorem zd_N_raiseBy_13 : decode zc_N_raiseBy 13 = .ok (.bipush 8, 2) := by decide +kernel
theorem zd_N_raiseBy_15 : decode zc_N_raiseBy 15 = .ok (.iload_n 3, 1) := by decide +kernel
theorem zd_N_raiseBy_16 : decode zc_N_raiseBy 16 = .ok (.imul, 1) := by decide +kernel
theorem zd_N_raiseBy_17 : decode zc_N_raiseBy 17 = .ok (.aload_n 0, 1) := by decide +kernel
theorem zd_N_raiseBy_18 : decode zc_N_raiseBy 18 = .ok (.getfield 37, 3) := by decide +kernel
theorem zd_N_raiseBy_21 : decode zc_N_raiseBy 21 = .ok (.invokestatic 191, 3) := by decide +kernel
theorem zd_N_raiseBy_24 : decode zc_N_raiseBy 24 = .ok (.aload_n 0, 1) := by decide +kernel
theorem zd_N_raiseBy_25 : decode zc_N_raiseBy 25 = .ok (.getfield 28, 3) := by decide +kernel
theorem zd_N_raiseBy_28 : decode zc_N_raiseBy 28 = .ok (.aload_n 0, 1) := by decide +kernel
theorem zd_N_raiseBy_29 : decode zc_N_raiseBy 29 = .ok (.getfield 31, 3) := by decide +kernel
theorem zd_N_raiseBy_32 : decode zc_N_raiseBy 32 = .ok (.invokestatic 215, 3) := by decide +kernel
theorem zd_N_raiseBy_35 : decode zc_N_raiseBy 35 = .ok (.aload_n 0, 1) := by decide +kernel
theorem zd_N_raiseBy_36 : decode zc_N_raiseBy 36 = .ok (.invokevirtual 218, 3) := by decide +kernel
theorem zd_N_raiseBy_39 : decode zc_N_raiseBy 39 = .ok (.aload_n 0, 1) := by decide +kernel
theorem zd_N_raiseBy_40 : decode zc_N_raiseBy 40 = .ok (.getfield 40, 3) := by decide +kernel
theorem zd_N_raiseBy_43 : decode zc_N_raiseBy 43 = .ok (.aload 4, 2) := by decide +kernel
theorem zd_N_raiseBy_45 : decode zc_N_raiseBy 45 = .ok (.iload 5, 2) := by decide +kernel
theorem zd_N_raiseBy_47 : decode zc_N_raiseBy 47 = .ok (.invokestatic 221, 3) := by decide +kernel
theorem zd_N_raiseBy_50 : decode zc_N_raiseBy 50 = .ok (.return_, 1) := by decide +kernel
theorem zd_N_copy_0 : decode zc_N_copy 0 = .ok (.iconst 0, 1) := by decide +kernel
theorem zd_N_copy_1 : decode zc_N_copy 1 = .ok (.istore_n 2, 1) := by decide +kernel
theorem zd_N_copy_2 : decode zc_N_copy 2 = .ok (.iload_n 2, 1) := by decide +kernel
theorem zd_N_copy_3 : decode zc_N_copy 3 = .ok (.bipush 16, 2) := by decide +kernel
theorem zd_N_copy_5 : decode zc_N_copy 5 = .ok (.if_icmp .ge 15, 3) := by decide +kernel
theorem zd_N_copy_8 : decode zc_N_copy 8 = .ok (.aload_n 1, 1) := by decide +kernel
theorem zd_N_copy_9 : decode zc_N_copy 9 = .ok (.iload_n 2, 1) := by decide +kernel
theorem zd_N_copy_10 : decode zc_N_copy 10 = .ok (.aload_n 0, 1) := by decide +kernel
theorem zd_N_copy_11 : decode zc_N_copy 11 = .ok (.iload_n 2, 1) := by decide +kernel
theorem zd_N_copy_12 : decode zc_N_copy 12 = .ok (.iaload, 1) := by decide +kernel
theorem zd_N_copy_13 : decode zc_N_copy 13 = .ok (.iastore, 1) := by decide +kernel
theorem zd_N_copy_14 : decode zc_N_copy 14 = .ok (.iinc 2 1, 3) := by decide +kernel
theorem zd_N_copy_17 : decode zc_N_copy 17 = .ok (.goto (-15), 3) := by decide +kernel
theorem zd_N_copy_20 : decode zc_N_copy 20 = .ok (.return_, 1) := by decide +kernel
theorem zd_N_raise_0 : decode zc_N_raise 0 = .ok (.iconst 0, 1) := by decide +kernel
theorem zd_N_raise_1 : decode zc_N_raise 1 = .ok (.istore_n 1, 1) := by decide +kernel
theorem zd_N_raise_2 : decode zc_N_raise 2 = .ok (.iload_n 1, 1) := by decide +kernel
theorem zd_N_raise_3 : decode zc_N_raise 3 = .ok (.bipush 32, 2) := by decide +kernel
theorem zd_N_raise_5 : decode zc_N_raise 5 = .ok (.if_icmp .ge 24, 3) := by decide +kernel
theorem zd_N_raise_8 : decode zc_N_raise 8 = .ok (.aload_n 0, 1) := by decide +kernel
theorem zd_N_raise_9 : decode zc_N_raise 9 = .ok (.getfield 43, 3) := by decide +kernel
theorem zd_N_raise_12 : decode zc_N_raise 12 = .ok (.iload_n 1, 1) := by decide +kernel
theorem zd_N_raise_13 : decode zc_N_raise 13 = .ok (.iload_n 1, 1) := by decide +kernel
theorem zd_N_raise_14 : decode zc_N_raise 14 = .ok (.ifCond .ne 7, 3) := by decide +kernel
theorem zd_N_raise_17 : decode zc_N_raise 17 = .ok (.iconst 1, 1) := by decide +kernel
theorem zd_N_raise_18 : decode zc_N_raise 18 = .ok (.goto 4, 3) := by decide +kernel
theorem zd_N_raise_21 : decode zc_N_raise 21 = .ok (.iconst 0, 1) := by decide +kernel
theorem zd_N_raise_22 : decode zc_N_raise 22 = .ok (.iastore, 1) := by decide +kernel
theorem zd_N_raise_23 : decode zc_N_raise 23 = .ok (.iinc 1 1, 3) := by decide +kernel
theorem zd_N_raise_26 : decode zc_N_raise 26 = .ok (.goto (-24), 3) := by decide +kernel
theorem zd_N_raise_29 : decode zc_N_raise 29 = .ok (.aload_n 0, 1) := by decide +kernel
theorem zd_N_raise_30 : decode zc_N_raise 30 = .ok (.aload_n 0, 1) := by decide +kernel
theorem zd_N_raise_31 : decode zc_N_raise 31 = .ok (.getfield 40, 3) := by decide +kernel
theorem zd_N_raise_34 : decode zc_N_raise 34 = .ok (.invokevirtual 169, 3) := by decide +kernel
theorem zd_N_raise_37 : decode zc_N_raise 37 = .ok (.sipush 255, 3) := by decide +kernel
theorem zd_N_raise_40 : decode zc_N_raise 40 = .ok (.istore_n 1, 1) := by decide +kernel
theorem zd_N_raise_41 : decode zc_N_raise 41 = .ok (.iload_n 1, 1) := by decide +kernel
theorem zd_N_raise_42 : decode zc_N_raise 42 = .ok (.ifCond .lt 69, 3) := by decide +kernel
theorem zd_N_raise_45 : decode zc_N_raise 45 = .ok (.aload_n 0, 1) := by decide +kernel
theorem zd_N_raise_46 : decode zc_N_raise 46 = .ok (.aload_n 0, 1) := by decide +kernel
theorem zd_N_raise_47 : decode zc_N_raise 47 = .ok (.getfield 40, 3) := by decide +kernel
theorem zd_N_raise_50 : decode zc_N_raise 50 = .ok (.aload_n 0, 1) := by decide +kernel
theorem zd_N_raise_51 : decode zc_N_raise 51 = .ok (.getfield 40, 3) := by decide +kernel
theorem zd_N_raise_54 : decode zc_N_raise 54 = .ok (.invokevirtual 173, 3) := by decide +kernel
theorem zd_N_raise_57 : decode zc_N_raise 57 = .ok (.aload_n 0, 1) := by decide +kernel
theorem zd_N_raise_58 : decode zc_N_raise 58 = .ok (.aload_n 0, 1) := by decide +kernel
theorem zd_N_raise_59 : decode zc_N_raise 59 = .ok (.getfield 40, 3) := by decide +kernel
theorem zd_N_raise_62 : decode zc_N_raise 62 = .ok (.invokevirtual 169, 3) := by decide +kernel
theorem zd_N_raise_65 : decode zc_N_raise 65 = .ok (.aload_n 0, 1) := by decide +kernel
theorem zd_N_raise_66 : decode zc_N_raise 66 = .ok (.getfield 37, 3) := by decide +kernel
theorem zd_N_raise_69 : decode zc_N_raise 69 = .ok (.iload_n 1, 1) := by decide +kernel
theorem zd_N_raise_70 : decode zc_N_raise 70 = .ok (.bipush 16, 2) := by decide +kernel
theorem zd_N_raise_72 : decode zc_N_raise 72 = .ok (.idiv, 1) := by decide +kernel
theorem zd_N_raise_73 : decode zc_N_raise 73 = .ok (.iaload, 1) := by decide +kernel
theorem zd_N_raise_74 : decode zc_N_raise 74 = .ok (.iload_n 1, 1) := by decide +kernel
theorem zd_N_raise_75 : decode zc_N_raise 75 = .ok (.bipush 16, 2) := by decide +kernel
theorem zd_N_raise_77 : decode zc_N_raise 77 = .ok (.irem, 1) := by decide +kernel
theorem zd_N_raise_78 : decode zc_N_raise 78 = .ok (.ishr, 1) := by decide +kernel
theorem zd_N_raise_79 : decode zc_N_raise 79 = .ok (.iconst 1, 1) := by decide +kernel
theorem zd_N_raise_80 : decode zc_N_raise 80 = .ok (.iand, 1) := by decide +kernel
theorem zd_N_raise_81 : decode zc_N_raise 81 = .ok (.iconst 1, 1) := by decide +kernel
theorem zd_N_raise_82 : decode zc_N_raise 82 = .ok (.if_icmp .ne 23, 3) := by decide +kernel
theorem zd_N_raise_85 : decode zc_N_raise 85 = .ok (.aload_n 0, 1) := by decide +kernel
theorem zd_N_raise_86 : decode zc_N_raise 86 = .ok (.aload_n 0, 1) := by decide +kernel
theorem zd_N_raise_87 : decode zc_N_raise 87 = .ok (.getfield 40, 3) := by decide +kernel
theorem zd_N_raise_90 : decode zc_N_raise 90 = .ok (.aload_n 0, 1) := by decide +kernel
theorem zd_N_raise_91 : decode zc_N_raise 91 = .ok (.getfield 34, 3) := by decide +kernel
theorem zd_N_raise_94 : decode zc_N_raise 94 = .ok (.invokevirtual 173, 3) := by decide +kernel
theorem zd_N_raise_97 : decode zc_N_raise 97 = .ok (.aload_n 0, 1) := by decide +kernel
theorem zd_N_raise_98 : decode zc_N_raise 98 = .ok (.aload_n 0, 1) := by decide +kernel
theorem zd_N_raise_99 : decode zc_N_raise 99 = .ok (.getfield 40, 3) := by decide +kernel
theorem zd_N_raise_102 : decode zc_N_raise 102 = .ok (.invokevirtual 169, 3) := by decide +kernel
theorem zd_N_raise_105 : decode zc_N_raise 105 = .ok (.iinc 1 (-1), 3) := by decide +kernel
theorem zd_N_raise_108 : decode zc_N_raise 108 = .ok (.goto (-67), 3) := by decide +kernel
theorem zd_N_raise_111 : decode zc_N_raise 111 = .ok (.return_, 1) := by decide +kernel
theorem zd_N_remain_0 : decode zc_N_remain 0 = .ok (.bipush 15, 2) := by decide +kernel
theorem zd_N_remain_2 : decode zc_N_remain 2 = .ok (.istore_n 2, 1) := by decide +kernel
theorem zd_N_remain_3 : decode zc_N_remain 3 = .ok (.aload_n 0, 1) := by decide +kernel
theorem zd_N_remain_4 : decode zc_N_remain 4 = .ok (.getfield 31, 3) := by decide +kernel
theorem zd_N_remain_7 : decode zc_N_remain 7 = .ok (.iload_n 2, 1) := by decide +kernel
theorem zd_N_remain_8 : decode zc_N_remain 8 = .ok (.iaload, 1) := by decide +kernel
theorem zd_N_remain_9 : decode zc_N_remain 9 = .ok (.ifCond .ne 9, 3) := by decide +kernel
theorem zd_N_remain_12 : decode zc_N_remain 12 = .ok (.iinc 2 (-1), 3) := by decide +kernel
theorem zd_N_remain_15 : decode zc_N_remain 15 = .ok (.goto (-12), 3) := by decide +kernel
theorem zd_N_remain_18 : decode zc_N_remain 18 = .ok (.ldc2_w 157, 3) := by decide +kernel
theorem zd_N_remain_21 : decode zc_N_remain 21 = .ok (.aload_n 0, 1) := by decide +kernel
theorem zd_N_remain_22 : decode zc_N_remain 22 = .ok (.getfield 31, 3) := by decide +kernel
theorem zd_N_remain_25 : decode zc_N_remain 25 = .ok (.iload_n 2, 1) := by decide +kernel
theorem zd_N_remain_26 : decode zc_N_remain 26 = .ok (.iaload, 1) := by decide +kernel
theorem zd_N_remain_27 : decode zc_N_remain 27 = .ok (.i2l, 1) := by decide +kernel
theorem zd_N_remain_28 : decode zc_N_remain 28 = .ok (.lmul, 1) := by decide +kernel
theorem zd_N_remain_29 : decode zc_N_remain 29 = .ok (.iload_n 2, 1) := by decide +kernel
theorem zd_N_remain_30 : decode zc_N_remain 30 = .ok (.ifCond .le 14, 3) := by decide +kernel
theorem zd_N_remain_33 : decode zc_N_remain 33 = .ok (.aload_n 0, 1) := by decide +kernel
theorem zd_N_remain_34 : decode zc_N_remain 34 = .ok (.getfield 31, 3) := by decide +kernel
theorem zd_N_remain_37 : decode zc_N_remain 37 = .ok (.iload_n 2, 1) := by decide +kernel
theorem zd_N_remain_38 : decode zc_N_remain 38 = .ok (.iconst 1, 1) := by decide +kernel
theorem zd_N_remain_39 : decode zc_N_remain 39 = .ok (.isub, 1) := by decide +kernel
theorem zd_N_remain_40 : decode zc_N_remain 40 = .ok (.iaload, 1) := by decide +kernel
theorem zd_N_remain_41 : decode zc_N_remain 41 = .ok (.goto 4, 3) := by decide +kernel
theorem zd_N_remain_44 : decode zc_N_remain 44 = .ok (.iconst 0, 1) := by decide +kernel
theorem zd_N_remain_45 : decode zc_N_remain 45 = .ok (.i2l, 1) := by decide +kernel
theorem zd_N_remain_46 : decode zc_N_remain 46 = .ok (.ladd, 1) := by decide +kernel
theorem zd_N_remain_47 : decode zc_N_remain 47 = .ok (.lconst 1, 1) := by decide +kernel
theorem zd_N_remain_48 : decode zc_N_remain 48 = .ok (.ladd, 1) := by decide +kernel
theorem zd_N_remain_49 : decode zc_N_remain 49 = .ok (.lstore_n 3, 1) := by decide +kernel
theorem zd_N_remain_50 : decode zc_N_remain 50 = .ok (.iconst 0, 1) := by decide +kernel
theorem zd_N_remain_51 : decode zc_N_remain 51 = .ok (.istore 5, 2) := by decide +kernel
theorem zd_N_remain_53 : decode zc_N_remain 53 = .ok (.iload 5, 2) := by decide +kernel
theorem zd_N_remain_55 : decode zc_N_remain 55 = .ok (.bipush 18, 2) := by decide +kernel
theorem zd_N_remain_57 : decode zc_N_remain 57 = .ok (.if_icmp .ge 17, 3) := by decide +kernel
theorem zd_N_remain_60 : decode zc_N_remain 60 = .ok (.aload_n 0, 1) := by decide +kernel
theorem zd_N_remain_61 : decode zc_N_remain 61 = .ok (.getfield 46, 3) := by decide +kernel
theorem zd_N_remain_64 : decode zc_N_remain 64 = .ok (.iload 5, 2) := by decide +kernel
theorem zd_N_remain_66 : decode zc_N_remain 66 = .ok (.iconst 0, 1) := by decide +kernel
theorem zd_N_remain_67 : decode zc_N_remain 67 = .ok (.iastore, 1) := by decide +kernel
theorem zd_N_remain_68 : decode zc_N_remain 68 = .ok (.iinc 5 1, 3) := by decide +kernel
theorem zd_N_remain_71 : decode zc_N_remain 71 = .ok (.goto (-18), 3) := by decide +kernel
theorem zd_N_remain_74 : decode zc_N_remain 74 = .ok (.bipush 31, 2) := by decide +kernel
theorem zd_N_remain_76 : decode zc_N_remain 76 = .ok (.istore 5, 2) := by decide +kernel
theorem zd_N_remain_78 : decode zc_N_remain 78 = .ok (.iload 5, 2) := by decide +kernel
theorem zd_N_remain_80 : decode zc_N_remain 80 = .ok (.ifCond .lt 206, 3) := by decide +kernel
theorem zd_N_remain_83 : decode zc_N_remain 83 = .ok (.bipush 17, 2) := by decide +kernel
theorem zd_N_remain_85 : decode zc_N_remain 85 = .ok (.istore 6, 2) := by decide +kernel
theorem zd_N_remain_87 : decode zc_N_remain 87 = .ok (.iload 6, 2) := by decide +kernel
theorem zd_N_remain_89 : decode zc_N_remain 89 = .ok (.ifCond .le 25, 3) := by decide +kernel
theorem zd_N_remain_92 : decode zc_N_remain 92 = .ok (.aload_n 0, 1) := by decide +kernel
theorem zd_N_remain_93 : decode zc_N_remain 93 = .ok (.getfield 46, 3) := by decide +kernel
theorem zd_N_remain_96 : decode zc_N_remain 96 = .ok (.iload 6, 2) := by decide +kernel
theorem zd_N_remain_98 : decode zc_N_remain 98 = .ok (.aload_n 0, 1) := by decide +kernel
theorem zd_N_remain_99 : decode zc_N_remain 99 = .ok (.getfield 46, 3) := by decide +kernel
theorem zd_N_remain_102 : decode zc_N_remain 102 = .ok (.iload 6, 2) := by decide +kernel
theorem zd_N_remain_104 : decode zc_N_remain 104 = .ok (.iconst 1, 1) := by decide +kernel
theorem zd_N_remain_105 : decode zc_N_remain 105 = .ok (.isub, 1) := by decide +kernel
theorem zd_N_remain_106 : decode zc_N_remain 106 = .ok (.iaload, 1) := by decide +kernel
theorem zd_N_remain_107 : decode zc_N_remain 107 = .ok (.iastore, 1) := by decide +kernel
theorem zd_N_remain_108 : decode zc_N_remain 108 = .ok (.iinc 6 (-1), 3) := by decide +kernel
theorem zd_N_remain_111 : decode zc_N_remain 111 = .ok (.goto (-24), 3) := by decide +kernel
theorem zd_N_remain_114 : decode zc_N_remain 114 = .ok (.aload_n 0, 1) := by decide +kernel
theorem zd_N_remain_115 : decode zc_N_remain 115 = .ok (.getfield 46, 3) := by decide +kernel
theorem zd_N_remain_118 : decode zc_N_remain 118 = .ok (.iconst 0, 1) := by decide +kernel
theorem zd_N_remain_119 : decode zc_N_remain 119 = .ok (.aload_n 0, 1) := by decide +kernel
theorem zd_N_remain_120 : decode zc_N_remain 120 = .ok (.getfield 43, 3) := by decide +kernel
theorem zd_N_remain_123 : decode zc_N_remain 123 = .ok (.iload 5, 2) := by decide +kernel
theorem zd_N_remain_125 : decode zc_N_remain 125 = .ok (.iaload, 1) := by decide +kernel
theorem zd_N_remain_126 : decode zc_N_remain 126 = .ok (.iastore, 1) := by decide +kernel
theorem zd_N_remain_127 : decode zc_N_remain 127 = .ok (.aload_n 0, 1) := by decide +kernel
theorem zd_N_remain_128 : decode zc_N_remain 128 = .ok (.iload_n 2, 1) := by decide +kernel
theorem zd_N_remain_129 : decode zc_N_remain 129 = .ok (.invokevirtual 165, 3) := by decide +kernel
theorem zd_N_remain_132 : decode zc_N_remain 132 = .ok (.ifCond .ne 148, 3) := by decide +kernel
theorem zd_N_remain_135 : decode zc_N_remain 135 = .ok (.ldc2_w 157, 3) := by decide +kernel
theorem zd_N_remain_138 : decode zc_N_remain 138 = .ok (.ldc2_w 157, 3) := by decide +kernel
theorem zd_N_remain_141 : decode zc_N_remain 141 = .ok (.aload_n 0, 1) := by decide +kernel
theorem zd_N_remain_142 : decode zc_N_remain 142 = .ok (.getfield 46, 3) := by decide +kernel
theorem zd_N_remain_145 : decode zc_N_remain 145 = .ok (.iload_n 2, 1) := by decide +kernel
theorem zd_N_remain_146 : decode zc_N_remain 146 = .ok (.iconst 1, 1) := by decide +kernel
theorem zd_N_remain_147 : decode zc_N_remain 147 = .ok (.iadd, 1) := by decide +kernel
theorem zd_N_remain_148 : decode zc_N_remain 148 = .ok (.iaload, 1) := by decide +kernel
theorem zd_N_remain_149 : decode zc_N_remain 149 = .ok (.i2l, 1) := by decide +kernel
theorem zd_N_remain_150 : decode zc_N_remain 150 = .ok (.lmul, 1) := by decide +kernel
theorem zd_N_remain_151 : decode zc_N_remain 151 = .ok (.aload_n 0, 1) := by decide +kernel
theorem zd_N_remain_152 : decode zc_N_remain 152 = .ok (.getfield 46, 3) := by decide +kernel
theorem zd_N_remain_155 : decode zc_N_remain 155 = .ok (.iload_n 2, 1) := by decide +kernel
theorem zd_N_remain_156 : decode zc_N_remain 156 = .ok (.iaload, 1) := by decide +kernel
theorem zd_N_remain_157 : decode zc_N_remain 157 = .ok (.i2l, 1) := by decide +kernel
theorem zd_N_remain_158 : decode zc_N_remain 158 = .ok (.ladd, 1) := by decide +kernel
theorem zd_N_remain_159 : decode zc_N_remain 159 = .ok (.lmul, 1) := by decide +kernel
theorem zd_N_remain_160 : decode zc_N_remain 160 = .ok (.iload_n 2, 1) := by decide +kernel
theorem zd_N_remain_161 : decode zc_N_remain 161 = .ok (.ifCond .le 14, 3) := by decide +kernel
theorem zd_N_remain_164 : decode zc_N_remain 164 = .ok (.aload_n 0, 1) := by decide +kernel
theorem zd_N_remain_165 : decode zc_N_remain 165 = .ok (.getfield 46, 3) := by decide +kernel
theorem zd_N_remain_168 : decode zc_N_remain 168 = .ok (.iload_n 2, 1) := by decide +kernel
theorem zd_N_remain_169 : decode zc_N_remain 169 = .ok (.iconst 1, 1) := by decide +kernel
theorem zd_N_remain_170 : decode zc_N_remain 170 = .ok (.isub, 1) := by decide +kernel
theorem zd_N_remain_171 : decode zc_N_remain 171 = .ok (.iaload, 1) := by decide +kernel
theorem zd_N_remain_172 : decode zc_N_remain 172 = .ok (.goto 4, 3) := by decide +kernel
theorem zd_N_remain_175 : decode zc_N_remain 175 = .ok (.iconst 0, 1) := by decide +kernel
theorem zd_N_remain_176 : decode zc_N_remain 176 = .ok (.i2l, 1) := by decide +kernel
theorem zd_N_remain_177 : decode zc_N_remain 177 = .ok (.ladd, 1) := by decide +kernel
theorem zd_N_remain_178 : decode zc_N_remain 178 = .ok (.lstore 6, 2) := by decide +kernel
theorem zd_N_remain_180 : decode zc_N_remain 180 = .ok (.lload 6, 2) := by decide +kernel
theorem zd_N_remain_182 : decode zc_N_remain 182 = .ok (.lload_n 3, 1) := by decide +kernel
theorem zd_N_remain_183 : decode zc_N_remain 183 = .ok (.ldiv, 1) := by decide +kernel
theorem zd_N_remain_184 : decode zc_N_remain 184 = .ok (.lstore 8, 2) := by decide +kernel
theorem zd_N_remain_186 : decode zc_N_remain 186 = .ok (.lload 8, 2) := by decide +kernel
theorem zd_N_remain_188 : decode zc_N_remain 188 = .ok (.lconst 1, 1) := by decide +kernel
theorem zd_N_remain_189 : decode zc_N_remain 189 = .ok (.lcmp, 1) := by decide +kernel
theorem zd_N_remain_190 : decode zc_N_remain 190 = .ok (.ifCond .ge 7, 3) := by decide +kernel
theorem zd_N_remain_193 : decode zc_N_remain 193 = .ok (.lconst 1, 1) := by decide +kernel
theorem zd_N_remain_194 : decode zc_N_remain 194 = .ok (.goto 5, 3) := by decide +kernel
theorem zd_N_remain_197 : decode zc_N_remain 197 = .ok (.lload 8, 2) := by decide +kernel
theorem zd_N_remain_199 : decode zc_N_remain 199 = .ok (.lstore 8, 2) := by decide +kernel
theorem zd_N_remain_201 : decode zc_N_remain 201 = .ok (.lconst 0, 1) := by decide +kernel
theorem zd_N_remain_202 : decode zc_N_remain 202 = .ok (.lstore 10, 2) := by decide +kernel
theorem zd_N_remain_204 : decode zc_N_remain 204 = .ok (.iconst 0, 1) := by decide +kernel
theorem zd_N_remain_205 : decode zc_N_remain 205 = .ok (.istore 12, 2) := by decide +kernel
theorem zd_N_remain_207 : decode zc_N_remain 207 = .ok (.iload 12, 2) := by decide +kernel
theorem zd_N_remain_209 : decode zc_N_remain 209 = .ok (.bipush 18, 2) := by decide +kernel
theorem zd_N_remain_211 : decode zc_N_remain 211 = .ok (.if_icmp .ge 66, 3) := by decide +kernel
theorem zd_N_remain_214 : decode zc_N_remain 214 = .ok (.lload 10, 2) := by decide +kernel
theorem zd_N_remain_216 : decode zc_N_remain 216 = .ok (.aload_n 0, 1) := by decide +kernel
theorem zd_N_remain_217 : decode zc_N_remain 217 = .ok (.getfield 46, 3) := by decide +kernel
theorem zd_N_remain_220 : decode zc_N_remain 220 = .ok (.iload 12, 2) := by decide +kernel
theorem zd_N_remain_222 : decode zc_N_remain 222 = .ok (.iaload, 1) := by decide +kernel
theorem zd_N_remain_223 : decode zc_N_remain 223 = .ok (.i2l, 1) := by decide +kernel
theorem zd_N_remain_224 : decode zc_N_remain 224 = .ok (.ladd, 1) := by decide +kernel
theorem zd_N_remain_225 : decode zc_N_remain 225 = .ok (.iload 12, 2) := by decide +kernel
theorem zd_N_remain_227 : decode zc_N_remain 227 = .ok (.bipush 16, 2) := by decide +kernel
theorem zd_N_remain_229 : decode zc_N_remain 229 = .ok (.if_icmp .ge 17, 3) := by decide +kernel
theorem zd_N_remain_232 : decode zc_N_remain 232 = .ok (.lload 8, 2) := by decide +kernel
theorem zd_N_remain_234 : decode zc_N_remain 234 = .ok (.aload_n 0, 1) := by decide +kernel
theorem zd_N_remain_235 : decode zc_N_remain 235 = .ok (.getfield 31, 3) := by decide +kernel
theorem zd_N_remain_238 : decode zc_N_remain 238 = .ok (.iload 12, 2) := by decide +kernel
theorem zd_N_remain_240 : decode zc_N_remain 240 = .ok (.iaload, 1) := by decide +kernel
theorem zd_N_remain_241 : decode zc_N_remain 241 = .ok (.i2l, 1) := by decide +kernel
theorem zd_N_remain_242 : decode zc_N_remain 242 = .ok (.lmul, 1) := by decide +kernel
theorem zd_N_remain_243 : decode zc_N_remain 243 = .ok (.goto 4, 3) := by decide +kernel
theorem zd_N_remain_246 : decode zc_N_remain 246 = .ok (.lconst 0, 1) := by decide +kernel
theorem zd_N_remain_247 : decode zc_N_remain 247 = .ok (.lsub, 1) := by decide +kernel
theorem zd_N_remain_248 : decode zc_N_remain 248 = .ok (.lstore 10, 2) := by decide +kernel
theorem zd_N_remain_250 : decode zc_N_remain 250 = .ok (.aload_n 0, 1) := by decide +kernel
theorem zd_N_remain_251 : decode zc_N_remain 251 = .ok (.getfield 46, 3) := by decide +kernel
theorem zd_N_remain_254 : decode zc_N_remain 254 = .ok (.iload 12, 2) := by decide +kernel
theorem zd_N_remain_256 : decode zc_N_remain 256 = .ok (.lload 10, 2) := by decide +kernel
theorem zd_N_remain_258 : decode zc_N_remain 258 = .ok (.ldc2_w 159, 3) := by decide +kernel
theorem zd_N_remain_261 : decode zc_N_remain 261 = .ok (.land, 1) := by decide +kernel
theorem zd_N_remain_262 : decode zc_N_remain 262 = .ok (.l2i, 1) := by decide +kernel
theorem zd_N_remain_263 : decode zc_N_remain 263 = .ok (.iastore, 1) := by decide +kernel
theorem zd_N_remain_264 : decode zc_N_remain 264 = .ok (.lload 10, 2) := by decide +kernel
theorem zd_N_remain_266 : decode zc_N_remain 266 = .ok (.bipush 16, 2) := by decide +kernel
theorem zd_N_remain_268 : decode zc_N_remain 268 = .ok (.lshr, 1) := by decide +kernel
theorem zd_N_remain_269 : decode zc_N_remain 269 = .ok (.lstore 10, 2) := by decide +kernel
theorem zd_N_remain_271 : decode zc_N_remain 271 = .ok (.iinc 12 1, 3) := by decide +kernel
theorem zd_N_remain_274 : decode zc_N_remain 274 = .ok (.goto (-67), 3) := by decide +kernel
theorem zd_N_remain_277 : decode zc_N_remain 277 = .ok (.goto (-150), 3) := by decide +kernel
theorem zd_N_remain_280 : decode zc_N_remain 280 = .ok (.iinc 5 (-1), 3) := by decide +kernel
theorem zd_N_remain_283 : decode zc_N_remain 283 = .ok (.goto (-205), 3) := by decide +kernel
theorem zd_N_remain_286 : decode zc_N_remain 286 = .ok (.iconst 0, 1) := by decide +kernel
theorem zd_N_remain_287 : decode zc_N_remain 287 = .ok (.istore 5, 2) := by decide +kernel
theorem zd_N_remain_289 : decode zc_N_remain 289 = .ok (.iload 5, 2) := by decide +kernel
theorem zd_N_remain_291 : decode zc_N_remain 291 = .ok (.bipush 16, 2) := by decide +kernel
theorem zd_N_remain_293 : decode zc_N_remain 293 = .ok (.if_icmp .ge 20, 3) := by decide +kernel
theorem zd_N_remain_296 : decode zc_N_remain 296 = .ok (.aload_n 1, 1) := by decide +kernel
theorem zd_N_remain_297 : decode zc_N_remain 297 = .ok (.iload 5, 2) := by decide +kernel
theorem zd_N_remain_299 : decode zc_N_remain 299 = .ok (.aload_n 0, 1) := by decide +kernel
theorem zd_N_remain_300 : decode zc_N_remain 300 = .ok (.getfield 46, 3) := by decide +kernel
theorem zd_N_remain_303 : decode zc_N_remain 303 = .ok (.iload 5, 2) := by decide +kernel
theorem zd_N_remain_305 : decode zc_N_remain 305 = .ok (.iaload, 1) := by decide +kernel
theorem zd_N_remain_306 : decode zc_N_remain 306 = .ok (.iastore, 1) := by decide +kernel
theorem zd_N_remain_307 : decode zc_N_remain 307 = .ok (.iinc 5 1, 3) := by decide +kernel
theorem zd_N_remain_310 : decode zc_N_remain 310 = .ok (.goto (-21), 3) := by decide +kernel
theorem zd_N_remain_313 : decode zc_N_remain 313 = .ok (.return_, 1) := by decide +kernel
theorem zd_N_isLess_0 : decode zc_N_isLess 0 = .ok (.bipush 17, 2) := by decide +kernel
theorem zd_N_isLess_2 : decode zc_N_isLess 2 = .ok (.istore_n 2, 1) := by decide +kernel
theorem zd_N_isLess_3 : decode zc_N_isLess 3 = .ok (.iload_n 2, 1) := by decide +kernel
theorem zd_N_isLess_4 : decode zc_N_isLess 4 = .ok (.ifCond .lt 52, 3) := by decide +kernel
theorem zd_N_isLess_7 : decode zc_N_isLess 7 = .ok (.iload_n 2, 1) := by decide +kernel
theorem zd_N_isLess_8 : decode zc_N_isLess 8 = .ok (.bipush 16, 2) := by decide +kernel
theorem zd_N_isLess_10 : decode zc_N_isLess 10 = .ok (.if_icmp .ge 12, 3) := by decide +kernel
theorem zd_N_isLess_13 : decode zc_N_isLess 13 = .ok (.aload_n 0, 1) := by decide +kernel
theorem zd_N_isLess_14 : decode zc_N_isLess 14 = .ok (.getfield 31, 3) := by decide +kernel
theorem zd_N_isLess_17 : decode zc_N_isLess 17 = .ok (.iload_n 2, 1) := by decide +kernel
theorem zd_N_isLess_18 : decode zc_N_isLess 18 = .ok (.iaload, 1) := by decide +kernel
theorem zd_N_isLess_19 : decode zc_N_isLess 19 = .ok (.goto 4, 3) := by decide +kernel
theorem zd_N_isLess_22 : decode zc_N_isLess 22 = .ok (.iconst 0, 1) := by decide +kernel
theorem zd_N_isLess_23 : decode zc_N_isLess 23 = .ok (.istore_n 3, 1) := by decide +kernel
theorem zd_N_isLess_24 : decode zc_N_isLess 24 = .ok (.aload_n 0, 1) := by decide +kernel
theorem zd_N_isLess_25 : decode zc_N_isLess 25 = .ok (.getfield 46, 3) := by decide +kernel
theorem zd_N_isLess_28 : decode zc_N_isLess 28 = .ok (.iload_n 2, 1) := by decide +kernel
theorem zd_N_isLess_29 : decode zc_N_isLess 29 = .ok (.iaload, 1) := by decide +kernel
theorem zd_N_isLess_30 : decode zc_N_isLess 30 = .ok (.iload_n 3, 1) := by decide +kernel
theorem zd_N_isLess_31 : decode zc_N_isLess 31 = .ok (.if_icmp .eq 19, 3) := by decide +kernel
theorem zd_N_isLess_34 : decode zc_N_isLess 34 = .ok (.aload_n 0, 1) := by decide +kernel
theorem zd_N_isLess_35 : decode zc_N_isLess 35 = .ok (.getfield 46, 3) := by decide +kernel
theorem zd_N_isLess_38 : decode zc_N_isLess 38 = .ok (.iload_n 2, 1) := by decide +kernel
theorem zd_N_isLess_39 : decode zc_N_isLess 39 = .ok (.iaload, 1) := by decide +kernel
theorem zd_N_isLess_40 : decode zc_N_isLess 40 = .ok (.iload_n 3, 1) := by decide +kernel
theorem zd_N_isLess_41 : decode zc_N_isLess 41 = .ok (.if_icmp .ge 7, 3) := by decide +kernel
theorem zd_N_isLess_44 : decode zc_N_isLess 44 = .ok (.iconst 1, 1) := by decide +kernel
theorem zd_N_isLess_45 : decode zc_N_isLess 45 = .ok (.goto 4, 3) := by decide +kernel
theorem zd_N_isLess_48 : decode zc_N_isLess 48 = .ok (.iconst 0, 1) := by decide +kernel
theorem zd_N_isLess_49 : decode zc_N_isLess 49 = .ok (.ireturn, 1) := by decide +kernel
theorem zd_N_isLess_50 : decode zc_N_isLess 50 = .ok (.iinc 2 (-1), 3) := by decide +kernel
theorem zd_N_isLess_53 : decode zc_N_isLess 53 = .ok (.goto (-50), 3) := by decide +kernel
theorem zd_N_isLess_56 : decode zc_N_isLess 56 = .ok (.iconst 0, 1) := by decide +kernel
theorem zd_N_isLess_57 : decode zc_N_isLess 57 = .ok (.ireturn, 1) := by decide +kernel
theorem zd_N_words_0 : decode zc_N_words 0 = .ok (.iconst 0, 1) := by decide +kernel
theorem zd_N_words_1 : decode zc_N_words 1 = .ok (.istore_n 3, 1) := by decide +kernel
theorem zd_N_words_2 : decode zc_N_words 2 = .ok (.iload_n 3, 1) := by decide +kernel
theorem zd_N_words_3 : decode zc_N_words 3 = .ok (.bipush 8, 2) := by decide +kernel
theorem zd_N_words_5 : decode zc_N_words 5 = .ok (.if_icmp .ge 34, 3) := by decide +kernel
theorem zd_N_words_8 : decode zc_N_words 8 = .ok (.aload_n 1, 1) := by decide +kernel
theorem zd_N_words_9 : decode zc_N_words 9 = .ok (.iload_n 2, 1) := by decide +kernel
theorem zd_N_words_10 : decode zc_N_words 10 = .ok (.iload_n 3, 1) := by decide +kernel
theorem zd_N_words_11 : decode zc_N_words 11 = .ok (.iadd, 1) := by decide +kernel
theorem zd_N_words_12 : decode zc_N_words 12 = .ok (.aload_n 0, 1) := by decide +kernel
theorem zd_N_words_13 : decode zc_N_words 13 = .ok (.bipush 15, 2) := by decide +kernel
theorem zd_N_words_15 : decode zc_N_words 15 = .ok (.iconst 2, 1) := by decide +kernel
theorem zd_N_words_16 : decode zc_N_words 16 = .ok (.iload_n 3, 1) := by decide +kernel
theorem zd_N_words_17 : decode zc_N_words 17 = .ok (.imul, 1) := by decide +kernel
theorem zd_N_words_18 : decode zc_N_words 18 = .ok (.isub, 1) := by decide +kernel
theorem zd_N_words_19 : decode zc_N_words 19 = .ok (.iaload, 1) := by decide +kernel
theorem zd_N_words_20 : decode zc_N_words 20 = .ok (.bipush 16, 2) := by decide +kernel
theorem zd_N_words_22 : decode zc_N_words 22 = .ok (.ishl, 1) := by decide +kernel
theorem zd_N_words_23 : decode zc_N_words 23 = .ok (.aload_n 0, 1) := by decide +kernel
theorem zd_N_words_24 : decode zc_N_words 24 = .ok (.bipush 14, 2) := by decide +kernel
theorem zd_N_words_26 : decode zc_N_words 26 = .ok (.iconst 2, 1) := by decide +kernel
theorem zd_N_words_27 : decode zc_N_words 27 = .ok (.iload_n 3, 1) := by decide +kernel
theorem zd_N_words_28 : decode zc_N_words 28 = .ok (.imul, 1) := by decide +kernel
theorem zd_N_words_29 : decode zc_N_words 29 = .ok (.isub, 1) := by decide +kernel
theorem zd_N_words_30 : decode zc_N_words 30 = .ok (.iaload, 1) := by decide +kernel
theorem zd_N_words_31 : decode zc_N_words 31 = .ok (.ior, 1) := by decide +kernel
theorem zd_N_words_32 : decode zc_N_words 32 = .ok (.iastore, 1) := by decide +kernel
theorem zd_N_words_33 : decode zc_N_words 33 = .ok (.iinc 3 1, 3) := by decide +kernel
theorem zd_N_words_36 : decode zc_N_words 36 = .ok (.goto (-34), 3) := by decide +kernel
theorem zd_N_words_39 : decode zc_N_words 39 = .ok (.return_, 1) := by decide +kernel
theorem zd_N_answer_0 : decode zc_N_answer 0 = .ok (.aload_n 0, 1) := by decide +kernel
theorem zd_N_answer_1 : decode zc_N_answer 1 = .ok (.iconst 0, 1) := by decide +kernel
theorem zd_N_answer_2 : decode zc_N_answer 2 = .ok (.putfield 153, 3) := by decide +kernel
theorem zd_N_answer_5 : decode zc_N_answer 5 = .ok (.aload_n 0, 1) := by decide +kernel
theorem zd_N_answer_6 : decode zc_N_answer 6 = .ok (.getfield 149, 3) := by decide +kernel
theorem zd_N_answer_9 : decode zc_N_answer 9 = .ok (.iconst 1, 1) := by decide +kernel
theorem zd_N_answer_10 : decode zc_N_answer 10 = .ok (.if_icmp .eq 6, 3) := by decide +kernel
theorem zd_N_answer_13 : decode zc_N_answer 13 = .ok (.bipush (-11), 2) := by decide +kernel
theorem zd_N_answer_15 : decode zc_N_answer 15 = .ok (.ireturn, 1) := by decide +kernel
theorem zd_N_answer_16 : decode zc_N_answer 16 = .ok (.aload_n 0, 1) := by decide +kernel
theorem zd_N_answer_17 : decode zc_N_answer 17 = .ok (.invokevirtual 225, 3) := by decide +kernel
theorem zd_N_answer_20 : decode zc_N_answer 20 = .ok (.ifCond .ne 6, 3) := by decide +kernel
theorem zd_N_answer_23 : decode zc_N_answer 23 = .ok (.bipush (-10), 2) := by decide +kernel
theorem zd_N_answer_25 : decode zc_N_answer 25 = .ok (.ireturn, 1) := by decide +kernel
theorem zd_N_answer_26 : decode zc_N_answer 26 = .ok (.aload_n 0, 1) := by decide +kernel
theorem zd_N_answer_27 : decode zc_N_answer 27 = .ok (.getfield 13, 3) := by decide +kernel
theorem zd_N_answer_30 : decode zc_N_answer 30 = .ok (.iconst 0, 1) := by decide +kernel
theorem zd_N_answer_31 : decode zc_N_answer 31 = .ok (.aload_n 0, 1) := by decide +kernel
theorem zd_N_answer_32 : decode zc_N_answer 32 = .ok (.getfield 34, 3) := by decide +kernel
theorem zd_N_answer_35 : decode zc_N_answer 35 = .ok (.invokestatic 191, 3) := by decide +kernel
theorem zd_N_answer_38 : decode zc_N_answer 38 = .ok (.aload_n 0, 1) := by decide +kernel
theorem zd_N_answer_39 : decode zc_N_answer 39 = .ok (.aload_n 0, 1) := by decide +kernel
theorem zd_N_answer_40 : decode zc_N_answer 40 = .ok (.getfield 34, 3) := by decide +kernel
theorem zd_N_answer_43 : decode zc_N_answer 43 = .ok (.iconst 2, 1) := by decide +kernel
theorem zd_N_answer_44 : decode zc_N_answer 44 = .ok (.iconst 2, 1) := by decide +kernel
theorem zd_N_answer_45 : decode zc_N_answer 45 = .ok (.invokevirtual 211, 3) := by decide +kernel
theorem zd_N_answer_48 : decode zc_N_answer 48 = .ok (.ifCond .ne 9, 3) := by decide +kernel
theorem zd_N_answer_51 : decode zc_N_answer 51 = .ok (.aload_n 0, 1) := by decide +kernel
theorem zd_N_answer_52 : decode zc_N_answer 52 = .ok (.iconst 1, 1) := by decide +kernel
theorem zd_N_answer_53 : decode zc_N_answer 53 = .ok (.invokevirtual 240, 3) := by decide +kernel
theorem zd_N_answer_56 : decode zc_N_answer 56 = .ok (.ireturn, 1) := by decide +kernel
theorem zd_N_answer_57 : decode zc_N_answer 57 = .ok (.aload_n 0, 1) := by decide +kernel
theorem zd_N_answer_58 : decode zc_N_answer 58 = .ok (.getfield 7, 3) := by decide +kernel
theorem zd_N_answer_61 : decode zc_N_answer 61 = .ok (.bipush 16, 2) := by decide +kernel
theorem zd_N_answer_63 : decode zc_N_answer 63 = .ok (.aload_n 0, 1) := by decide +kernel
theorem zd_N_answer_64 : decode zc_N_answer 64 = .ok (.getfield 49, 3) := by decide +kernel
theorem zd_N_answer_67 : decode zc_N_answer 67 = .ok (.invokestatic 191, 3) := by decide +kernel
theorem zd_N_answer_70 : decode zc_N_answer 70 = .ok (.aload_n 0, 1) := by decide +kernel
theorem zd_N_answer_71 : decode zc_N_answer 71 = .ok (.getfield 7, 3) := by decide +kernel
theorem zd_N_answer_74 : decode zc_N_answer 74 = .ok (.bipush 24, 2) := by decide +kernel
theorem zd_N_answer_76 : decode zc_N_answer 76 = .ok (.aload_n 0, 1) := by decide +kernel
theorem zd_N_answer_77 : decode zc_N_answer 77 = .ok (.getfield 52, 3) := by decide +kernel
theorem zd_N_answer_80 : decode zc_N_answer 80 = .ok (.invokestatic 191, 3) := by decide +kernel
theorem zd_N_answer_83 : decode zc_N_answer 83 = .ok (.bipush 8, 2) := by decide +kernel
theorem zd_N_answer_85 : decode zc_N_answer 85 = .ok (.istore_n 1, 1) := by decide +kernel
theorem zd_N_answer_86 : decode zc_N_answer 86 = .ok (.iload_n 1, 1) := by decide +kernel
theorem zd_N_answer_87 : decode zc_N_answer 87 = .ok (.bipush 16, 2) := by decide +kernel
theorem zd_N_answer_89 : decode zc_N_answer 89 = .ok (.if_icmp .ge 23, 3) := by decide +kernel
theorem zd_N_answer_92 : decode zc_N_answer 92 = .ok (.aload_n 0, 1) := by decide +kernel
theorem zd_N_answer_93 : decode zc_N_answer 93 = .ok (.getfield 49, 3) := by decide +kernel
theorem zd_N_answer_96 : decode zc_N_answer 96 = .ok (.iload_n 1, 1) := by decide +kernel
theorem zd_N_answer_97 : decode zc_N_answer 97 = .ok (.iconst 0, 1) := by decide +kernel
theorem zd_N_answer_98 : decode zc_N_answer 98 = .ok (.iastore, 1) := by decide +kernel
theorem zd_N_answer_99 : decode zc_N_answer 99 = .ok (.aload_n 0, 1) := by decide +kernel
theorem zd_N_answer_100 : decode zc_N_answer 100 = .ok (.getfield 52, 3) := by decide +kernel
theorem zd_N_answer_103 : decode zc_N_answer 103 = .ok (.iload_n 1, 1) := by decide +kernel
theorem zd_N_answer_104 : decode zc_N_answer 104 = .ok (.iconst 0, 1) := by decide +kernel
theorem zd_N_answer_105 : decode zc_N_answer 105 = .ok (.iastore, 1) := by decide +kernel
theorem zd_N_answer_106 : decode zc_N_answer 106 = .ok (.iinc 1 1, 3) := by decide +kernel
theorem zd_N_answer_109 : decode zc_N_answer 109 = .ok (.goto (-23), 3) := by decide +kernel
theorem zd_N_answer_112 : decode zc_N_answer 112 = .ok (.aload_n 0, 1) := by decide +kernel
theorem zd_N_answer_113 : decode zc_N_answer 113 = .ok (.aload_n 0, 1) := by decide +kernel
theorem zd_N_answer_114 : decode zc_N_answer 114 = .ok (.getfield 49, 3) := by decide +kernel
theorem zd_N_answer_117 : decode zc_N_answer 117 = .ok (.aload_n 0, 1) := by decide +kernel
theorem zd_N_answer_118 : decode zc_N_answer 118 = .ok (.getfield 52, 3) := by decide +kernel
theorem zd_N_answer_121 : decode zc_N_answer 121 = .ok (.invokevirtual 173, 3) := by decide +kernel
theorem zd_N_answer_124 : decode zc_N_answer 124 = .ok (.iconst 0, 1) := by decide +kernel
theorem zd_N_answer_125 : decode zc_N_answer 125 = .ok (.istore_n 1, 1) := by decide +kernel
theorem zd_N_answer_126 : decode zc_N_answer 126 = .ok (.iload_n 1, 1) := by decide +kernel
theorem zd_N_answer_127 : decode zc_N_answer 127 = .ok (.bipush 16, 2) := by decide +kernel
theorem zd_N_answer_129 : decode zc_N_answer 129 = .ok (.if_icmp .ge 21, 3) := by decide +kernel
theorem zd_N_answer_132 : decode zc_N_answer 132 = .ok (.aload_n 0, 1) := by decide +kernel
theorem zd_N_answer_133 : decode zc_N_answer 133 = .ok (.getfield 40, 3) := by decide +kernel
theorem zd_N_answer_136 : decode zc_N_answer 136 = .ok (.iload_n 1, 1) := by decide +kernel
theorem zd_N_answer_137 : decode zc_N_answer 137 = .ok (.aload_n 0, 1) := by decide +kernel
theorem zd_N_answer_138 : decode zc_N_answer 138 = .ok (.getfield 43, 3) := by decide +kernel
theorem zd_N_answer_141 : decode zc_N_answer 141 = .ok (.iload_n 1, 1) := by decide +kernel
theorem zd_N_answer_142 : decode zc_N_answer 142 = .ok (.iaload, 1) := by decide +kernel
theorem zd_N_answer_143 : decode zc_N_answer 143 = .ok (.iastore, 1) := by decide +kernel
theorem zd_N_answer_144 : decode zc_N_answer 144 = .ok (.iinc 1 1, 3) := by decide +kernel
theorem zd_N_answer_147 : decode zc_N_answer 147 = .ok (.goto (-21), 3) := by decide +kernel
theorem zd_N_answer_150 : decode zc_N_answer 150 = .ok (.aload_n 0, 1) := by decide +kernel
theorem zd_N_answer_151 : decode zc_N_answer 151 = .ok (.getfield 40, 3) := by decide +kernel
theorem zd_N_answer_154 : decode zc_N_answer 154 = .ok (.aload_n 0, 1) := by decide +kernel
theorem zd_N_answer_155 : decode zc_N_answer 155 = .ok (.getfield 13, 3) := by decide +kernel
theorem zd_N_answer_158 : decode zc_N_answer 158 = .ok (.bipush 8, 2) := by decide +kernel
theorem zd_N_answer_160 : decode zc_N_answer 160 = .ok (.invokestatic 221, 3) := by decide +kernel
theorem zd_N_answer_163 : decode zc_N_answer 163 = .ok (.aload_n 0, 1) := by decide +kernel
theorem zd_N_answer_164 : decode zc_N_answer 164 = .ok (.aload_n 0, 1) := by decide +kernel
theorem zd_N_answer_165 : decode zc_N_answer 165 = .ok (.getfield 7, 3) := by decide +kernel
theorem zd_N_answer_168 : decode zc_N_answer 168 = .ok (.bipush 8, 2) := by decide +kernel
theorem zd_N_answer_170 : decode zc_N_answer 170 = .ok (.iconst 5, 1) := by decide +kernel
theorem zd_N_answer_171 : decode zc_N_answer 171 = .ok (.aload_n 0, 1) := by decide +kernel
theorem zd_N_answer_172 : decode zc_N_answer 172 = .ok (.getfield 13, 3) := by decide +kernel
theorem zd_N_answer_175 : decode zc_N_answer 175 = .ok (.bipush 16, 2) := by decide +kernel
theorem zd_N_answer_177 : decode zc_N_answer 177 = .ok (.invokevirtual 229, 3) := by decide +kernel
theorem zd_N_answer_180 : decode zc_N_answer 180 = .ok (.aload_n 0, 1) := by decide +kernel
theorem zd_N_answer_181 : decode zc_N_answer 181 = .ok (.aload_n 0, 1) := by decide +kernel
theorem zd_N_answer_182 : decode zc_N_answer 182 = .ok (.getfield 13, 3) := by decide +kernel
theorem zd_N_answer_185 : decode zc_N_answer 185 = .ok (.iconst 0, 1) := by decide +kernel
theorem zd_N_answer_186 : decode zc_N_answer 186 = .ok (.iconst 5, 1) := by decide +kernel
theorem zd_N_answer_187 : decode zc_N_answer 187 = .ok (.aload_n 0, 1) := by decide +kernel
theorem zd_N_answer_188 : decode zc_N_answer 188 = .ok (.getfield 19, 3) := by decide +kernel
theorem zd_N_answer_191 : decode zc_N_answer 191 = .ok (.bipush 8, 2) := by decide +kernel
theorem zd_N_answer_193 : decode zc_N_answer 193 = .ok (.invokevirtual 229, 3) := by decide +kernel
theorem zd_N_answer_196 : decode zc_N_answer 196 = .ok (.aload_n 0, 1) := by decide +kernel
theorem zd_N_answer_197 : decode zc_N_answer 197 = .ok (.iconst 1, 1) := by decide +kernel
theorem zd_N_answer_198 : decode zc_N_answer 198 = .ok (.aload_n 0, 1) := by decide +kernel
theorem zd_N_answer_199 : decode zc_N_answer 199 = .ok (.getfield 13, 3) := by decide +kernel
theorem zd_N_answer_202 : decode zc_N_answer 202 = .ok (.invokevirtual 244, 3) := by decide +kernel
theorem zd_N_answer_205 : decode zc_N_answer 205 = .ok (.aload_n 0, 1) := by decide +kernel
theorem zd_N_answer_206 : decode zc_N_answer 206 = .ok (.getfield 13, 3) := by decide +kernel
theorem zd_N_answer_209 : decode zc_N_answer 209 = .ok (.bipush 8, 2) := by decide +kernel
theorem zd_N_answer_211 : decode zc_N_answer 211 = .ok (.aload_n 0, 1) := by decide +kernel
theorem zd_N_answer_212 : decode zc_N_answer 212 = .ok (.getfield 31, 3) := by decide +kernel
theorem zd_N_answer_215 : decode zc_N_answer 215 = .ok (.invokestatic 191, 3) := by decide +kernel
theorem zd_N_answer_218 : decode zc_N_answer 218 = .ok (.aload_n 0, 1) := by decide +kernel
theorem zd_N_answer_219 : decode zc_N_answer 219 = .ok (.iconst 1, 1) := by decide +kernel
theorem zd_N_answer_220 : decode zc_N_answer 220 = .ok (.aload_n 0, 1) := by decide +kernel
theorem zd_N_answer_221 : decode zc_N_answer 221 = .ok (.getfield 34, 3) := by decide +kernel
theorem zd_N_answer_224 : decode zc_N_answer 224 = .ok (.invokevirtual 248, 3) := by decide +kernel
theorem zd_N_answer_227 : decode zc_N_answer 227 = .ok (.aload_n 0, 1) := by decide +kernel
theorem zd_N_answer_228 : decode zc_N_answer 228 = .ok (.getfield 55, 3) := by decide +kernel
theorem zd_N_answer_231 : decode zc_N_answer 231 = .ok (.aload_n 0, 1) := by decide +kernel
theorem zd_N_answer_232 : decode zc_N_answer 232 = .ok (.getfield 37, 3) := by decide +kernel
theorem zd_N_answer_235 : decode zc_N_answer 235 = .ok (.invokestatic 215, 3) := by decide +kernel
theorem zd_N_answer_238 : decode zc_N_answer 238 = .ok (.aload_n 0, 1) := by decide +kernel
theorem zd_N_answer_239 : decode zc_N_answer 239 = .ok (.invokevirtual 218, 3) := by decide +kernel
theorem zd_N_answer_242 : decode zc_N_answer 242 = .ok (.aload_n 0, 1) := by decide +kernel
theorem zd_N_answer_243 : decode zc_N_answer 243 = .ok (.getfield 40, 3) := by decide +kernel
theorem zd_N_answer_246 : decode zc_N_answer 246 = .ok (.aload_n 0, 1) := by decide +kernel
theorem zd_N_answer_247 : decode zc_N_answer 247 = .ok (.getfield 13, 3) := by decide +kernel
theorem zd_N_answer_250 : decode zc_N_answer 250 = .ok (.bipush 24, 2) := by decide +kernel
theorem zd_N_answer_252 : decode zc_N_answer 252 = .ok (.invokestatic 221, 3) := by decide +kernel
theorem zd_N_answer_255 : decode zc_N_answer 255 = .ok (.aload_n 0, 1) := by decide +kernel
theorem zd_N_answer_256 : decode zc_N_answer 256 = .ok (.iconst 2, 1) := by decide +kernel
theorem zd_N_answer_257 : decode zc_N_answer 257 = .ok (.putfield 149, 3) := by decide +kernel
theorem zd_N_answer_260 : decode zc_N_answer 260 = .ok (.iconst 1, 1) := by decide +kernel
theorem zd_N_answer_261 : decode zc_N_answer 261 = .ok (.ireturn, 1) := by decide +kernel
theorem zd_N_fail_0 : decode zc_N_fail 0 = .ok (.aload_n 0, 1) := by decide +kernel
theorem zd_N_fail_1 : decode zc_N_fail 1 = .ok (.iload_n 1, 1) := by decide +kernel
theorem zd_N_fail_2 : decode zc_N_fail 2 = .ok (.ineg, 1) := by decide +kernel
theorem zd_N_fail_3 : decode zc_N_fail 3 = .ok (.putfield 149, 3) := by decide +kernel
theorem zd_N_fail_6 : decode zc_N_fail 6 = .ok (.iload_n 1, 1) := by decide +kernel
theorem zd_N_fail_7 : decode zc_N_fail 7 = .ok (.ineg, 1) := by decide +kernel
theorem zd_N_fail_8 : decode zc_N_fail 8 = .ok (.ireturn, 1) := by decide +kernel
theorem zd_N_hash_0 : decode zc_N_hash 0 = .ok (.aload_n 0, 1) := by decide +kernel
theorem zd_N_hash_1 : decode zc_N_hash 1 = .ok (.aload_n 0, 1) := by decide +kernel
theorem zd_N_hash_2 : decode zc_N_hash 2 = .ok (.getfield 7, 3) := by decide +kernel
theorem zd_N_hash_5 : decode zc_N_hash 5 = .ok (.iconst 0, 1) := by decide +kernel
theorem zd_N_hash_6 : decode zc_N_hash 6 = .ok (.invokevirtual 233, 3) := by decide +kernel
theorem zd_N_hash_9 : decode zc_N_hash 9 = .ok (.aload_n 0, 1) := by decide +kernel
theorem zd_N_hash_10 : decode zc_N_hash 10 = .ok (.aload_n 0, 1) := by decide +kernel
theorem zd_N_hash_11 : decode zc_N_hash 11 = .ok (.getfield 7, 3) := by decide +kernel
theorem zd_N_hash_14 : decode zc_N_hash 14 = .ok (.bipush 8, 2) := by decide +kernel
theorem zd_N_hash_16 : decode zc_N_hash 16 = .ok (.invokevirtual 233, 3) := by decide +kernel
theorem zd_N_hash_19 : decode zc_N_hash 19 = .ok (.aload_n 0, 1) := by decide +kernel
theorem zd_N_hash_20 : decode zc_N_hash 20 = .ok (.aload_n 0, 1) := by decide +kernel
theorem zd_N_hash_21 : decode zc_N_hash 21 = .ok (.getfield 13, 3) := by decide +kernel
theorem zd_N_hash_24 : decode zc_N_hash 24 = .ok (.bipush 8, 2) := by decide +kernel
theorem zd_N_hash_26 : decode zc_N_hash 26 = .ok (.invokevirtual 233, 3) := by decide +kernel
theorem zd_N_hash_29 : decode zc_N_hash 29 = .ok (.aload_n 0, 1) := by decide +kernel
theorem zd_N_hash_30 : decode zc_N_hash 30 = .ok (.aload_n 2, 1) := by decide +kernel
theorem zd_N_hash_31 : decode zc_N_hash 31 = .ok (.iconst 0, 1) := by decide +kernel
theorem zd_N_hash_32 : decode zc_N_hash 32 = .ok (.invokevirtual 233, 3) := by decide +kernel
theorem zd_N_hash_35 : decode zc_N_hash 35 = .ok (.aload_n 0, 1) := by decide +kernel
theorem zd_N_hash_36 : decode zc_N_hash 36 = .ok (.aload_n 0, 1) := by decide +kernel
theorem zd_N_hash_37 : decode zc_N_hash 37 = .ok (.getfield 13, 3) := by decide +kernel
theorem zd_N_hash_40 : decode zc_N_hash 40 = .ok (.bipush 16, 2) := by decide +kernel
theorem zd_N_hash_42 : decode zc_N_hash 42 = .ok (.invokevirtual 233, 3) := by decide +kernel
theorem zd_N_hash_45 : decode zc_N_hash 45 = .ok (.aload_n 0, 1) := by decide +kernel
theorem zd_N_hash_46 : decode zc_N_hash 46 = .ok (.aload_n 0, 1) := by decide +kernel
theorem zd_N_hash_47 : decode zc_N_hash 47 = .ok (.getfield 19, 3) := by decide +kernel
theorem zd_N_hash_50 : decode zc_N_hash 50 = .ok (.bipush 8, 2) := by decide +kernel
theorem zd_N_hash_52 : decode zc_N_hash 52 = .ok (.iload_n 1, 1) := by decide +kernel
theorem zd_N_hash_53 : decode zc_N_hash 53 = .ok (.imul, 1) := by decide +kernel
theorem zd_N_hash_54 : decode zc_N_hash 54 = .ok (.invokevirtual 233, 3) := by decide +kernel
theorem zd_N_hash_57 : decode zc_N_hash 57 = .ok (.aload_n 0, 1) := by decide +kernel
theorem zd_N_hash_58 : decode zc_N_hash 58 = .ok (.invokevirtual 237, 3) := by decide +kernel
theorem zd_N_hash_61 : decode zc_N_hash 61 = .ok (.iconst 0, 1) := by decide +kernel
theorem zd_N_hash_62 : decode zc_N_hash 62 = .ok (.istore_n 3, 1) := by decide +kernel
theorem zd_N_hash_63 : decode zc_N_hash 63 = .ok (.iload_n 3, 1) := by decide +kernel
theorem zd_N_hash_64 : decode zc_N_hash 64 = .ok (.bipush 8, 2) := by decide +kernel
theorem zd_N_hash_66 : decode zc_N_hash 66 = .ok (.if_icmp .ge 26, 3) := by decide +kernel
theorem zd_N_hash_69 : decode zc_N_hash 69 = .ok (.aload_n 0, 1) := by decide +kernel
theorem zd_N_hash_70 : decode zc_N_hash 70 = .ok (.getfield 22, 3) := by decide +kernel
theorem zd_N_hash_73 : decode zc_N_hash 73 = .ok (.bipush 8, 2) := by decide +kernel
theorem zd_N_hash_75 : decode zc_N_hash 75 = .ok (.iload_n 1, 1) := by decide +kernel
theorem zd_N_hash_76 : decode zc_N_hash 76 = .ok (.imul, 1) := by decide +kernel
theorem zd_N_hash_77 : decode zc_N_hash 77 = .ok (.iload_n 3, 1) := by decide +kernel
theorem zd_N_hash_78 : decode zc_N_hash 78 = .ok (.iadd, 1) := by decide +kernel
theorem zd_N_hash_79 : decode zc_N_hash 79 = .ok (.aload_n 0, 1) := by decide +kernel
theorem zd_N_hash_80 : decode zc_N_hash 80 = .ok (.getfield 65, 3) := by decide +kernel
theorem zd_N_hash_83 : decode zc_N_hash 83 = .ok (.iload_n 3, 1) := by decide +kernel
theorem zd_N_hash_84 : decode zc_N_hash 84 = .ok (.iaload, 1) := by decide +kernel
theorem zd_N_hash_85 : decode zc_N_hash 85 = .ok (.iastore, 1) := by decide +kernel
theorem zd_N_hash_86 : decode zc_N_hash 86 = .ok (.iinc 3 1, 3) := by decide +kernel
theorem zd_N_hash_89 : decode zc_N_hash 89 = .ok (.goto (-26), 3) := by decide +kernel
theorem zd_N_hash_92 : decode zc_N_hash 92 = .ok (.return_, 1) := by decide +kernel
theorem zd_N_addWords_0 : decode zc_N_addWords 0 = .ok (.iconst 0, 1) := by decide +kernel
theorem zd_N_addWords_1 : decode zc_N_addWords 1 = .ok (.istore_n 3, 1) := by decide +kernel
theorem zd_N_addWords_2 : decode zc_N_addWords 2 = .ok (.iload_n 3, 1) := by decide +kernel
theorem zd_N_addWords_3 : decode zc_N_addWords 3 = .ok (.bipush 32, 2) := by decide +kernel
theorem zd_N_addWords_5 : decode zc_N_addWords 5 = .ok (.if_icmp .ge 46, 3) := by decide +kernel
theorem zd_N_addWords_8 : decode zc_N_addWords 8 = .ok (.aload_n 0, 1) := by decide +kernel
theorem zd_N_addWords_9 : decode zc_N_addWords 9 = .ok (.getfield 58, 3) := by decide +kernel
theorem zd_N_addWords_12 : decode zc_N_addWords 12 = .ok (.aload_n 0, 1) := by decide +kernel
theorem zd_N_addWords_13 : decode zc_N_addWords 13 = .ok (.getfield 177, 3) := by decide +kernel
theorem zd_N_addWords_16 : decode zc_N_addWords 16 = .ok (.aload_n 1, 1) := by decide +kernel
theorem zd_N_addWords_17 : decode zc_N_addWords 17 = .ok (.iload_n 2, 1) := by decide +kernel
theorem zd_N_addWords_18 : decode zc_N_addWords 18 = .ok (.iload_n 3, 1) := by decide +kernel
theorem zd_N_addWords_19 : decode zc_N_addWords 19 = .ok (.iconst 4, 1) := by decide +kernel
theorem zd_N_addWords_20 : decode zc_N_addWords 20 = .ok (.idiv, 1) := by decide +kernel
theorem zd_N_addWords_21 : decode zc_N_addWords 21 = .ok (.iadd, 1) := by decide +kernel
theorem zd_N_addWords_22 : decode zc_N_addWords 22 = .ok (.iaload, 1) := by decide +kernel
theorem zd_N_addWords_23 : decode zc_N_addWords 23 = .ok (.bipush 24, 2) := by decide +kernel
theorem zd_N_addWords_25 : decode zc_N_addWords 25 = .ok (.bipush 8, 2) := by decide +kernel
theorem zd_N_addWords_27 : decode zc_N_addWords 27 = .ok (.iload_n 3, 1) := by decide +kernel
theorem zd_N_addWords_28 : decode zc_N_addWords 28 = .ok (.iconst 4, 1) := by decide +kernel
theorem zd_N_addWords_29 : decode zc_N_addWords 29 = .ok (.irem, 1) := by decide +kernel
theorem zd_N_addWords_30 : decode zc_N_addWords 30 = .ok (.imul, 1) := by decide +kernel
theorem zd_N_addWords_31 : decode zc_N_addWords 31 = .ok (.isub, 1) := by decide +kernel
theorem zd_N_addWords_32 : decode zc_N_addWords 32 = .ok (.ishr, 1) := by decide +kernel
theorem zd_N_addWords_33 : decode zc_N_addWords 33 = .ok (.i2b, 1) := by decide +kernel
theorem zd_N_addWords_34 : decode zc_N_addWords 34 = .ok (.bastore, 1) := by decide +kernel
theorem zd_N_addWords_35 : decode zc_N_addWords 35 = .ok (.aload_n 0, 1) := by decide +kernel
theorem zd_N_addWords_36 : decode zc_N_addWords 36 = .ok (.dup, 1) := by decide +kernel
theorem zd_N_addWords_37 : decode zc_N_addWords 37 = .ok (.getfield 177, 3) := by decide +kernel
theorem zd_N_addWords_40 : decode zc_N_addWords 40 = .ok (.iconst 1, 1) := by decide +kernel
theorem zd_N_addWords_41 : decode zc_N_addWords 41 = .ok (.iadd, 1) := by decide +kernel
theorem zd_N_addWords_42 : decode zc_N_addWords 42 = .ok (.putfield 177, 3) := by decide +kernel
theorem zd_N_addWords_45 : decode zc_N_addWords 45 = .ok (.iinc 3 1, 3) := by decide +kernel
theorem zd_N_addWords_48 : decode zc_N_addWords 48 = .ok (.goto (-46), 3) := by decide +kernel
theorem zd_N_addWords_51 : decode zc_N_addWords 51 = .ok (.return_, 1) := by decide +kernel
theorem zd_N_reckon_0 : decode zc_N_reckon 0 = .ok (.aload_n 0, 1) := by decide +kernel
theorem zd_N_reckon_1 : decode zc_N_reckon 1 = .ok (.getfield 177, 3) := by decide +kernel
theorem zd_N_reckon_4 : decode zc_N_reckon 4 = .ok (.istore_n 1, 1) := by decide +kernel
theorem zd_N_reckon_5 : decode zc_N_reckon 5 = .ok (.aload_n 0, 1) := by decide +kernel
theorem zd_N_reckon_6 : decode zc_N_reckon 6 = .ok (.iconst 0, 1) := by decide +kernel
theorem zd_N_reckon_7 : decode zc_N_reckon 7 = .ok (.putfield 177, 3) := by decide +kernel
theorem zd_N_reckon_10 : decode zc_N_reckon 10 = .ok (.iconst 0, 1) := by decide +kernel
theorem zd_N_reckon_11 : decode zc_N_reckon 11 = .ok (.istore_n 2, 1) := by decide +kernel
theorem zd_N_reckon_12 : decode zc_N_reckon 12 = .ok (.iload_n 2, 1) := by decide +kernel
theorem zd_N_reckon_13 : decode zc_N_reckon 13 = .ok (.bipush 8, 2) := by decide +kernel
theorem zd_N_reckon_15 : decode zc_N_reckon 15 = .ok (.if_icmp .ge 21, 3) := by decide +kernel
theorem zd_N_reckon_18 : decode zc_N_reckon 18 = .ok (.aload_n 0, 1) := by decide +kernel
theorem zd_N_reckon_19 : decode zc_N_reckon 19 = .ok (.getfield 65, 3) := by decide +kernel
theorem zd_N_reckon_22 : decode zc_N_reckon 22 = .ok (.iload_n 2, 1) := by decide +kernel
theorem zd_N_reckon_23 : decode zc_N_reckon 23 = .ok (.aload_n 0, 1) := by decide +kernel
theorem zd_N_reckon_24 : decode zc_N_reckon 24 = .ok (.getfield 146, 3) := by decide +kernel
theorem zd_N_reckon_27 : decode zc_N_reckon 27 = .ok (.iload_n 2, 1) := by decide +kernel
theorem zd_N_reckon_28 : decode zc_N_reckon 28 = .ok (.iaload, 1) := by decide +kernel
theorem zd_N_reckon_29 : decode zc_N_reckon 29 = .ok (.iastore, 1) := by decide +kernel
theorem zd_N_reckon_30 : decode zc_N_reckon 30 = .ok (.iinc 2 1, 3) := by decide +kernel
theorem zd_N_reckon_33 : decode zc_N_reckon 33 = .ok (.goto (-21), 3) := by decide +kernel
theorem zd_N_reckon_36 : decode zc_N_reckon 36 = .ok (.iload_n 1, 1) := by decide +kernel
theorem zd_N_reckon_37 : decode zc_N_reckon 37 = .ok (.bipush 9, 2) := by decide +kernel
theorem zd_N_reckon_39 : decode zc_N_reckon 39 = .ok (.iadd, 1) := by decide +kernel
theorem zd_N_reckon_40 : decode zc_N_reckon 40 = .ok (.bipush 63, 2) := by decide +kernel
theorem zd_N_reckon_42 : decode zc_N_reckon 42 = .ok (.iadd, 1) := by decide +kernel
theorem zd_N_reckon_43 : decode zc_N_reckon 43 = .ok (.bipush 64, 2) := by decide +kernel
theorem zd_N_reckon_45 : decode zc_N_reckon 45 = .ok (.idiv, 1) := by decide +kernel
theorem zd_N_reckon_46 : decode zc_N_reckon 46 = .ok (.bipush 64, 2) := by decide +kernel
theorem zd_N_reckon_48 : decode zc_N_reckon 48 = .ok (.imul, 1) := by decide +kernel
theorem zd_N_reckon_49 : decode zc_N_reckon 49 = .ok (.istore_n 2, 1) := by decide +kernel
theorem zd_N_reckon_50 : decode zc_N_reckon 50 = .ok (.iload_n 1, 1) := by decide +kernel
theorem zd_N_reckon_51 : decode zc_N_reckon 51 = .ok (.istore_n 3, 1) := by decide +kernel
theorem zd_N_reckon_52 : decode zc_N_reckon 52 = .ok (.iload_n 3, 1) := by decide +kernel
theorem zd_N_reckon_53 : decode zc_N_reckon 53 = .ok (.iload_n 2, 1) := by decide +kernel
theorem zd_N_reckon_54 : decode zc_N_reckon 54 = .ok (.if_icmp .ge 51, 3) := by decide +kernel
theorem zd_N_reckon_57 : decode zc_N_reckon 57 = .ok (.aload_n 0, 1) := by decide +kernel
theorem zd_N_reckon_58 : decode zc_N_reckon 58 = .ok (.getfield 58, 3) := by decide +kernel
theorem zd_N_reckon_61 : decode zc_N_reckon 61 = .ok (.iload_n 3, 1) := by decide +kernel
theorem zd_N_reckon_62 : decode zc_N_reckon 62 = .ok (.iload_n 3, 1) := by decide +kernel
theorem zd_N_reckon_63 : decode zc_N_reckon 63 = .ok (.iload_n 1, 1) := by decide +kernel
theorem zd_N_reckon_64 : decode zc_N_reckon 64 = .ok (.if_icmp .ne 9, 3) := by decide +kernel
theorem zd_N_reckon_67 : decode zc_N_reckon 67 = .ok (.sipush 128, 3) := by decide +kernel
theorem zd_N_reckon_70 : decode zc_N_reckon 70 = .ok (.goto 27, 3) := by decide +kernel
theorem zd_N_reckon_73 : decode zc_N_reckon 73 = .ok (.iload_n 3, 1) := by decide +kernel
theorem zd_N_reckon_74 : decode zc_N_reckon 74 = .ok (.iload_n 2, 1) := by decide +kernel
theorem zd_N_reckon_75 : decode zc_N_reckon 75 = .ok (.iconst 4, 1) := by decide +kernel
theorem zd_N_reckon_76 : decode zc_N_reckon 76 = .ok (.isub, 1) := by decide +kernel
theorem zd_N_reckon_77 : decode zc_N_reckon 77 = .ok (.if_icmp .ge 7, 3) := by decide +kernel
theorem zd_N_reckon_80 : decode zc_N_reckon 80 = .ok (.iconst 0, 1) := by decide +kernel
theorem zd_N_reckon_81 : decode zc_N_reckon 81 = .ok (.goto 16, 3) := by decide +kernel
theorem zd_N_reckon_84 : decode zc_N_reckon 84 = .ok (.bipush 8, 2) := by decide +kernel
theorem zd_N_reckon_86 : decode zc_N_reckon 86 = .ok (.iload_n 1, 1) := by decide +kernel
theorem zd_N_reckon_87 : decode zc_N_reckon 87 = .ok (.imul, 1) := by decide +kernel
theorem zd_N_reckon_88 : decode zc_N_reckon 88 = .ok (.bipush 8, 2) := by decide +kernel
theorem zd_N_reckon_90 : decode zc_N_reckon 90 = .ok (.iload_n 2, 1) := by decide +kernel
theorem zd_N_reckon_91 : decode zc_N_reckon 91 = .ok (.iconst 1, 1) := by decide +kernel
theorem zd_N_reckon_92 : decode zc_N_reckon 92 = .ok (.isub, 1) := by decide +kernel
theorem zd_N_reckon_93 : decode zc_N_reckon 93 = .ok (.iload_n 3, 1) := by decide +kernel
theorem zd_N_reckon_94 : decode zc_N_reckon 94 = .ok (.isub, 1) := by decide +kernel
theorem zd_N_reckon_95 : decode zc_N_reckon 95 = .ok (.imul, 1) := by decide +kernel
theorem zd_N_reckon_96 : decode zc_N_reckon 96 = .ok (.ishr, 1) := by decide +kernel
theorem zd_N_reckon_97 : decode zc_N_reckon 97 = .ok (.i2b, 1) := by decide +kernel
theorem zd_N_reckon_98 : decode zc_N_reckon 98 = .ok (.bastore, 1) := by decide +kernel
theorem zd_N_reckon_99 : decode zc_N_reckon 99 = .ok (.iinc 3 1, 3) := by decide +kernel
theorem zd_N_reckon_102 : decode zc_N_reckon 102 = .ok (.goto (-50), 3) := by decide +kernel
theorem zd_N_reckon_105 : decode zc_N_reckon 105 = .ok (.iconst 0, 1) := by decide +kernel
theorem zd_N_reckon_106 : decode zc_N_reckon 106 = .ok (.istore_n 3, 1) := by decide +kernel
theorem zd_N_reckon_107 : decode zc_N_reckon 107 = .ok (.iload_n 3, 1) := by decide +kernel
theorem zd_N_reckon_108 : decode zc_N_reckon 108 = .ok (.iload_n 2, 1) := by decide +kernel
theorem zd_N_reckon_109 : decode zc_N_reckon 109 = .ok (.if_icmp .ge 88, 3) := by decide +kernel
theorem zd_N_reckon_112 : decode zc_N_reckon 112 = .ok (.iconst 0, 1) := by decide +kernel
theorem zd_N_reckon_113 : decode zc_N_reckon 113 = .ok (.istore 4, 2) := by decide +kernel
theorem zd_N_reckon_115 : decode zc_N_reckon 115 = .ok (.iload 4, 2) := by decide +kernel
theorem zd_N_reckon_117 : decode zc_N_reckon 117 = .ok (.bipush 16, 2) := by decide +kernel
theorem zd_N_reckon_119 : decode zc_N_reckon 119 = .ok (.if_icmp .ge 68, 3) := by decide +kernel
theorem zd_N_reckon_122 : decode zc_N_reckon 122 = .ok (.aload_n 0, 1) := by decide +kernel
theorem zd_N_reckon_123 : decode zc_N_reckon 123 = .ok (.getfield 62, 3) := by decide +kernel
theorem zd_N_reckon_126 : decode zc_N_reckon 126 = .ok (.iload 4, 2) := by decide +kernel
theorem zd_N_reckon_128 : decode zc_N_reckon 128 = .ok (.iconst 0, 1) := by decide +kernel
theorem zd_N_reckon_129 : decode zc_N_reckon 129 = .ok (.iastore, 1) := by decide +kernel
theorem zd_N_reckon_130 : decode zc_N_reckon 130 = .ok (.iconst 0, 1) := by decide +kernel
theorem zd_N_reckon_131 : decode zc_N_reckon 131 = .ok (.istore 5, 2) := by decide +kernel
theorem zd_N_reckon_133 : decode zc_N_reckon 133 = .ok (.iload 5, 2) := by decide +kernel
theorem zd_N_reckon_135 : decode zc_N_reckon 135 = .ok (.iconst 4, 1) := by decide +kernel
theorem zd_N_reckon_136 : decode zc_N_reckon 136 = .ok (.if_icmp .ge 45, 3) := by decide +kernel
theorem zd_N_reckon_139 : decode zc_N_reckon 139 = .ok (.aload_n 0, 1) := by decide +kernel
theorem zd_N_reckon_140 : decode zc_N_reckon 140 = .ok (.getfield 62, 3) := by decide +kernel
theorem zd_N_reckon_143 : decode zc_N_reckon 143 = .ok (.iload 4, 2) := by decide +kernel
theorem zd_N_reckon_145 : decode zc_N_reckon 145 = .ok (.aload_n 0, 1) := by decide +kernel
theorem zd_N_reckon_146 : decode zc_N_reckon 146 = .ok (.getfield 62, 3) := by decide +kernel
theorem zd_N_reckon_149 : decode zc_N_reckon 149 = .ok (.iload 4, 2) := by decide +kernel
theorem zd_N_reckon_151 : decode zc_N_reckon 151 = .ok (.iaload, 1) := by decide +kernel
theorem zd_N_reckon_152 : decode zc_N_reckon 152 = .ok (.bipush 8, 2) := by decide +kernel
theorem zd_N_reckon_154 : decode zc_N_reckon 154 = .ok (.ishl, 1) := by decide +kernel
theorem zd_N_reckon_155 : decode zc_N_reckon 155 = .ok (.aload_n 0, 1) := by decide +kernel
theorem zd_N_reckon_156 : decode zc_N_reckon 156 = .ok (.getfield 58, 3) := by decide +kernel
theorem zd_N_reckon_159 : decode zc_N_reckon 159 = .ok (.iload_n 3, 1) := by decide +kernel
theorem zd_N_reckon_160 : decode zc_N_reckon 160 = .ok (.iconst 4, 1) := by decide +kernel
theorem zd_N_reckon_161 : decode zc_N_reckon 161 = .ok (.iload 4, 2) := by decide +kernel
theorem zd_N_reckon_163 : decode zc_N_reckon 163 = .ok (.imul, 1) := by decide +kernel
theorem zd_N_reckon_164 : decode zc_N_reckon 164 = .ok (.iadd, 1) := by decide +kernel
theorem zd_N_reckon_165 : decode zc_N_reckon 165 = .ok (.iload 5, 2) := by decide +kernel
theorem zd_N_reckon_167 : decode zc_N_reckon 167 = .ok (.iadd, 1) := by decide +kernel
theorem zd_N_reckon_168 : decode zc_N_reckon 168 = .ok (.baload, 1) := by decide +kernel
theorem zd_N_reckon_169 : decode zc_N_reckon 169 = .ok (.sipush 255, 3) := by decide +kernel
theorem zd_N_reckon_172 : decode zc_N_reckon 172 = .ok (.iand, 1) := by decide +kernel
theorem zd_N_reckon_173 : decode zc_N_reckon 173 = .ok (.ior, 1) := by decide +kernel
theorem zd_N_reckon_174 : decode zc_N_reckon 174 = .ok (.iastore, 1) := by decide +kernel
theorem zd_N_reckon_175 : decode zc_N_reckon 175 = .ok (.iinc 5 1, 3) := by decide +kernel
theorem zd_N_reckon_178 : decode zc_N_reckon 178 = .ok (.goto (-45), 3) := by decide +kernel
theorem zd_N_reckon_181 : decode zc_N_reckon 181 = .ok (.iinc 4 1, 3) := by decide +kernel
theorem zd_N_reckon_184 : decode zc_N_reckon 184 = .ok (.goto (-69), 3) := by decide +kernel
theorem zd_N_reckon_187 : decode zc_N_reckon 187 = .ok (.aload_n 0, 1) := by decide +kernel
theorem zd_N_reckon_188 : decode zc_N_reckon 188 = .ok (.invokevirtual 184, 3) := by decide +kernel
theorem zd_N_reckon_191 : decode zc_N_reckon 191 = .ok (.iinc 3 64, 3) := by decide +kernel
theorem zd_N_reckon_194 : decode zc_N_reckon 194 = .ok (.goto (-87), 3) := by decide +kernel
theorem zd_N_reckon_197 : decode zc_N_reckon 197 = .ok (.return_, 1) := by decide +kernel
theorem zd_N_mix_0 : decode zc_N_mix 0 = .ok (.iconst 0, 1) := by decide +kernel
theorem zd_N_mix_1 : decode zc_N_mix 1 = .ok (.istore_n 1, 1) := by decide +kernel
theorem zd_N_mix_2 : decode zc_N_mix 2 = .ok (.iload_n 1, 1) := by decide +kernel
theorem zd_N_mix_3 : decode zc_N_mix 3 = .ok (.bipush 8, 2) := by decide +kernel
theorem zd_N_mix_5 : decode zc_N_mix 5 = .ok (.if_icmp .ge 21, 3) := by decide +kernel
theorem zd_N_mix_8 : decode zc_N_mix 8 = .ok (.aload_n 0, 1) := by decide +kernel
theorem zd_N_mix_9 : decode zc_N_mix 9 = .ok (.getfield 68, 3) := by decide +kernel
theorem zd_N_mix_12 : decode zc_N_mix 12 = .ok (.iload_n 1, 1) := by decide +kernel
theorem zd_N_mix_13 : decode zc_N_mix 13 = .ok (.aload_n 0, 1) := by decide +kernel
theorem zd_N_mix_14 : decode zc_N_mix 14 = .ok (.getfield 65, 3) := by decide +kernel
theorem zd_N_mix_17 : decode zc_N_mix 17 = .ok (.iload_n 1, 1) := by decide +kernel
theorem zd_N_mix_18 : decode zc_N_mix 18 = .ok (.iaload, 1) := by decide +kernel
theorem zd_N_mix_19 : decode zc_N_mix 19 = .ok (.iastore, 1) := by decide +kernel
theorem zd_N_mix_20 : decode zc_N_mix 20 = .ok (.iinc 1 1, 3) := by decide +kernel
theorem zd_N_mix_23 : decode zc_N_mix 23 = .ok (.goto (-21), 3) := by decide +kernel
theorem zd_N_mix_26 : decode zc_N_mix 26 = .ok (.bipush 16, 2) := by decide +kernel
theorem zd_N_mix_28 : decode zc_N_mix 28 = .ok (.istore_n 1, 1) := by decide +kernel
theorem zd_N_mix_29 : decode zc_N_mix 29 = .ok (.iload_n 1, 1) := by decide +kernel
theorem zd_N_mix_30 : decode zc_N_mix 30 = .ok (.bipush 64, 2) := by decide +kernel
theorem zd_N_mix_32 : decode zc_N_mix 32 = .ok (.if_icmp .ge 90, 3) := by decide +kernel
theorem zd_N_mix_35 : decode zc_N_mix 35 = .ok (.aload_n 0, 1) := by decide +kernel
theorem zd_N_mix_36 : decode zc_N_mix 36 = .ok (.getfield 62, 3) := by decide +kernel
theorem zd_N_mix_39 : decode zc_N_mix 39 = .ok (.iload_n 1, 1) := by decide +kernel
theorem zd_N_mix_40 : decode zc_N_mix 40 = .ok (.bipush 15, 2) := by decide +kernel
theorem zd_N_mix_42 : decode zc_N_mix 42 = .ok (.isub, 1) := by decide +kernel
theorem zd_N_mix_43 : decode zc_N_mix 43 = .ok (.iaload, 1) := by decide +kernel
theorem zd_N_mix_44 : decode zc_N_mix 44 = .ok (.istore_n 2, 1) := by decide +kernel
theorem zd_N_mix_45 : decode zc_N_mix 45 = .ok (.aload_n 0, 1) := by decide +kernel
theorem zd_N_mix_46 : decode zc_N_mix 46 = .ok (.getfield 62, 3) := by decide +kernel
theorem zd_N_mix_49 : decode zc_N_mix 49 = .ok (.iload_n 1, 1) := by decide +kernel
theorem zd_N_mix_50 : decode zc_N_mix 50 = .ok (.iconst 2, 1) := by decide +kernel
theorem zd_N_mix_51 : decode zc_N_mix 51 = .ok (.isub, 1) := by decide +kernel
theorem zd_N_mix_52 : decode zc_N_mix 52 = .ok (.iaload, 1) := by decide +kernel
theorem zd_N_mix_53 : decode zc_N_mix 53 = .ok (.istore_n 3, 1) := by decide +kernel
theorem zd_N_mix_54 : decode zc_N_mix 54 = .ok (.aload_n 0, 1) := by decide +kernel
theorem zd_N_mix_55 : decode zc_N_mix 55 = .ok (.getfield 62, 3) := by decide +kernel
theorem zd_N_mix_58 : decode zc_N_mix 58 = .ok (.iload_n 1, 1) := by decide +kernel
theorem zd_N_mix_59 : decode zc_N_mix 59 = .ok (.aload_n 0, 1) := by decide +kernel
theorem zd_N_mix_60 : decode zc_N_mix 60 = .ok (.getfield 62, 3) := by decide +kernel
theorem zd_N_mix_63 : decode zc_N_mix 63 = .ok (.iload_n 1, 1) := by decide +kernel
theorem zd_N_mix_64 : decode zc_N_mix 64 = .ok (.bipush 16, 2) := by decide +kernel
theorem zd_N_mix_66 : decode zc_N_mix 66 = .ok (.isub, 1) := by decide +kernel
theorem zd_N_mix_67 : decode zc_N_mix 67 = .ok (.iaload, 1) := by decide +kernel
theorem zd_N_mix_68 : decode zc_N_mix 68 = .ok (.iload_n 2, 1) := by decide +kernel
theorem zd_N_mix_69 : decode zc_N_mix 69 = .ok (.bipush 7, 2) := by decide +kernel
theorem zd_N_mix_71 : decode zc_N_mix 71 = .ok (.invokestatic 180, 3) := by decide +kernel
theorem zd_N_mix_74 : decode zc_N_mix 74 = .ok (.iload_n 2, 1) := by decide +kernel
theorem zd_N_mix_75 : decode zc_N_mix 75 = .ok (.bipush 18, 2) := by decide +kernel
theorem zd_N_mix_77 : decode zc_N_mix 77 = .ok (.invokestatic 180, 3) := by decide +kernel
theorem zd_N_mix_80 : decode zc_N_mix 80 = .ok (.ixor, 1) := by decide +kernel
theorem zd_N_mix_81 : decode zc_N_mix 81 = .ok (.iload_n 2, 1) := by decide +kernel
theorem zd_N_mix_82 : decode zc_N_mix 82 = .ok (.iconst 3, 1) := by decide +kernel
theorem zd_N_mix_83 : decode zc_N_mix 83 = .ok (.iushr, 1) := by decide +kernel
theorem zd_N_mix_84 : decode zc_N_mix 84 = .ok (.ixor, 1) := by decide +kernel
theorem zd_N_mix_85 : decode zc_N_mix 85 = .ok (.iadd, 1) := by decide +kernel
theorem zd_N_mix_86 : decode zc_N_mix 86 = .ok (.aload_n 0, 1) := by decide +kernel
theorem zd_N_mix_87 : decode zc_N_mix 87 = .ok (.getfield 62, 3) := by decide +kernel
theorem zd_N_mix_90 : decode zc_N_mix 90 = .ok (.iload_n 1, 1) := by decide +kernel
theorem zd_N_mix_91 : decode zc_N_mix 91 = .ok (.bipush 7, 2) := by decide +kernel
theorem zd_N_mix_93 : decode zc_N_mix 93 = .ok (.isub, 1) := by decide +kernel
theorem zd_N_mix_94 : decode zc_N_mix 94 = .ok (.iaload, 1) := by decide +kernel
theorem zd_N_mix_95 : decode zc_N_mix 95 = .ok (.iadd, 1) := by decide +kernel
theorem zd_N_mix_96 : decode zc_N_mix 96 = .ok (.iload_n 3, 1) := by decide +kernel
theorem zd_N_mix_97 : decode zc_N_mix 97 = .ok (.bipush 17, 2) := by decide +kernel
theorem zd_N_mix_99 : decode zc_N_mix 99 = .ok (.invokestatic 180, 3) := by decide +kernel
theorem zd_N_mix_102 : decode zc_N_mix 102 = .ok (.iload_n 3, 1) := by decide +kernel
theorem zd_N_mix_103 : decode zc_N_mix 103 = .ok (.bipush 19, 2) := by decide +kernel
theorem zd_N_mix_105 : decode zc_N_mix 105 = .ok (.invokestatic 180, 3) := by decide +kernel
theorem zd_N_mix_108 : decode zc_N_mix 108 = .ok (.ixor, 1) := by decide +kernel
theorem zd_N_mix_109 : decode zc_N_mix 109 = .ok (.iload_n 3, 1) := by decide +kernel
theorem zd_N_mix_110 : decode zc_N_mix 110 = .ok (.bipush 10, 2) := by decide +kernel
theorem zd_N_mix_112 : decode zc_N_mix 112 = .ok (.iushr, 1) := by decide +kernel
theorem zd_N_mix_113 : decode zc_N_mix 113 = .ok (.ixor, 1) := by decide +kernel
theorem zd_N_mix_114 : decode zc_N_mix 114 = .ok (.iadd, 1) := by decide +kernel
theorem zd_N_mix_115 : decode zc_N_mix 115 = .ok (.iastore, 1) := by decide +kernel
theorem zd_N_mix_116 : decode zc_N_mix 116 = .ok (.iinc 1 1, 3) := by decide +kernel
theorem zd_N_mix_119 : decode zc_N_mix 119 = .ok (.goto (-90), 3) := by decide +kernel
theorem zd_N_mix_122 : decode zc_N_mix 122 = .ok (.iconst 0, 1) := by decide +kernel
theorem zd_N_mix_123 : decode zc_N_mix 123 = .ok (.istore_n 1, 1) := by decide +kernel
theorem zd_N_mix_124 : decode zc_N_mix 124 = .ok (.iload_n 1, 1) := by decide +kernel
theorem zd_N_mix_125 : decode zc_N_mix 125 = .ok (.bipush 64, 2) := by decide +kernel
theorem zd_N_mix_127 : decode zc_N_mix 127 = .ok (.if_icmp .ge 198, 3) := by decide +kernel
theorem zd_N_mix_130 : decode zc_N_mix 130 = .ok (.aload_n 0, 1) := by decide +kernel
theorem zd_N_mix_131 : decode zc_N_mix 131 = .ok (.getfield 65, 3) := by decide +kernel
theorem zd_N_mix_134 : decode zc_N_mix 134 = .ok (.iconst 4, 1) := by decide +kernel
theorem zd_N_mix_135 : decode zc_N_mix 135 = .ok (.iaload, 1) := by decide +kernel
theorem zd_N_mix_136 : decode zc_N_mix 136 = .ok (.istore_n 2, 1) := by decide +kernel
theorem zd_N_mix_137 : decode zc_N_mix 137 = .ok (.aload_n 0, 1) := by decide +kernel
theorem zd_N_mix_138 : decode zc_N_mix 138 = .ok (.getfield 65, 3) := by decide +kernel
theorem zd_N_mix_141 : decode zc_N_mix 141 = .ok (.iconst 0, 1) := by decide +kernel
theorem zd_N_mix_142 : decode zc_N_mix 142 = .ok (.iaload, 1) := by decide +kernel
theorem zd_N_mix_143 : decode zc_N_mix 143 = .ok (.istore_n 3, 1) := by decide +kernel
theorem zd_N_mix_144 : decode zc_N_mix 144 = .ok (.aload_n 0, 1) := by decide +kernel
theorem zd_N_mix_145 : decode zc_N_mix 145 = .ok (.getfield 65, 3) := by decide +kernel
theorem zd_N_mix_148 : decode zc_N_mix 148 = .ok (.bipush 7, 2) := by decide +kernel
theorem zd_N_mix_150 : decode zc_N_mix 150 = .ok (.iaload, 1) := by decide +kernel
theorem zd_N_mix_151 : decode zc_N_mix 151 = .ok (.iload_n 2, 1) := by decide +kernel
theorem zd_N_mix_152 : decode zc_N_mix 152 = .ok (.bipush 6, 2) := by decide +kernel
theorem zd_N_mix_154 : decode zc_N_mix 154 = .ok (.invokestatic 180, 3) := by decide +kernel
theorem zd_N_mix_157 : decode zc_N_mix 157 = .ok (.iload_n 2, 1) := by decide +kernel
theorem zd_N_mix_158 : decode zc_N_mix 158 = .ok (.bipush 11, 2) := by decide +kernel
theorem zd_N_mix_160 : decode zc_N_mix 160 = .ok (.invokestatic 180, 3) := by decide +kernel
theorem zd_N_mix_163 : decode zc_N_mix 163 = .ok (.ixor, 1) := by decide +kernel
theorem zd_N_mix_164 : decode zc_N_mix 164 = .ok (.iload_n 2, 1) := by decide +kernel
theorem zd_N_mix_165 : decode zc_N_mix 165 = .ok (.bipush 25, 2) := by decide +kernel
theorem zd_N_mix_167 : decode zc_N_mix 167 = .ok (.invokestatic 180, 3) := by decide +kernel
theorem zd_N_mix_170 : decode zc_N_mix 170 = .ok (.ixor, 1) := by decide +kernel
theorem zd_N_mix_171 : decode zc_N_mix 171 = .ok (.iadd, 1) := by decide +kernel
theorem zd_N_mix_172 : decode zc_N_mix 172 = .ok (.iload_n 2, 1) := by decide +kernel
theorem zd_N_mix_173 : decode zc_N_mix 173 = .ok (.aload_n 0, 1) := by decide +kernel
theorem zd_N_mix_174 : decode zc_N_mix 174 = .ok (.getfield 65, 3) := by decide +kernel
theorem zd_N_mix_177 : decode zc_N_mix 177 = .ok (.iconst 5, 1) := by decide +kernel
theorem zd_N_mix_178 : decode zc_N_mix 178 = .ok (.iaload, 1) := by decide +kernel
theorem zd_N_mix_179 : decode zc_N_mix 179 = .ok (.iand, 1) := by decide +kernel
theorem zd_N_mix_180 : decode zc_N_mix 180 = .ok (.iload_n 2, 1) := by decide +kernel
theorem zd_N_mix_181 : decode zc_N_mix 181 = .ok (.iconst (-1), 1) := by decide +kernel
theorem zd_N_mix_182 : decode zc_N_mix 182 = .ok (.ixor, 1) := by decide +kernel
theorem zd_N_mix_183 : decode zc_N_mix 183 = .ok (.aload_n 0, 1) := by decide +kernel
theorem zd_N_mix_184 : decode zc_N_mix 184 = .ok (.getfield 65, 3) := by decide +kernel
theorem zd_N_mix_187 : decode zc_N_mix 187 = .ok (.bipush 6, 2) := by decide +kernel
theorem zd_N_mix_189 : decode zc_N_mix 189 = .ok (.iaload, 1) := by decide +kernel
theorem zd_N_mix_190 : decode zc_N_mix 190 = .ok (.iand, 1) := by decide +kernel
theorem zd_N_mix_191 : decode zc_N_mix 191 = .ok (.ixor, 1) := by decide +kernel
theorem zd_N_mix_192 : decode zc_N_mix 192 = .ok (.iadd, 1) := by decide +kernel
theorem zd_N_mix_193 : decode zc_N_mix 193 = .ok (.aload_n 0, 1) := by decide +kernel
theorem zd_N_mix_194 : decode zc_N_mix 194 = .ok (.getfield 135, 3) := by decide +kernel
theorem zd_N_mix_197 : decode zc_N_mix 197 = .ok (.iload_n 1, 1) := by decide +kernel
theorem zd_N_mix_198 : decode zc_N_mix 198 = .ok (.iaload, 1) := by decide +kernel
theorem zd_N_mix_199 : decode zc_N_mix 199 = .ok (.iadd, 1) := by decide +kernel
theorem zd_N_mix_200 : decode zc_N_mix 200 = .ok (.aload_n 0, 1) := by decide +kernel
theorem zd_N_mix_201 : decode zc_N_mix 201 = .ok (.getfield 62, 3) := by decide +kernel
theorem zd_N_mix_204 : decode zc_N_mix 204 = .ok (.iload_n 1, 1) := by decide +kernel
theorem zd_N_mix_205 : decode zc_N_mix 205 = .ok (.iaload, 1) := by decide +kernel
theorem zd_N_mix_206 : decode zc_N_mix 206 = .ok (.iadd, 1) := by decide +kernel
theorem zd_N_mix_207 : decode zc_N_mix 207 = .ok (.istore 4, 2) := by decide +kernel
theorem zd_N_mix_209 : decode zc_N_mix 209 = .ok (.iload_n 3, 1) := by decide +kernel
theorem zd_N_mix_210 : decode zc_N_mix 210 = .ok (.iconst 2, 1) := by decide +kernel
theorem zd_N_mix_211 : decode zc_N_mix 211 = .ok (.invokestatic 180, 3) := by decide +kernel
theorem zd_N_mix_214 : decode zc_N_mix 214 = .ok (.iload_n 3, 1) := by decide +kernel
theorem zd_N_mix_215 : decode zc_N_mix 215 = .ok (.bipush 13, 2) := by decide +kernel
theorem zd_N_mix_217 : decode zc_N_mix 217 = .ok (.invokestatic 180, 3) := by decide +kernel
theorem zd_N_mix_220 : decode zc_N_mix 220 = .ok (.ixor, 1) := by decide +kernel
theorem zd_N_mix_221 : decode zc_N_mix 221 = .ok (.iload_n 3, 1) := by decide +kernel
theorem zd_N_mix_222 : decode zc_N_mix 222 = .ok (.bipush 22, 2) := by decide +kernel
theorem zd_N_mix_224 : decode zc_N_mix 224 = .ok (.invokestatic 180, 3) := by decide +kernel
theorem zd_N_mix_227 : decode zc_N_mix 227 = .ok (.ixor, 1) := by decide +kernel
theorem zd_N_mix_228 : decode zc_N_mix 228 = .ok (.iload_n 3, 1) := by decide +kernel
theorem zd_N_mix_229 : decode zc_N_mix 229 = .ok (.aload_n 0, 1) := by decide +kernel
theorem zd_N_mix_230 : decode zc_N_mix 230 = .ok (.getfield 65, 3) := by decide +kernel
theorem zd_N_mix_233 : decode zc_N_mix 233 = .ok (.iconst 1, 1) := by decide +kernel
theorem zd_N_mix_234 : decode zc_N_mix 234 = .ok (.iaload, 1) := by decide +kernel
theorem zd_N_mix_235 : decode zc_N_mix 235 = .ok (.iand, 1) := by decide +kernel
theorem zd_N_mix_236 : decode zc_N_mix 236 = .ok (.iload_n 3, 1) := by decide +kernel
theorem zd_N_mix_237 : decode zc_N_mix 237 = .ok (.aload_n 0, 1) := by decide +kernel
theorem zd_N_mix_238 : decode zc_N_mix 238 = .ok (.getfield 65, 3) := by decide +kernel
theorem zd_N_mix_241 : decode zc_N_mix 241 = .ok (.iconst 2, 1) := by decide +kernel
theorem zd_N_mix_242 : decode zc_N_mix 242 = .ok (.iaload, 1) := by decide +kernel
theorem zd_N_mix_243 : decode zc_N_mix 243 = .ok (.iand, 1) := by decide +kernel
theorem zd_N_mix_244 : decode zc_N_mix 244 = .ok (.ixor, 1) := by decide +kernel
theorem zd_N_mix_245 : decode zc_N_mix 245 = .ok (.aload_n 0, 1) := by decide +kernel
theorem zd_N_mix_246 : decode zc_N_mix 246 = .ok (.getfield 65, 3) := by decide +kernel
theorem zd_N_mix_249 : decode zc_N_mix 249 = .ok (.iconst 1, 1) := by decide +kernel
theorem zd_N_mix_250 : decode zc_N_mix 250 = .ok (.iaload, 1) := by decide +kernel
theorem zd_N_mix_251 : decode zc_N_mix 251 = .ok (.aload_n 0, 1) := by decide +kernel
theorem zd_N_mix_252 : decode zc_N_mix 252 = .ok (.getfield 65, 3) := by decide +kernel
theorem zd_N_mix_255 : decode zc_N_mix 255 = .ok (.iconst 2, 1) := by decide +kernel
theorem zd_N_mix_256 : decode zc_N_mix 256 = .ok (.iaload, 1) := by decide +kernel
theorem zd_N_mix_257 : decode zc_N_mix 257 = .ok (.iand, 1) := by decide +kernel
theorem zd_N_mix_258 : decode zc_N_mix 258 = .ok (.ixor, 1) := by decide +kernel
theorem zd_N_mix_259 : decode zc_N_mix 259 = .ok (.iadd, 1) := by decide +kernel
theorem zd_N_mix_260 : decode zc_N_mix 260 = .ok (.istore 5, 2) := by decide +kernel
theorem zd_N_mix_262 : decode zc_N_mix 262 = .ok (.bipush 7, 2) := by decide +kernel
theorem zd_N_mix_264 : decode zc_N_mix 264 = .ok (.istore 6, 2) := by decide +kernel
theorem zd_N_mix_266 : decode zc_N_mix 266 = .ok (.iload 6, 2) := by decide +kernel
theorem zd_N_mix_268 : decode zc_N_mix 268 = .ok (.ifCond .le 25, 3) := by decide +kernel
theorem zd_N_mix_271 : decode zc_N_mix 271 = .ok (.aload_n 0, 1) := by decide +kernel
theorem zd_N_mix_272 : decode zc_N_mix 272 = .ok (.getfield 65, 3) := by decide +kernel
theorem zd_N_mix_275 : decode zc_N_mix 275 = .ok (.iload 6, 2) := by decide +kernel
theorem zd_N_mix_277 : decode zc_N_mix 277 = .ok (.aload_n 0, 1) := by decide +kernel
theorem zd_N_mix_278 : decode zc_N_mix 278 = .ok (.getfield 65, 3) := by decide +kernel
theorem zd_N_mix_281 : decode zc_N_mix 281 = .ok (.iload 6, 2) := by decide +kernel
theorem zd_N_mix_283 : decode zc_N_mix 283 = .ok (.iconst 1, 1) := by decide +kernel
theorem zd_N_mix_284 : decode zc_N_mix 284 = .ok (.isub, 1) := by decide +kernel
theorem zd_N_mix_285 : decode zc_N_mix 285 = .ok (.iaload, 1) := by decide +kernel
theorem zd_N_mix_286 : decode zc_N_mix 286 = .ok (.iastore, 1) := by decide +kernel
theorem zd_N_mix_287 : decode zc_N_mix 287 = .ok (.iinc 6 (-1), 3) := by decide +kernel
theorem zd_N_mix_290 : decode zc_N_mix 290 = .ok (.goto (-24), 3) := by decide +kernel
theorem zd_N_mix_293 : decode zc_N_mix 293 = .ok (.aload_n 0, 1) := by decide +kernel
theorem zd_N_mix_294 : decode zc_N_mix 294 = .ok (.getfield 65, 3) := by decide +kernel
theorem zd_N_mix_297 : decode zc_N_mix 297 = .ok (.iconst 4, 1) := by decide +kernel
theorem zd_N_mix_298 : decode zc_N_mix 298 = .ok (.aload_n 0, 1) := by decide +kernel
theorem zd_N_mix_299 : decode zc_N_mix 299 = .ok (.getfield 65, 3) := by decide +kernel
theorem zd_N_mix_302 : decode zc_N_mix 302 = .ok (.iconst 4, 1) := by decide +kernel
theorem zd_N_mix_303 : decode zc_N_mix 303 = .ok (.iaload, 1) := by decide +kernel
theorem zd_N_mix_304 : decode zc_N_mix 304 = .ok (.iload 4, 2) := by decide +kernel
theorem zd_N_mix_306 : decode zc_N_mix 306 = .ok (.iadd, 1) := by decide +kernel
theorem zd_N_mix_307 : decode zc_N_mix 307 = .ok (.iastore, 1) := by decide +kernel
theorem zd_N_mix_308 : decode zc_N_mix 308 = .ok (.aload_n 0, 1) := by decide +kernel
theorem zd_N_mix_309 : decode zc_N_mix 309 = .ok (.getfield 65, 3) := by decide +kernel
theorem zd_N_mix_312 : decode zc_N_mix 312 = .ok (.iconst 0, 1) := by decide +kernel
theorem zd_N_mix_313 : decode zc_N_mix 313 = .ok (.iload 4, 2) := by decide +kernel
theorem zd_N_mix_315 : decode zc_N_mix 315 = .ok (.iload 5, 2) := by decide +kernel
theorem zd_N_mix_317 : decode zc_N_mix 317 = .ok (.iadd, 1) := by decide +kernel
theorem zd_N_mix_318 : decode zc_N_mix 318 = .ok (.iastore, 1) := by decide +kernel
theorem zd_N_mix_319 : decode zc_N_mix 319 = .ok (.iinc 1 1, 3) := by decide +kernel
theorem zd_N_mix_322 : decode zc_N_mix 322 = .ok (.goto (-198), 3) := by decide +kernel
theorem zd_N_mix_325 : decode zc_N_mix 325 = .ok (.iconst 0, 1) := by decide +kernel
theorem zd_N_mix_326 : decode zc_N_mix 326 = .ok (.istore_n 1, 1) := by decide +kernel
theorem zd_N_mix_327 : decode zc_N_mix 327 = .ok (.iload_n 1, 1) := by decide +kernel
theorem zd_N_mix_328 : decode zc_N_mix 328 = .ok (.bipush 8, 2) := by decide +kernel
theorem zd_N_mix_330 : decode zc_N_mix 330 = .ok (.if_icmp .ge 28, 3) := by decide +kernel
theorem zd_N_mix_333 : decode zc_N_mix 333 = .ok (.aload_n 0, 1) := by decide +kernel
theorem zd_N_mix_334 : decode zc_N_mix 334 = .ok (.getfield 65, 3) := by decide +kernel
theorem zd_N_mix_337 : decode zc_N_mix 337 = .ok (.iload_n 1, 1) := by decide +kernel
theorem zd_N_mix_338 : decode zc_N_mix 338 = .ok (.aload_n 0, 1) := by decide +kernel
theorem zd_N_mix_339 : decode zc_N_mix 339 = .ok (.getfield 65, 3) := by decide +kernel
theorem zd_N_mix_342 : decode zc_N_mix 342 = .ok (.iload_n 1, 1) := by decide +kernel
theorem zd_N_mix_343 : decode zc_N_mix 343 = .ok (.iaload, 1) := by decide +kernel
theorem zd_N_mix_344 : decode zc_N_mix 344 = .ok (.aload_n 0, 1) := by decide +kernel
theorem zd_N_mix_345 : decode zc_N_mix 345 = .ok (.getfield 68, 3) := by decide +kernel
theorem zd_N_mix_348 : decode zc_N_mix 348 = .ok (.iload_n 1, 1) := by decide +kernel
theorem zd_N_mix_349 : decode zc_N_mix 349 = .ok (.iaload, 1) := by decide +kernel
theorem zd_N_mix_350 : decode zc_N_mix 350 = .ok (.iadd, 1) := by decide +kernel
theorem zd_N_mix_351 : decode zc_N_mix 351 = .ok (.iastore, 1) := by decide +kernel
theorem zd_N_mix_352 : decode zc_N_mix 352 = .ok (.iinc 1 1, 3) := by decide +kernel
theorem zd_N_mix_355 : decode zc_N_mix 355 = .ok (.goto (-28), 3) := by decide +kernel
theorem zd_N_mix_358 : decode zc_N_mix 358 = .ok (.return_, 1) := by decide +kernel
theorem zd_N_turn_0 : decode zc_N_turn 0 = .ok (.iload_n 0, 1) := by decide +kernel
theorem zd_N_turn_1 : decode zc_N_turn 1 = .ok (.iload_n 1, 1) := by decide +kernel
theorem zd_N_turn_2 : decode zc_N_turn 2 = .ok (.iushr, 1) := by decide +kernel
theorem zd_N_turn_3 : decode zc_N_turn 3 = .ok (.iload_n 0, 1) := by decide +kernel
theorem zd_N_turn_4 : decode zc_N_turn 4 = .ok (.bipush 32, 2) := by decide +kernel
theorem zd_N_turn_6 : decode zc_N_turn 6 = .ok (.iload_n 1, 1) := by decide +kernel
theorem zd_N_turn_7 : decode zc_N_turn 7 = .ok (.isub, 1) := by decide +kernel
theorem zd_N_turn_8 : decode zc_N_turn 8 = .ok (.ishl, 1) := by decide +kernel
theorem zd_N_turn_9 : decode zc_N_turn 9 = .ok (.ior, 1) := by decide +kernel
theorem zd_N_turn_10 : decode zc_N_turn 10 = .ok (.ireturn, 1) := by decide +kernel
theorem zd_N_hashRest_0 : decode zc_N_hashRest 0 = .ok (.aload_n 0, 1) := by decide +kernel
theorem zd_N_hashRest_1 : decode zc_N_hashRest 1 = .ok (.getfield 22, 3) := by decide +kernel
theorem zd_N_hashRest_4 : decode zc_N_hashRest 4 = .ok (.bipush 8, 2) := by decide +kernel
theorem zd_N_hashRest_6 : decode zc_N_hashRest 6 = .ok (.iload_n 1, 1) := by decide +kernel
theorem zd_N_hashRest_7 : decode zc_N_hashRest 7 = .ok (.imul, 1) := by decide +kernel
theorem zd_N_hashRest_8 : decode zc_N_hashRest 8 = .ok (.aload_n 0, 1) := by decide +kernel
theorem zd_N_hashRest_9 : decode zc_N_hashRest 9 = .ok (.getfield 34, 3) := by decide +kernel
theorem zd_N_hashRest_12 : decode zc_N_hashRest 12 = .ok (.invokestatic 191, 3) := by decide +kernel
theorem zd_N_hashRest_15 : decode zc_N_hashRest 15 = .ok (.iconst 0, 1) := by decide +kernel
theorem zd_N_hashRest_16 : decode zc_N_hashRest 16 = .ok (.istore_n 3, 1) := by decide +kernel
theorem zd_N_hashRest_17 : decode zc_N_hashRest 17 = .ok (.iload_n 3, 1) := by decide +kernel
theorem zd_N_hashRest_18 : decode zc_N_hashRest 18 = .ok (.bipush 32, 2) := by decide +kernel
theorem zd_N_hashRest_20 : decode zc_N_hashRest 20 = .ok (.if_icmp .ge 31, 3) := by decide +kernel
theorem zd_N_hashRest_23 : decode zc_N_hashRest 23 = .ok (.aload_n 0, 1) := by decide +kernel
theorem zd_N_hashRest_24 : decode zc_N_hashRest 24 = .ok (.getfield 43, 3) := by decide +kernel
theorem zd_N_hashRest_27 : decode zc_N_hashRest 27 = .ok (.iload_n 3, 1) := by decide +kernel
theorem zd_N_hashRest_28 : decode zc_N_hashRest 28 = .ok (.iload_n 3, 1) := by decide +kernel
theorem zd_N_hashRest_29 : decode zc_N_hashRest 29 = .ok (.bipush 16, 2) := by decide +kernel
theorem zd_N_hashRest_31 : decode zc_N_hashRest 31 = .ok (.if_icmp .ge 12, 3) := by decide +kernel
theorem zd_N_hashRest_34 : decode zc_N_hashRest 34 = .ok (.aload_n 0, 1) := by decide +kernel
theorem zd_N_hashRest_35 : decode zc_N_hashRest 35 = .ok (.getfield 34, 3) := by decide +kernel
theorem zd_N_hashRest_38 : decode zc_N_hashRest 38 = .ok (.iload_n 3, 1) := by decide +kernel
theorem zd_N_hashRest_39 : decode zc_N_hashRest 39 = .ok (.iaload, 1) := by decide +kernel
theorem zd_N_hashRest_40 : decode zc_N_hashRest 40 = .ok (.goto 4, 3) := by decide +kernel
theorem zd_N_hashRest_43 : decode zc_N_hashRest 43 = .ok (.iconst 0, 1) := by decide +kernel
theorem zd_N_hashRest_44 : decode zc_N_hashRest 44 = .ok (.iastore, 1) := by decide +kernel
theorem zd_N_hashRest_45 : decode zc_N_hashRest 45 = .ok (.iinc 3 1, 3) := by decide +kernel
theorem zd_N_hashRest_48 : decode zc_N_hashRest 48 = .ok (.goto (-31), 3) := by decide +kernel
theorem zd_N_hashRest_51 : decode zc_N_hashRest 51 = .ok (.aload_n 0, 1) := by decide +kernel
theorem zd_N_hashRest_52 : decode zc_N_hashRest 52 = .ok (.aload_n 2, 1) := by decide +kernel
theorem zd_N_hashRest_53 : decode zc_N_hashRest 53 = .ok (.invokevirtual 169, 3) := by decide +kernel
theorem zd_N_hashRest_56 : decode zc_N_hashRest 56 = .ok (.return_, 1) := by decide +kernel
theorem zd_N_accept_0 : decode zc_N_accept 0 = .ok (.aload_n 0, 1) := by decide +kernel
theorem zd_N_accept_1 : decode zc_N_accept 1 = .ok (.iconst 0, 1) := by decide +kernel
theorem zd_N_accept_2 : decode zc_N_accept 2 = .ok (.putfield 153, 3) := by decide +kernel
theorem zd_N_accept_5 : decode zc_N_accept 5 = .ok (.aload_n 0, 1) := by decide +kernel
theorem zd_N_accept_6 : decode zc_N_accept 6 = .ok (.getfield 149, 3) := by decide +kernel
theorem zd_N_accept_9 : decode zc_N_accept 9 = .ok (.iconst 2, 1) := by decide +kernel
theorem zd_N_accept_10 : decode zc_N_accept 10 = .ok (.if_icmp .eq 6, 3) := by decide +kernel
theorem zd_N_accept_13 : decode zc_N_accept 13 = .ok (.bipush (-11), 2) := by decide +kernel
theorem zd_N_accept_15 : decode zc_N_accept 15 = .ok (.ireturn, 1) := by decide +kernel
theorem zd_N_accept_16 : decode zc_N_accept 16 = .ok (.aload_n 0, 1) := by decide +kernel
theorem zd_N_accept_17 : decode zc_N_accept 17 = .ok (.invokevirtual 225, 3) := by decide +kernel
theorem zd_N_accept_20 : decode zc_N_accept 20 = .ok (.ifCond .ne 6, 3) := by decide +kernel
theorem zd_N_accept_23 : decode zc_N_accept 23 = .ok (.bipush (-10), 2) := by decide +kernel
theorem zd_N_accept_25 : decode zc_N_accept 25 = .ok (.ireturn, 1) := by decide +kernel
theorem zd_N_accept_26 : decode zc_N_accept 26 = .ok (.aload_n 0, 1) := by decide +kernel
theorem zd_N_accept_27 : decode zc_N_accept 27 = .ok (.invokevirtual 251, 3) := by decide +kernel
theorem zd_N_accept_30 : decode zc_N_accept 30 = .ok (.ifCond .ne 9, 3) := by decide +kernel
theorem zd_N_accept_33 : decode zc_N_accept 33 = .ok (.aload_n 0, 1) := by decide +kernel
theorem zd_N_accept_34 : decode zc_N_accept 34 = .ok (.iconst 2, 1) := by decide +kernel
theorem zd_N_accept_35 : decode zc_N_accept 35 = .ok (.invokevirtual 240, 3) := by decide +kernel
theorem zd_N_accept_38 : decode zc_N_accept 38 = .ok (.ireturn, 1) := by decide +kernel
theorem zd_N_accept_39 : decode zc_N_accept 39 = .ok (.aload_n 0, 1) := by decide +kernel
theorem zd_N_accept_40 : decode zc_N_accept 40 = .ok (.getfield 13, 3) := by decide +kernel
theorem zd_N_accept_43 : decode zc_N_accept 43 = .ok (.bipush 16, 2) := by decide +kernel
theorem zd_N_accept_45 : decode zc_N_accept 45 = .ok (.aload_n 0, 1) := by decide +kernel
theorem zd_N_accept_46 : decode zc_N_accept 46 = .ok (.getfield 34, 3) := by decide +kernel
theorem zd_N_accept_49 : decode zc_N_accept 49 = .ok (.invokestatic 191, 3) := by decide +kernel
theorem zd_N_accept_52 : decode zc_N_accept 52 = .ok (.aload_n 0, 1) := by decide +kernel
theorem zd_N_accept_53 : decode zc_N_accept 53 = .ok (.aload_n 0, 1) := by decide +kernel
theorem zd_N_accept_54 : decode zc_N_accept 54 = .ok (.getfield 34, 3) := by decide +kernel
theorem zd_N_accept_57 : decode zc_N_accept 57 = .ok (.iconst 2, 1) := by decide +kernel
theorem zd_N_accept_58 : decode zc_N_accept 58 = .ok (.iconst 2, 1) := by decide +kernel
theorem zd_N_accept_59 : decode zc_N_accept 59 = .ok (.invokevirtual 211, 3) := by decide +kernel
theorem zd_N_accept_62 : decode zc_N_accept 62 = .ok (.ifCond .ne 9, 3) := by decide +kernel
theorem zd_N_accept_65 : decode zc_N_accept 65 = .ok (.aload_n 0, 1) := by decide +kernel
theorem zd_N_accept_66 : decode zc_N_accept 66 = .ok (.iconst 1, 1) := by decide +kernel
theorem zd_N_accept_67 : decode zc_N_accept 67 = .ok (.invokevirtual 240, 3) := by decide +kernel
theorem zd_N_accept_70 : decode zc_N_accept 70 = .ok (.ireturn, 1) := by decide +kernel
theorem zd_N_accept_71 : decode zc_N_accept 71 = .ok (.aload_n 0, 1) := by decide +kernel
theorem zd_N_accept_72 : decode zc_N_accept 72 = .ok (.aload_n 0, 1) := by decide +kernel
theorem zd_N_accept_73 : decode zc_N_accept 73 = .ok (.getfield 13, 3) := by decide +kernel
theorem zd_N_accept_76 : decode zc_N_accept 76 = .ok (.bipush 16, 2) := by decide +kernel
theorem zd_N_accept_78 : decode zc_N_accept 78 = .ok (.iconst 4, 1) := by decide +kernel
theorem zd_N_accept_79 : decode zc_N_accept 79 = .ok (.aload_n 0, 1) := by decide +kernel
theorem zd_N_accept_80 : decode zc_N_accept 80 = .ok (.getfield 19, 3) := by decide +kernel
theorem zd_N_accept_83 : decode zc_N_accept 83 = .ok (.iconst 0, 1) := by decide +kernel
theorem zd_N_accept_84 : decode zc_N_accept 84 = .ok (.invokevirtual 229, 3) := by decide +kernel
theorem zd_N_accept_87 : decode zc_N_accept 87 = .ok (.aload_n 0, 1) := by decide +kernel
theorem zd_N_accept_88 : decode zc_N_accept 88 = .ok (.iconst 0, 1) := by decide +kernel
theorem zd_N_accept_89 : decode zc_N_accept 89 = .ok (.aload_n 0, 1) := by decide +kernel
theorem zd_N_accept_90 : decode zc_N_accept 90 = .ok (.getfield 16, 3) := by decide +kernel
theorem zd_N_accept_93 : decode zc_N_accept 93 = .ok (.invokevirtual 244, 3) := by decide +kernel
theorem zd_N_accept_96 : decode zc_N_accept 96 = .ok (.aload_n 0, 1) := by decide +kernel
theorem zd_N_accept_97 : decode zc_N_accept 97 = .ok (.invokevirtual 254, 3) := by decide +kernel
theorem zd_N_accept_100 : decode zc_N_accept 100 = .ok (.ifCond .ne 9, 3) := by decide +kernel
theorem zd_N_accept_103 : decode zc_N_accept 103 = .ok (.aload_n 0, 1) := by decide +kernel
theorem zd_N_accept_104 : decode zc_N_accept 104 = .ok (.iconst 3, 1) := by decide +kernel
theorem zd_N_accept_105 : decode zc_N_accept 105 = .ok (.invokevirtual 240, 3) := by decide +kernel
theorem zd_N_accept_108 : decode zc_N_accept 108 = .ok (.ireturn, 1) := by decide +kernel
theorem zd_N_accept_109 : decode zc_N_accept 109 = .ok (.aload_n 0, 1) := by decide +kernel
theorem zd_N_accept_110 : decode zc_N_accept 110 = .ok (.iconst 0, 1) := by decide +kernel
theorem zd_N_accept_111 : decode zc_N_accept 111 = .ok (.invokevirtual 257, 3) := by decide +kernel
theorem zd_N_accept_114 : decode zc_N_accept 114 = .ok (.aload_n 0, 1) := by decide +kernel
theorem zd_N_accept_115 : decode zc_N_accept 115 = .ok (.iconst 1, 1) := by decide +kernel
theorem zd_N_accept_116 : decode zc_N_accept 116 = .ok (.invokevirtual 257, 3) := by decide +kernel
theorem zd_N_accept_119 : decode zc_N_accept 119 = .ok (.aload_n 0, 1) := by decide +kernel
theorem zd_N_accept_120 : decode zc_N_accept 120 = .ok (.iconst 3, 1) := by decide +kernel
theorem zd_N_accept_121 : decode zc_N_accept 121 = .ok (.putfield 149, 3) := by decide +kernel
theorem zd_N_accept_124 : decode zc_N_accept 124 = .ok (.iconst 1, 1) := by decide +kernel
theorem zd_N_accept_125 : decode zc_N_accept 125 = .ok (.ireturn, 1) := by decide +kernel
theorem zd_N_isTrusted_0 : decode zc_N_isTrusted 0 = .ok (.iconst 1, 1) := by decide +kernel
theorem zd_N_isTrusted_1 : decode zc_N_isTrusted 1 = .ok (.istore_n 1, 1) := by decide +kernel
theorem zd_N_isTrusted_2 : decode zc_N_isTrusted 2 = .ok (.iconst 0, 1) := by decide +kernel
theorem zd_N_isTrusted_3 : decode zc_N_isTrusted 3 = .ok (.istore_n 2, 1) := by decide +kernel
theorem zd_N_isTrusted_4 : decode zc_N_isTrusted 4 = .ok (.iload_n 2, 1) := by decide +kernel
theorem zd_N_isTrusted_5 : decode zc_N_isTrusted 5 = .ok (.bipush 8, 2) := by decide +kernel
theorem zd_N_isTrusted_7 : decode zc_N_isTrusted 7 = .ok (.if_icmp .ge 40, 3) := by decide +kernel
theorem zd_N_isTrusted_10 : decode zc_N_isTrusted 10 = .ok (.iload_n 1, 1) := by decide +kernel
theorem zd_N_isTrusted_11 : decode zc_N_isTrusted 11 = .ok (.ifCond .eq 28, 3) := by decide +kernel
theorem zd_N_isTrusted_14 : decode zc_N_isTrusted 14 = .ok (.aload_n 0, 1) := by decide +kernel
theorem zd_N_isTrusted_15 : decode zc_N_isTrusted 15 = .ok (.getfield 13, 3) := by decide +kernel
theorem zd_N_isTrusted_18 : decode zc_N_isTrusted 18 = .ok (.bipush 8, 2) := by decide +kernel
theorem zd_N_isTrusted_20 : decode zc_N_isTrusted 20 = .ok (.iload_n 2, 1) := by decide +kernel
theorem zd_N_isTrusted_21 : decode zc_N_isTrusted 21 = .ok (.iadd, 1) := by decide +kernel
theorem zd_N_isTrusted_22 : decode zc_N_isTrusted 22 = .ok (.iaload, 1) := by decide +kernel
theorem zd_N_isTrusted_23 : decode zc_N_isTrusted 23 = .ok (.aload_n 0, 1) := by decide +kernel
theorem zd_N_isTrusted_24 : decode zc_N_isTrusted 24 = .ok (.getfield 7, 3) := by decide +kernel
theorem zd_N_isTrusted_27 : decode zc_N_isTrusted 27 = .ok (.bipush 48, 2) := by decide +kernel
theorem zd_N_isTrusted_29 : decode zc_N_isTrusted 29 = .ok (.iload_n 2, 1) := by decide +kernel
theorem zd_N_isTrusted_30 : decode zc_N_isTrusted 30 = .ok (.iadd, 1) := by decide +kernel
theorem zd_N_isTrusted_31 : decode zc_N_isTrusted 31 = .ok (.iaload, 1) := by decide +kernel
theorem zd_N_isTrusted_32 : decode zc_N_isTrusted 32 = .ok (.if_icmp .ne 7, 3) := by decide +kernel
theorem zd_N_isTrusted_35 : decode zc_N_isTrusted 35 = .ok (.iconst 1, 1) := by decide +kernel
theorem zd_N_isTrusted_36 : decode zc_N_isTrusted 36 = .ok (.goto 4, 3) := by decide +kernel
theorem zd_N_isTrusted_39 : decode zc_N_isTrusted 39 = .ok (.iconst 0, 1) := by decide +kernel
theorem zd_N_isTrusted_40 : decode zc_N_isTrusted 40 = .ok (.istore_n 1, 1) := by decide +kernel
theorem zd_N_isTrusted_41 : decode zc_N_isTrusted 41 = .ok (.iinc 2 1, 3) := by decide +kernel
theorem zd_N_isTrusted_44 : decode zc_N_isTrusted 44 = .ok (.goto (-40), 3) := by decide +kernel
theorem zd_N_isTrusted_47 : decode zc_N_isTrusted 47 = .ok (.iload_n 1, 1) := by decide +kernel
theorem zd_N_isTrusted_48 : decode zc_N_isTrusted 48 = .ok (.ireturn, 1) := by decide +kernel
theorem zd_N_isSigned_0 : decode zc_N_isSigned 0 = .ok (.aload_n 0, 1) := by decide +kernel
theorem zd_N_isSigned_1 : decode zc_N_isSigned 1 = .ok (.getfield 13, 3) := by decide +kernel
theorem zd_N_isSigned_4 : decode zc_N_isSigned 4 = .ok (.bipush 8, 2) := by decide +kernel
theorem zd_N_isSigned_6 : decode zc_N_isSigned 6 = .ok (.aload_n 0, 1) := by decide +kernel
theorem zd_N_isSigned_7 : decode zc_N_isSigned 7 = .ok (.getfield 31, 3) := by decide +kernel
theorem zd_N_isSigned_10 : decode zc_N_isSigned 10 = .ok (.invokestatic 191, 3) := by decide +kernel
theorem zd_N_isSigned_13 : decode zc_N_isSigned 13 = .ok (.aload_n 0, 1) := by decide +kernel
theorem zd_N_isSigned_14 : decode zc_N_isSigned 14 = .ok (.getfield 13, 3) := by decide +kernel
theorem zd_N_isSigned_17 : decode zc_N_isSigned 17 = .ok (.bipush 24, 2) := by decide +kernel
theorem zd_N_isSigned_19 : decode zc_N_isSigned 19 = .ok (.aload_n 0, 1) := by decide +kernel
theorem zd_N_isSigned_20 : decode zc_N_isSigned 20 = .ok (.getfield 34, 3) := by decide +kernel
theorem zd_N_isSigned_23 : decode zc_N_isSigned 23 = .ok (.invokestatic 191, 3) := by decide +kernel
theorem zd_N_isSigned_26 : decode zc_N_isSigned 26 = .ok (.aload_n 0, 1) := by decide +kernel
theorem zd_N_isSigned_27 : decode zc_N_isSigned 27 = .ok (.getfield 34, 3) := by decide +kernel
theorem zd_N_isSigned_30 : decode zc_N_isSigned 30 = .ok (.aload_n 0, 1) := by decide +kernel
theorem zd_N_isSigned_31 : decode zc_N_isSigned 31 = .ok (.getfield 31, 3) := by decide +kernel
theorem zd_N_isSigned_34 : decode zc_N_isSigned 34 = .ok (.invokestatic 161, 3) := by decide +kernel
theorem zd_N_isSigned_37 : decode zc_N_isSigned 37 = .ok (.ifCond .lt 5, 3) := by decide +kernel
theorem zd_N_isSigned_40 : decode zc_N_isSigned 40 = .ok (.iconst 0, 1) := by decide +kernel
theorem zd_N_isSigned_41 : decode zc_N_isSigned 41 = .ok (.ireturn, 1) := by decide +kernel
theorem zd_N_isSigned_42 : decode zc_N_isSigned 42 = .ok (.iconst 0, 1) := by decide +kernel
theorem zd_N_isSigned_43 : decode zc_N_isSigned 43 = .ok (.istore_n 1, 1) := by decide +kernel
theorem zd_N_isSigned_44 : decode zc_N_isSigned 44 = .ok (.iload_n 1, 1) := by decide +kernel
theorem zd_N_isSigned_45 : decode zc_N_isSigned 45 = .ok (.bipush 16, 2) := by decide +kernel
theorem zd_N_isSigned_47 : decode zc_N_isSigned 47 = .ok (.if_icmp .ge 29, 3) := by decide +kernel
theorem zd_N_isSigned_50 : decode zc_N_isSigned 50 = .ok (.aload_n 0, 1) := by decide +kernel
theorem zd_N_isSigned_51 : decode zc_N_isSigned 51 = .ok (.getfield 37, 3) := by decide +kernel
theorem zd_N_isSigned_54 : decode zc_N_isSigned 54 = .ok (.iload_n 1, 1) := by decide +kernel
theorem zd_N_isSigned_55 : decode zc_N_isSigned 55 = .ok (.iload_n 1, 1) := by decide +kernel
theorem zd_N_isSigned_56 : decode zc_N_isSigned 56 = .ok (.ifCond .eq 8, 3) := by decide +kernel
theorem zd_N_isSigned_59 : decode zc_N_isSigned 59 = .ok (.iload_n 1, 1) := by decide +kernel
theorem zd_N_isSigned_60 : decode zc_N_isSigned 60 = .ok (.iconst 1, 1) := by decide +kernel
theorem zd_N_isSigned_61 : decode zc_N_isSigned 61 = .ok (.if_icmp .ne 7, 3) := by decide +kernel
theorem zd_N_isSigned_64 : decode zc_N_isSigned 64 = .ok (.iconst 1, 1) := by decide +kernel
theorem zd_N_isSigned_65 : decode zc_N_isSigned 65 = .ok (.goto 4, 3) := by decide +kernel
theorem zd_N_isSigned_68 : decode zc_N_isSigned 68 = .ok (.iconst 0, 1) := by decide +kernel
theorem zd_N_isSigned_69 : decode zc_N_isSigned 69 = .ok (.iastore, 1) := by decide +kernel
theorem zd_N_isSigned_70 : decode zc_N_isSigned 70 = .ok (.iinc 1 1, 3) := by decide +kernel
theorem zd_N_isSigned_73 : decode zc_N_isSigned 73 = .ok (.goto (-29), 3) := by decide +kernel
theorem zd_N_isSigned_76 : decode zc_N_isSigned 76 = .ok (.aload_n 0, 1) := by decide +kernel
theorem zd_N_isSigned_77 : decode zc_N_isSigned 77 = .ok (.invokevirtual 218, 3) := by decide +kernel
theorem zd_N_isSigned_80 : decode zc_N_isSigned 80 = .ok (.aload_n 0, 1) := by decide +kernel
theorem zd_N_isSigned_81 : decode zc_N_isSigned 81 = .ok (.getfield 40, 3) := by decide +kernel
theorem zd_N_isSigned_84 : decode zc_N_isSigned 84 = .ok (.aload_n 0, 1) := by decide +kernel
theorem zd_N_isSigned_85 : decode zc_N_isSigned 85 = .ok (.getfield 49, 3) := by decide +kernel
theorem zd_N_isSigned_88 : decode zc_N_isSigned 88 = .ok (.invokestatic 215, 3) := by decide +kernel
theorem zd_N_isSigned_91 : decode zc_N_isSigned 91 = .ok (.aload_n 0, 1) := by decide +kernel
theorem zd_N_isSigned_92 : decode zc_N_isSigned 92 = .ok (.iconst 0, 1) := by decide +kernel
theorem zd_N_isSigned_93 : decode zc_N_isSigned 93 = .ok (.aload_n 0, 1) := by decide +kernel
theorem zd_N_isSigned_94 : decode zc_N_isSigned 94 = .ok (.getfield 52, 3) := by decide +kernel
theorem zd_N_isSigned_97 : decode zc_N_isSigned 97 = .ok (.invokevirtual 248, 3) := by decide +kernel
theorem zd_N_isSigned_100 : decode zc_N_isSigned 100 = .ok (.aload_n 0, 1) := by decide +kernel
theorem zd_N_isSigned_101 : decode zc_N_isSigned 101 = .ok (.getfield 49, 3) := by decide +kernel
theorem zd_N_isSigned_104 : decode zc_N_isSigned 104 = .ok (.aload_n 0, 1) := by decide +kernel
theorem zd_N_isSigned_105 : decode zc_N_isSigned 105 = .ok (.getfield 52, 3) := by decide +kernel
theorem zd_N_isSigned_108 : decode zc_N_isSigned 108 = .ok (.invokestatic 161, 3) := by decide +kernel
theorem zd_N_isSigned_111 : decode zc_N_isSigned 111 = .ok (.ifCond .ne 7, 3) := by decide +kernel
theorem zd_N_isSigned_114 : decode zc_N_isSigned 114 = .ok (.iconst 1, 1) := by decide +kernel
theorem zd_N_isSigned_115 : decode zc_N_isSigned 115 = .ok (.goto 4, 3) := by decide +kernel
theorem zd_N_isSigned_118 : decode zc_N_isSigned 118 = .ok (.iconst 0, 1) := by decide +kernel
theorem zd_N_isSigned_119 : decode zc_N_isSigned 119 = .ok (.ireturn, 1) := by decide +kernel
theorem zd_N_makeKeys_0 : decode zc_N_makeKeys 0 = .ok (.iconst 0, 1) := by decide +kernel
theorem zd_N_makeKeys_1 : decode zc_N_makeKeys 1 = .ok (.istore_n 2, 1) := by decide +kernel
theorem zd_N_makeKeys_2 : decode zc_N_makeKeys 2 = .ok (.iload_n 2, 1) := by decide +kernel
theorem zd_N_makeKeys_3 : decode zc_N_makeKeys 3 = .ok (.iconst 2, 1) := by decide +kernel
theorem zd_N_makeKeys_4 : decode zc_N_makeKeys 4 = .ok (.if_icmp .ge 97, 3) := by decide +kernel
theorem zd_N_makeKeys_7 : decode zc_N_makeKeys 7 = .ok (.aload_n 0, 1) := by decide +kernel
theorem zd_N_makeKeys_8 : decode zc_N_makeKeys 8 = .ok (.aload_n 0, 1) := by decide +kernel
theorem zd_N_makeKeys_9 : decode zc_N_makeKeys 9 = .ok (.getfield 19, 3) := by decide +kernel
theorem zd_N_makeKeys_12 : decode zc_N_makeKeys 12 = .ok (.bipush 8, 2) := by decide +kernel
theorem zd_N_makeKeys_14 : decode zc_N_makeKeys 14 = .ok (.iload_n 1, 1) := by decide +kernel
theorem zd_N_makeKeys_15 : decode zc_N_makeKeys 15 = .ok (.imul, 1) := by decide +kernel
theorem zd_N_makeKeys_16 : decode zc_N_makeKeys 16 = .ok (.invokevirtual 233, 3) := by decide +kernel
theorem zd_N_makeKeys_19 : decode zc_N_makeKeys 19 = .ok (.aload_n 0, 1) := by decide +kernel
theorem zd_N_makeKeys_20 : decode zc_N_makeKeys 20 = .ok (.aload_n 0, 1) := by decide +kernel
theorem zd_N_makeKeys_21 : decode zc_N_makeKeys 21 = .ok (.getfield 22, 3) := by decide +kernel
theorem zd_N_makeKeys_24 : decode zc_N_makeKeys 24 = .ok (.bipush 8, 2) := by decide +kernel
theorem zd_N_makeKeys_26 : decode zc_N_makeKeys 26 = .ok (.iload_n 1, 1) := by decide +kernel
theorem zd_N_makeKeys_27 : decode zc_N_makeKeys 27 = .ok (.imul, 1) := by decide +kernel
theorem zd_N_makeKeys_28 : decode zc_N_makeKeys 28 = .ok (.invokevirtual 233, 3) := by decide +kernel
theorem zd_N_makeKeys_31 : decode zc_N_makeKeys 31 = .ok (.aload_n 0, 1) := by decide +kernel
theorem zd_N_makeKeys_32 : decode zc_N_makeKeys 32 = .ok (.getfield 58, 3) := by decide +kernel
theorem zd_N_makeKeys_35 : decode zc_N_makeKeys 35 = .ok (.aload_n 0, 1) := by decide +kernel
theorem zd_N_makeKeys_36 : decode zc_N_makeKeys 36 = .ok (.getfield 177, 3) := by decide +kernel
theorem zd_N_makeKeys_39 : decode zc_N_makeKeys 39 = .ok (.bipush 65, 2) := by decide +kernel
theorem zd_N_makeKeys_41 : decode zc_N_makeKeys 41 = .ok (.iload_n 2, 1) := by decide +kernel
theorem zd_N_makeKeys_42 : decode zc_N_makeKeys 42 = .ok (.iadd, 1) := by decide +kernel
theorem zd_N_makeKeys_43 : decode zc_N_makeKeys 43 = .ok (.i2b, 1) := by decide +kernel
theorem zd_N_makeKeys_44 : decode zc_N_makeKeys 44 = .ok (.bastore, 1) := by decide +kernel
theorem zd_N_makeKeys_45 : decode zc_N_makeKeys 45 = .ok (.aload_n 0, 1) := by decide +kernel
theorem zd_N_makeKeys_46 : decode zc_N_makeKeys 46 = .ok (.dup, 1) := by decide +kernel
theorem zd_N_makeKeys_47 : decode zc_N_makeKeys 47 = .ok (.getfield 177, 3) := by decide +kernel
theorem zd_N_makeKeys_50 : decode zc_N_makeKeys 50 = .ok (.iconst 1, 1) := by decide +kernel
theorem zd_N_makeKeys_51 : decode zc_N_makeKeys 51 = .ok (.iadd, 1) := by decide +kernel
theorem zd_N_makeKeys_52 : decode zc_N_makeKeys 52 = .ok (.putfield 177, 3) := by decide +kernel
theorem zd_N_makeKeys_55 : decode zc_N_makeKeys 55 = .ok (.aload_n 0, 1) := by decide +kernel
theorem zd_N_makeKeys_56 : decode zc_N_makeKeys 56 = .ok (.invokevirtual 237, 3) := by decide +kernel
theorem zd_N_makeKeys_59 : decode zc_N_makeKeys 59 = .ok (.iconst 0, 1) := by decide +kernel
theorem zd_N_makeKeys_60 : decode zc_N_makeKeys 60 = .ok (.istore_n 3, 1) := by decide +kernel
theorem zd_N_makeKeys_61 : decode zc_N_makeKeys 61 = .ok (.iload_n 3, 1) := by decide +kernel
theorem zd_N_makeKeys_62 : decode zc_N_makeKeys 62 = .ok (.bipush 8, 2) := by decide +kernel
theorem zd_N_makeKeys_64 : decode zc_N_makeKeys 64 = .ok (.if_icmp .ge 31, 3) := by decide +kernel
theorem zd_N_makeKeys_67 : decode zc_N_makeKeys 67 = .ok (.aload_n 0, 1) := by decide +kernel
theorem zd_N_makeKeys_68 : decode zc_N_makeKeys 68 = .ok (.getfield 25, 3) := by decide +kernel
theorem zd_N_makeKeys_71 : decode zc_N_makeKeys 71 = .ok (.bipush 16, 2) := by decide +kernel
theorem zd_N_makeKeys_73 : decode zc_N_makeKeys 73 = .ok (.iload_n 1, 1) := by decide +kernel
theorem zd_N_makeKeys_74 : decode zc_N_makeKeys 74 = .ok (.imul, 1) := by decide +kernel
theorem zd_N_makeKeys_75 : decode zc_N_makeKeys 75 = .ok (.bipush 8, 2) := by decide +kernel
theorem zd_N_makeKeys_77 : decode zc_N_makeKeys 77 = .ok (.iload_n 2, 1) := by decide +kernel
theorem zd_N_makeKeys_78 : decode zc_N_makeKeys 78 = .ok (.imul, 1) := by decide +kernel
theorem zd_N_makeKeys_79 : decode zc_N_makeKeys 79 = .ok (.iadd, 1) := by decide +kernel
theorem zd_N_makeKeys_80 : decode zc_N_makeKeys 80 = .ok (.iload_n 3, 1) := by decide +kernel
theorem zd_N_makeKeys_81 : decode zc_N_makeKeys 81 = .ok (.iadd, 1) := by decide +kernel
theorem zd_N_makeKeys_82 : decode zc_N_makeKeys 82 = .ok (.aload_n 0, 1) := by decide +kernel
theorem zd_N_makeKeys_83 : decode zc_N_makeKeys 83 = .ok (.getfield 65, 3) := by decide +kernel
theorem zd_N_makeKeys_86 : decode zc_N_makeKeys 86 = .ok (.iload_n 3, 1) := by decide +kernel
theorem zd_N_makeKeys_87 : decode zc_N_makeKeys 87 = .ok (.iaload, 1) := by decide +kernel
theorem zd_N_makeKeys_88 : decode zc_N_makeKeys 88 = .ok (.iastore, 1) := by decide +kernel
theorem zd_N_makeKeys_89 : decode zc_N_makeKeys 89 = .ok (.iinc 3 1, 3) := by decide +kernel
theorem zd_N_makeKeys_92 : decode zc_N_makeKeys 92 = .ok (.goto (-31), 3) := by decide +kernel
theorem zd_N_makeKeys_95 : decode zc_N_makeKeys 95 = .ok (.iinc 2 1, 3) := by decide +kernel
theorem zd_N_makeKeys_98 : decode zc_N_makeKeys 98 = .ok (.goto (-96), 3) := by decide +kernel
theorem zd_N_makeKeys_101 : decode zc_N_makeKeys 101 = .ok (.return_, 1) := by decide +kernel
theorem zd_N_alter_0 : decode zc_N_alter 0 = .ok (.aload_n 0, 1) := by decide +kernel
theorem zd_N_alter_1 : decode zc_N_alter 1 = .ok (.iload_n 1, 1) := by decide +kernel
theorem zd_N_alter_2 : decode zc_N_alter 2 = .ok (.iload_n 2, 1) := by decide +kernel
theorem zd_N_alter_3 : decode zc_N_alter 3 = .ok (.invokestatic 261, 3) := by decide +kernel
theorem zd_N_alter_6 : decode zc_N_alter 6 = .ok (.iconst 0, 1) := by decide +kernel
theorem zd_N_alter_7 : decode zc_N_alter 7 = .ok (.invokevirtual 187, 3) := by decide +kernel
theorem zd_N_alter_10 : decode zc_N_alter 10 = .ok (.ifCond .eq 5, 3) := by decide +kernel
theorem zd_N_alter_13 : decode zc_N_alter 13 = .ok (.iconst 0, 1) := by decide +kernel
theorem zd_N_alter_14 : decode zc_N_alter 14 = .ok (.ireturn, 1) := by decide +kernel
theorem zd_N_alter_15 : decode zc_N_alter 15 = .ok (.aload_n 0, 1) := by decide +kernel
theorem zd_N_alter_16 : decode zc_N_alter 16 = .ok (.getfield 149, 3) := by decide +kernel
theorem zd_N_alter_19 : decode zc_N_alter 19 = .ok (.iload_n 1, 1) := by decide +kernel
theorem zd_N_alter_20 : decode zc_N_alter 20 = .ok (.ifCond .ne 7, 3) := by decide +kernel
theorem zd_N_alter_23 : decode zc_N_alter 23 = .ok (.iconst 1, 1) := by decide +kernel
theorem zd_N_alter_24 : decode zc_N_alter 24 = .ok (.goto 4, 3) := by decide +kernel
theorem zd_N_alter_27 : decode zc_N_alter 27 = .ok (.iconst 2, 1) := by decide +kernel
theorem zd_N_alter_28 : decode zc_N_alter 28 = .ok (.if_icmp .eq 5, 3) := by decide +kernel
theorem zd_N_alter_31 : decode zc_N_alter 31 = .ok (.iconst 0, 1) := by decide +kernel
theorem zd_N_alter_32 : decode zc_N_alter 32 = .ok (.ireturn, 1) := by decide +kernel
theorem zd_N_alter_33 : decode zc_N_alter 33 = .ok (.aload_n 0, 1) := by decide +kernel
theorem zd_N_alter_34 : decode zc_N_alter 34 = .ok (.getfield 13, 3) := by decide +kernel
theorem zd_N_alter_37 : decode zc_N_alter 37 = .ok (.bipush 8, 2) := by decide +kernel
theorem zd_N_alter_39 : decode zc_N_alter 39 = .ok (.iload_n 1, 1) := by decide +kernel
theorem zd_N_alter_40 : decode zc_N_alter 40 = .ok (.imul, 1) := by decide +kernel
theorem zd_N_alter_41 : decode zc_N_alter 41 = .ok (.iload_n 2, 1) := by decide +kernel
theorem zd_N_alter_42 : decode zc_N_alter 42 = .ok (.iadd, 1) := by decide +kernel
theorem zd_N_alter_43 : decode zc_N_alter 43 = .ok (.aload_n 0, 1) := by decide +kernel
theorem zd_N_alter_44 : decode zc_N_alter 44 = .ok (.getfield 13, 3) := by decide +kernel
theorem zd_N_alter_47 : decode zc_N_alter 47 = .ok (.bipush 8, 2) := by decide +kernel
theorem zd_N_alter_49 : decode zc_N_alter 49 = .ok (.iload_n 1, 1) := by decide +kernel
theorem zd_N_alter_50 : decode zc_N_alter 50 = .ok (.imul, 1) := by decide +kernel
theorem zd_N_alter_51 : decode zc_N_alter 51 = .ok (.iload_n 2, 1) := by decide +kernel
theorem zd_N_alter_52 : decode zc_N_alter 52 = .ok (.iadd, 1) := by decide +kernel
theorem zd_N_alter_53 : decode zc_N_alter 53 = .ok (.iaload, 1) := by decide +kernel
theorem zd_N_alter_54 : decode zc_N_alter 54 = .ok (.iload_n 3, 1) := by decide +kernel
theorem zd_N_alter_55 : decode zc_N_alter 55 = .ok (.ixor, 1) := by decide +kernel
theorem zd_N_alter_56 : decode zc_N_alter 56 = .ok (.iastore, 1) := by decide +kernel
theorem zd_N_alter_57 : decode zc_N_alter 57 = .ok (.iconst 1, 1) := by decide +kernel
theorem zd_N_alter_58 : decode zc_N_alter 58 = .ok (.ireturn, 1) := by decide +kernel
theorem zd_N_isNone_0 : decode zc_N_isNone 0 = .ok (.iload_n 0, 1) := by decide +kernel
theorem zd_N_isNone_1 : decode zc_N_isNone 1 = .ok (.ifCond .lt 18, 3) := by decide +kernel
theorem zd_N_isNone_4 : decode zc_N_isNone 4 = .ok (.iload_n 0, 1) := by decide +kernel
theorem zd_N_isNone_5 : decode zc_N_isNone 5 = .ok (.iconst 3, 1) := by decide +kernel
theorem zd_N_isNone_6 : decode zc_N_isNone 6 = .ok (.if_icmp .gt 13, 3) := by decide +kernel
theorem zd_N_isNone_9 : decode zc_N_isNone 9 = .ok (.iload_n 1, 1) := by decide +kernel
theorem zd_N_isNone_10 : decode zc_N_isNone 10 = .ok (.ifCond .lt 9, 3) := by decide +kernel
theorem zd_N_isNone_13 : decode zc_N_isNone 13 = .ok (.iload_n 1, 1) := by decide +kernel
theorem zd_N_isNone_14 : decode zc_N_isNone 14 = .ok (.bipush 7, 2) := by decide +kernel
theorem zd_N_isNone_16 : decode zc_N_isNone 16 = .ok (.if_icmp .le 7, 3) := by decide +kernel
theorem zd_N_isNone_19 : decode zc_N_isNone 19 = .ok (.iconst 1, 1) := by decide +kernel
theorem zd_N_isNone_20 : decode zc_N_isNone 20 = .ok (.goto 4, 3) := by decide +kernel
theorem zd_N_isNone_23 : decode zc_N_isNone 23 = .ok (.iconst 0, 1) := by decide +kernel
theorem zd_N_isNone_24 : decode zc_N_isNone 24 = .ok (.ireturn, 1) := by decide +kernel
theorem zd_N_sent_0 : decode zc_N_sent 0 = .ok (.aload_n 0, 1) := by decide +kernel
theorem zd_N_sent_1 : decode zc_N_sent 1 = .ok (.iload_n 1, 1) := by decide +kernel
theorem zd_N_sent_2 : decode zc_N_sent 2 = .ok (.iload_n 2, 1) := by decide +kernel
theorem zd_N_sent_3 : decode zc_N_sent 3 = .ok (.invokestatic 261, 3) := by decide +kernel
theorem zd_N_sent_6 : decode zc_N_sent 6 = .ok (.iconst 0, 1) := by decide +kernel
theorem zd_N_sent_7 : decode zc_N_sent 7 = .ok (.invokevirtual 187, 3) := by decide +kernel
theorem zd_N_sent_10 : decode zc_N_sent 10 = .ok (.ifCond .eq 7, 3) := by decide +kernel
theorem zd_N_sent_13 : decode zc_N_sent 13 = .ok (.iconst 0, 1) := by decide +kernel
theorem zd_N_sent_14 : decode zc_N_sent 14 = .ok (.goto 14, 3) := by decide +kernel
theorem zd_N_sent_17 : decode zc_N_sent 17 = .ok (.aload_n 0, 1) := by decide +kernel
theorem zd_N_sent_18 : decode zc_N_sent 18 = .ok (.getfield 13, 3) := by decide +kernel
theorem zd_N_sent_21 : decode zc_N_sent 21 = .ok (.bipush 8, 2) := by decide +kernel
theorem zd_N_sent_23 : decode zc_N_sent 23 = .ok (.iload_n 1, 1) := by decide +kernel
theorem zd_N_sent_24 : decode zc_N_sent 24 = .ok (.imul, 1) := by decide +kernel
theorem zd_N_sent_25 : decode zc_N_sent 25 = .ok (.iload_n 2, 1) := by decide +kernel
theorem zd_N_sent_26 : decode zc_N_sent 26 = .ok (.iadd, 1) := by decide +kernel
theorem zd_N_sent_27 : decode zc_N_sent 27 = .ok (.iaload, 1) := by decide +kernel
theorem zd_N_sent_28 : decode zc_N_sent 28 = .ok (.ireturn, 1) := by decide +kernel
theorem zd_N_key_0 : decode zc_N_key 0 = .ok (.aload_n 0, 1) := by decide +kernel
theorem zd_N_key_1 : decode zc_N_key 1 = .ok (.iload_n 1, 1) := by decide +kernel
theorem zd_N_key_2 : decode zc_N_key 2 = .ok (.ifCond .lt 18, 3) := by decide +kernel
theorem zd_N_key_5 : decode zc_N_key 5 = .ok (.iload_n 1, 1) := by decide +kernel
theorem zd_N_key_6 : decode zc_N_key 6 = .ok (.iconst 1, 1) := by decide +kernel
theorem zd_N_key_7 : decode zc_N_key 7 = .ok (.if_icmp .gt 13, 3) := by decide +kernel
theorem zd_N_key_10 : decode zc_N_key 10 = .ok (.iload_n 2, 1) := by decide +kernel
theorem zd_N_key_11 : decode zc_N_key 11 = .ok (.ifCond .lt 9, 3) := by decide +kernel
theorem zd_N_key_14 : decode zc_N_key 14 = .ok (.iload_n 2, 1) := by decide +kernel
theorem zd_N_key_15 : decode zc_N_key 15 = .ok (.bipush 15, 2) := by decide +kernel
theorem zd_N_key_17 : decode zc_N_key 17 = .ok (.if_icmp .le 7, 3) := by decide +kernel
theorem zd_N_key_20 : decode zc_N_key 20 = .ok (.iconst 1, 1) := by decide +kernel
theorem zd_N_key_21 : decode zc_N_key 21 = .ok (.goto 4, 3) := by decide +kernel
theorem zd_N_key_24 : decode zc_N_key 24 = .ok (.iconst 0, 1) := by decide +kernel
theorem zd_N_key_25 : decode zc_N_key 25 = .ok (.aload_n 0, 1) := by decide +kernel
theorem zd_N_key_26 : decode zc_N_key 26 = .ok (.getfield 149, 3) := by decide +kernel
theorem zd_N_key_29 : decode zc_N_key 29 = .ok (.iconst 3, 1) := by decide +kernel
theorem zd_N_key_30 : decode zc_N_key 30 = .ok (.if_icmp .eq 7, 3) := by decide +kernel
theorem zd_N_key_33 : decode zc_N_key 33 = .ok (.iconst 1, 1) := by decide +kernel
theorem zd_N_key_34 : decode zc_N_key 34 = .ok (.goto 4, 3) := by decide +kernel
theorem zd_N_key_37 : decode zc_N_key 37 = .ok (.iconst 0, 1) := by decide +kernel
theorem zd_N_key_38 : decode zc_N_key 38 = .ok (.invokevirtual 187, 3) := by decide +kernel
theorem zd_N_key_41 : decode zc_N_key 41 = .ok (.ifCond .eq 7, 3) := by decide +kernel
theorem zd_N_key_44 : decode zc_N_key 44 = .ok (.iconst 0, 1) := by decide +kernel
theorem zd_N_key_45 : decode zc_N_key 45 = .ok (.goto 14, 3) := by decide +kernel
theorem zd_N_key_48 : decode zc_N_key 48 = .ok (.aload_n 0, 1) := by decide +kernel
theorem zd_N_key_49 : decode zc_N_key 49 = .ok (.getfield 25, 3) := by decide +kernel
theorem zd_N_key_52 : decode zc_N_key 52 = .ok (.bipush 16, 2) := by decide +kernel
theorem zd_N_key_54 : decode zc_N_key 54 = .ok (.iload_n 1, 1) := by decide +kernel
theorem zd_N_key_55 : decode zc_N_key 55 = .ok (.imul, 1) := by decide +kernel
theorem zd_N_key_56 : decode zc_N_key 56 = .ok (.iload_n 2, 1) := by decide +kernel
theorem zd_N_key_57 : decode zc_N_key 57 = .ok (.iadd, 1) := by decide +kernel
theorem zd_N_key_58 : decode zc_N_key 58 = .ok (.iaload, 1) := by decide +kernel
theorem zd_N_key_59 : decode zc_N_key 59 = .ok (.ireturn, 1) := by decide +kernel
theorem zd_N_state_0 : decode zc_N_state 0 = .ok (.aload_n 0, 1) := by decide +kernel
theorem zd_N_state_1 : decode zc_N_state 1 = .ok (.iconst 0, 1) := by decide +kernel
theorem zd_N_state_2 : decode zc_N_state 2 = .ok (.putfield 153, 3) := by decide +kernel
theorem zd_N_state_5 : decode zc_N_state 5 = .ok (.aload_n 0, 1) := by decide +kernel
theorem zd_N_state_6 : decode zc_N_state 6 = .ok (.getfield 149, 3) := by decide +kernel
theorem zd_N_state_9 : decode zc_N_state 9 = .ok (.ireturn, 1) := by decide +kernel
theorem zd_N_begin_0 : decode zc_N_begin 0 = .ok (.aload_n 0, 1) := by decide +kernel
theorem zd_N_begin_1 : decode zc_N_begin 1 = .ok (.iconst 0, 1) := by decide +kernel
theorem zd_N_begin_2 : decode zc_N_begin 2 = .ok (.putfield 153, 3) := by decide +kernel
theorem zd_N_begin_5 : decode zc_N_begin 5 = .ok (.aload_n 0, 1) := by decide +kernel
theorem zd_N_begin_6 : decode zc_N_begin 6 = .ok (.iconst 0, 1) := by decide +kernel
theorem zd_N_begin_7 : decode zc_N_begin 7 = .ok (.putfield 149, 3) := by decide +kernel
theorem zd_N_begin_10 : decode zc_N_begin 10 = .ok (.iconst 0, 1) := by decide +kernel
theorem zd_N_begin_11 : decode zc_N_begin 11 = .ok (.istore_n 1, 1) := by decide +kernel
theorem zd_N_begin_12 : decode zc_N_begin 12 = .ok (.iload_n 1, 1) := by decide +kernel
theorem zd_N_begin_13 : decode zc_N_begin 13 = .ok (.bipush 32, 2) := by decide +kernel
theorem zd_N_begin_15 : decode zc_N_begin 15 = .ok (.if_icmp .ge 16, 3) := by decide +kernel
theorem zd_N_begin_18 : decode zc_N_begin 18 = .ok (.aload_n 0, 1) := by decide +kernel
theorem zd_N_begin_19 : decode zc_N_begin 19 = .ok (.getfield 13, 3) := by decide +kernel
theorem zd_N_begin_22 : decode zc_N_begin 22 = .ok (.iload_n 1, 1) := by decide +kernel
theorem zd_N_begin_23 : decode zc_N_begin 23 = .ok (.iconst 0, 1) := by decide +kernel
theorem zd_N_begin_24 : decode zc_N_begin 24 = .ok (.iastore, 1) := by decide +kernel
theorem zd_N_begin_25 : decode zc_N_begin 25 = .ok (.iinc 1 1, 3) := by decide +kernel
theorem zd_N_begin_28 : decode zc_N_begin 28 = .ok (.goto (-16), 3) := by decide +kernel
theorem zd_N_begin_31 : decode zc_N_begin 31 = .ok (.return_, 1) := by decide +kernel
theorem zd_N_secret_0 : decode zc_N_secret 0 = .ok (.aload_n 0, 1) := by decide +kernel
theorem zd_N_secret_1 : decode zc_N_secret 1 = .ok (.iload_n 1, 1) := by decide +kernel
theorem zd_N_secret_2 : decode zc_N_secret 2 = .ok (.ifCond .lt 9, 3) := by decide +kernel
theorem zd_N_secret_5 : decode zc_N_secret 5 = .ok (.iload_n 1, 1) := by decide +kernel
theorem zd_N_secret_6 : decode zc_N_secret 6 = .ok (.bipush 7, 2) := by decide +kernel
theorem zd_N_secret_8 : decode zc_N_secret 8 = .ok (.if_icmp .le 7, 3) := by decide +kernel
theorem zd_N_secret_11 : decode zc_N_secret 11 = .ok (.iconst 1, 1) := by decide +kernel
theorem zd_N_secret_12 : decode zc_N_secret 12 = .ok (.goto 4, 3) := by decide +kernel
theorem zd_N_secret_15 : decode zc_N_secret 15 = .ok (.iconst 0, 1) := by decide +kernel
theorem zd_N_secret_16 : decode zc_N_secret 16 = .ok (.iconst 0, 1) := by decide +kernel
theorem zd_N_secret_17 : decode zc_N_secret 17 = .ok (.invokevirtual 187, 3) := by decide +kernel
theorem zd_N_secret_20 : decode zc_N_secret 20 = .ok (.ifCond .eq 5, 3) := by decide +kernel
theorem zd_N_secret_23 : decode zc_N_secret 23 = .ok (.iconst 0, 1) := by decide +kernel
theorem zd_N_secret_24 : decode zc_N_secret 24 = .ok (.ireturn, 1) := by decide +kernel
theorem zd_N_secret_25 : decode zc_N_secret 25 = .ok (.aload_n 0, 1) := by decide +kernel
theorem zd_N_secret_26 : decode zc_N_secret 26 = .ok (.invokevirtual 208, 3) := by decide +kernel
theorem zd_N_secret_29 : decode zc_N_secret 29 = .ok (.aload_n 0, 1) := by decide +kernel
theorem zd_N_secret_30 : decode zc_N_secret 30 = .ok (.getfield 195, 3) := by decide +kernel
theorem zd_N_secret_33 : decode zc_N_secret 33 = .ok (.ifCond .eq 32, 3) := by decide +kernel
theorem zd_N_secret_36 : decode zc_N_secret 36 = .ok (.aload_n 0, 1) := by decide +kernel
theorem zd_N_secret_37 : decode zc_N_secret 37 = .ok (.getfield 55, 3) := by decide +kernel
theorem zd_N_secret_40 : decode zc_N_secret 40 = .ok (.bipush 15, 2) := by decide +kernel
theorem zd_N_secret_42 : decode zc_N_secret 42 = .ok (.iconst 2, 1) := by decide +kernel
theorem zd_N_secret_43 : decode zc_N_secret 43 = .ok (.iload_n 1, 1) := by decide +kernel
theorem zd_N_secret_44 : decode zc_N_secret 44 = .ok (.imul, 1) := by decide +kernel
theorem zd_N_secret_45 : decode zc_N_secret 45 = .ok (.isub, 1) := by decide +kernel
theorem zd_N_secret_46 : decode zc_N_secret 46 = .ok (.iaload, 1) := by decide +kernel
theorem zd_N_secret_47 : decode zc_N_secret 47 = .ok (.bipush 16, 2) := by decide +kernel
theorem zd_N_secret_49 : decode zc_N_secret 49 = .ok (.ishl, 1) := by decide +kernel
theorem zd_N_secret_50 : decode zc_N_secret 50 = .ok (.aload_n 0, 1) := by decide +kernel
theorem zd_N_secret_51 : decode zc_N_secret 51 = .ok (.getfield 55, 3) := by decide +kernel
theorem zd_N_secret_54 : decode zc_N_secret 54 = .ok (.bipush 14, 2) := by decide +kernel
theorem zd_N_secret_56 : decode zc_N_secret 56 = .ok (.iconst 2, 1) := by decide +kernel
theorem zd_N_secret_57 : decode zc_N_secret 57 = .ok (.iload_n 1, 1) := by decide +kernel
theorem zd_N_secret_58 : decode zc_N_secret 58 = .ok (.imul, 1) := by decide +kernel
theorem zd_N_secret_59 : decode zc_N_secret 59 = .ok (.isub, 1) := by decide +kernel
theorem zd_N_secret_60 : decode zc_N_secret 60 = .ok (.iaload, 1) := by decide +kernel
theorem zd_N_secret_61 : decode zc_N_secret 61 = .ok (.ior, 1) := by decide +kernel
theorem zd_N_secret_62 : decode zc_N_secret 62 = .ok (.goto 4, 3) := by decide +kernel
theorem zd_N_secret_65 : decode zc_N_secret 65 = .ok (.iconst 0, 1) := by decide +kernel
theorem zd_N_secret_66 : decode zc_N_secret 66 = .ok (.ireturn, 1) := by decide +kernel
