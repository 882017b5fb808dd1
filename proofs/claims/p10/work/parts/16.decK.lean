/-! DECODE rows (by wip/names.py) -/
theorem zd_K_init_0 : decode zc_K_init 0 = .ok (.aload_n 0, 1) := by decide +kernel
theorem zd_K_init_1 : decode zc_K_init 1 = .ok (.invokespecial 1, 3) := by decide +kernel
theorem zd_K_init_4 : decode zc_K_init 4 = .ok (.aload_n 0, 1) := by decide +kernel
theorem zd_K_init_5 : decode zc_K_init 5 = .ok (.bipush 7, 2) := by decide +kernel
theorem zd_K_init_7 : decode zc_K_init 7 = .ok (.bipush 8, 2) := by decide +kernel
theorem zd_K_init_9 : decode zc_K_init 9 = .ok (.multianewarray 9 2, 4) := by decide +kernel
theorem zd_K_init_13 : decode zc_K_init 13 = .ok (.putfield 11, 3) := by decide +kernel
theorem zd_K_init_16 : decode zc_K_init 16 = .ok (.aload_n 0, 1) := by decide +kernel
theorem zd_K_init_17 : decode zc_K_init 17 = .ok (.iconst 4, 1) := by decide +kernel
theorem zd_K_init_18 : decode zc_K_init 18 = .ok (.bipush 8, 2) := by decide +kernel
theorem zd_K_init_20 : decode zc_K_init 20 = .ok (.multianewarray 9 2, 4) := by decide +kernel
theorem zd_K_init_24 : decode zc_K_init 24 = .ok (.putfield 14, 3) := by decide +kernel
theorem zd_K_init_27 : decode zc_K_init 27 = .ok (.aload_n 0, 1) := by decide +kernel
theorem zd_K_init_28 : decode zc_K_init 28 = .ok (.bipush 8, 2) := by decide +kernel
theorem zd_K_init_30 : decode zc_K_init 30 = .ok (.newarray .int, 2) := by decide +kernel
theorem zd_K_init_32 : decode zc_K_init 32 = .ok (.putfield 17, 3) := by decide +kernel
theorem zd_K_init_35 : decode zc_K_init 35 = .ok (.aload_n 0, 1) := by decide +kernel
theorem zd_K_init_36 : decode zc_K_init 36 = .ok (.iconst 2, 1) := by decide +kernel
theorem zd_K_init_37 : decode zc_K_init 37 = .ok (.bipush 8, 2) := by decide +kernel
theorem zd_K_init_39 : decode zc_K_init 39 = .ok (.multianewarray 9 2, 4) := by decide +kernel
theorem zd_K_init_43 : decode zc_K_init 43 = .ok (.putfield 21, 3) := by decide +kernel
theorem zd_K_init_46 : decode zc_K_init 46 = .ok (.aload_n 0, 1) := by decide +kernel
theorem zd_K_init_47 : decode zc_K_init 47 = .ok (.iconst 2, 1) := by decide +kernel
theorem zd_K_init_48 : decode zc_K_init 48 = .ok (.bipush 8, 2) := by decide +kernel
theorem zd_K_init_50 : decode zc_K_init 50 = .ok (.multianewarray 9 2, 4) := by decide +kernel
theorem zd_K_init_54 : decode zc_K_init 54 = .ok (.putfield 24, 3) := by decide +kernel
theorem zd_K_init_57 : decode zc_K_init 57 = .ok (.aload_n 0, 1) := by decide +kernel
theorem zd_K_init_58 : decode zc_K_init 58 = .ok (.iconst 2, 1) := by decide +kernel
theorem zd_K_init_59 : decode zc_K_init 59 = .ok (.bipush 16, 2) := by decide +kernel
theorem zd_K_init_61 : decode zc_K_init 61 = .ok (.multianewarray 9 2, 4) := by decide +kernel
theorem zd_K_init_65 : decode zc_K_init 65 = .ok (.putfield 27, 3) := by decide +kernel
theorem zd_K_init_68 : decode zc_K_init 68 = .ok (.aload_n 0, 1) := by decide +kernel
theorem zd_K_init_69 : decode zc_K_init 69 = .ok (.bipush 8, 2) := by decide +kernel
theorem zd_K_init_71 : decode zc_K_init 71 = .ok (.newarray .int, 2) := by decide +kernel
theorem zd_K_init_73 : decode zc_K_init 73 = .ok (.putfield 30, 3) := by decide +kernel
theorem zd_K_init_76 : decode zc_K_init 76 = .ok (.aload_n 0, 1) := by decide +kernel
theorem zd_K_init_77 : decode zc_K_init 77 = .ok (.bipush 8, 2) := by decide +kernel
theorem zd_K_init_79 : decode zc_K_init 79 = .ok (.newarray .int, 2) := by decide +kernel
theorem zd_K_init_81 : decode zc_K_init 81 = .ok (.putfield 33, 3) := by decide +kernel
theorem zd_K_init_84 : decode zc_K_init 84 = .ok (.aload_n 0, 1) := by decide +kernel
theorem zd_K_init_85 : decode zc_K_init 85 = .ok (.bipush 8, 2) := by decide +kernel
theorem zd_K_init_87 : decode zc_K_init 87 = .ok (.newarray .int, 2) := by decide +kernel
theorem zd_K_init_89 : decode zc_K_init 89 = .ok (.putfield 36, 3) := by decide +kernel
theorem zd_K_init_92 : decode zc_K_init 92 = .ok (.aload_n 0, 1) := by decide +kernel
theorem zd_K_init_93 : decode zc_K_init 93 = .ok (.new 39, 3) := by decide +kernel
theorem zd_K_init_96 : decode zc_K_init 96 = .ok (.dup, 1) := by decide +kernel
theorem zd_K_init_97 : decode zc_K_init 97 = .ok (.invokespecial 41, 3) := by decide +kernel
theorem zd_K_init_100 : decode zc_K_init 100 = .ok (.putfield 42, 3) := by decide +kernel
theorem zd_K_init_103 : decode zc_K_init 103 = .ok (.aload_n 0, 1) := by decide +kernel
theorem zd_K_init_104 : decode zc_K_init 104 = .ok (.new 46, 3) := by decide +kernel
theorem zd_K_init_107 : decode zc_K_init 107 = .ok (.dup, 1) := by decide +kernel
theorem zd_K_init_108 : decode zc_K_init 108 = .ok (.invokespecial 48, 3) := by decide +kernel
theorem zd_K_init_111 : decode zc_K_init 111 = .ok (.putfield 49, 3) := by decide +kernel
theorem zd_K_init_114 : decode zc_K_init 114 = .ok (.aload_n 0, 1) := by decide +kernel
theorem zd_K_init_115 : decode zc_K_init 115 = .ok (.new 53, 3) := by decide +kernel
theorem zd_K_init_118 : decode zc_K_init 118 = .ok (.dup, 1) := by decide +kernel
theorem zd_K_init_119 : decode zc_K_init 119 = .ok (.invokespecial 55, 3) := by decide +kernel
theorem zd_K_init_122 : decode zc_K_init 122 = .ok (.putfield 56, 3) := by decide +kernel
theorem zd_K_init_125 : decode zc_K_init 125 = .ok (.aload_n 0, 1) := by decide +kernel
theorem zd_K_init_126 : decode zc_K_init 126 = .ok (.iconst 0, 1) := by decide +kernel
theorem zd_K_init_127 : decode zc_K_init 127 = .ok (.putfield 60, 3) := by decide +kernel
theorem zd_K_init_130 : decode zc_K_init 130 = .ok (.return_, 1) := by decide +kernel
theorem zd_K_offer_0 : decode zc_K_offer 0 = .ok (.aload_n 0, 1) := by decide +kernel
theorem zd_K_offer_1 : decode zc_K_offer 1 = .ok (.getfield 60, 3) := by decide +kernel
theorem zd_K_offer_4 : decode zc_K_offer 4 = .ok (.ifCond .eq 6, 3) := by decide +kernel
theorem zd_K_offer_7 : decode zc_K_offer 7 = .ok (.bipush (-11), 2) := by decide +kernel
theorem zd_K_offer_9 : decode zc_K_offer 9 = .ok (.ireturn, 1) := by decide +kernel
theorem zd_K_offer_10 : decode zc_K_offer 10 = .ok (.aload_n 0, 1) := by decide +kernel
theorem zd_K_offer_11 : decode zc_K_offer 11 = .ok (.invokevirtual 81, 3) := by decide +kernel
theorem zd_K_offer_14 : decode zc_K_offer 14 = .ok (.ifCond .ne 6, 3) := by decide +kernel
theorem zd_K_offer_17 : decode zc_K_offer 17 = .ok (.bipush (-10), 2) := by decide +kernel
theorem zd_K_offer_19 : decode zc_K_offer 19 = .ok (.ireturn, 1) := by decide +kernel
theorem zd_K_offer_20 : decode zc_K_offer 20 = .ok (.aload_n 0, 1) := by decide +kernel
theorem zd_K_offer_21 : decode zc_K_offer 21 = .ok (.getfield 49, 3) := by decide +kernel
theorem zd_K_offer_24 : decode zc_K_offer 24 = .ok (.aload_n 0, 1) := by decide +kernel
theorem zd_K_offer_25 : decode zc_K_offer 25 = .ok (.getfield 11, 3) := by decide +kernel
theorem zd_K_offer_28 : decode zc_K_offer 28 = .ok (.iconst 0, 1) := by decide +kernel
theorem zd_K_offer_29 : decode zc_K_offer 29 = .ok (.aaload, 1) := by decide +kernel
theorem zd_K_offer_30 : decode zc_K_offer 30 = .ok (.invokevirtual 85, 3) := by decide +kernel
theorem zd_K_offer_33 : decode zc_K_offer 33 = .ok (.aload_n 0, 1) := by decide +kernel
theorem zd_K_offer_34 : decode zc_K_offer 34 = .ok (.getfield 49, 3) := by decide +kernel
theorem zd_K_offer_37 : decode zc_K_offer 37 = .ok (.aload_n 0, 1) := by decide +kernel
theorem zd_K_offer_38 : decode zc_K_offer 38 = .ok (.getfield 11, 3) := by decide +kernel
theorem zd_K_offer_41 : decode zc_K_offer 41 = .ok (.iconst 1, 1) := by decide +kernel
theorem zd_K_offer_42 : decode zc_K_offer 42 = .ok (.aaload, 1) := by decide +kernel
theorem zd_K_offer_43 : decode zc_K_offer 43 = .ok (.aload_n 0, 1) := by decide +kernel
theorem zd_K_offer_44 : decode zc_K_offer 44 = .ok (.getfield 11, 3) := by decide +kernel
theorem zd_K_offer_47 : decode zc_K_offer 47 = .ok (.iconst 4, 1) := by decide +kernel
theorem zd_K_offer_48 : decode zc_K_offer 48 = .ok (.aaload, 1) := by decide +kernel
theorem zd_K_offer_49 : decode zc_K_offer 49 = .ok (.aload_n 0, 1) := by decide +kernel
theorem zd_K_offer_50 : decode zc_K_offer 50 = .ok (.getfield 17, 3) := by decide +kernel
theorem zd_K_offer_53 : decode zc_K_offer 53 = .ok (.invokevirtual 89, 3) := by decide +kernel
theorem zd_K_offer_56 : decode zc_K_offer 56 = .ok (.aload_n 0, 1) := by decide +kernel
theorem zd_K_offer_57 : decode zc_K_offer 57 = .ok (.getfield 17, 3) := by decide +kernel
theorem zd_K_offer_60 : decode zc_K_offer 60 = .ok (.aload_n 0, 1) := by decide +kernel
theorem zd_K_offer_61 : decode zc_K_offer 61 = .ok (.getfield 14, 3) := by decide +kernel
theorem zd_K_offer_64 : decode zc_K_offer 64 = .ok (.iconst 0, 1) := by decide +kernel
theorem zd_K_offer_65 : decode zc_K_offer 65 = .ok (.aaload, 1) := by decide +kernel
theorem zd_K_offer_66 : decode zc_K_offer 66 = .ok (.invokestatic 93, 3) := by decide +kernel
theorem zd_K_offer_69 : decode zc_K_offer 69 = .ok (.aload_n 0, 1) := by decide +kernel
theorem zd_K_offer_70 : decode zc_K_offer 70 = .ok (.iconst 1, 1) := by decide +kernel
theorem zd_K_offer_71 : decode zc_K_offer 71 = .ok (.putfield 60, 3) := by decide +kernel
theorem zd_K_offer_74 : decode zc_K_offer 74 = .ok (.iconst 1, 1) := by decide +kernel
theorem zd_K_offer_75 : decode zc_K_offer 75 = .ok (.ireturn, 1) := by decide +kernel
theorem zd_K_numbersAreFit_0 : decode zc_K_numbersAreFit 0 = .ok (.aload_n 0, 1) := by decide +kernel
theorem zd_K_numbersAreFit_1 : decode zc_K_numbersAreFit 1 = .ok (.getfield 11, 3) := by decide +kernel
theorem zd_K_numbersAreFit_4 : decode zc_K_numbersAreFit 4 = .ok (.iconst 0, 1) := by decide +kernel
theorem zd_K_numbersAreFit_5 : decode zc_K_numbersAreFit 5 = .ok (.aaload, 1) := by decide +kernel
theorem zd_K_numbersAreFit_6 : decode zc_K_numbersAreFit 6 = .ok (.iconst 5, 1) := by decide +kernel
theorem zd_K_numbersAreFit_7 : decode zc_K_numbersAreFit 7 = .ok (.invokestatic 144, 3) := by decide +kernel
theorem zd_K_numbersAreFit_10 : decode zc_K_numbersAreFit 10 = .ok (.ifCond .eq 42, 3) := by decide +kernel
theorem zd_K_numbersAreFit_13 : decode zc_K_numbersAreFit 13 = .ok (.aload_n 0, 1) := by decide +kernel
theorem zd_K_numbersAreFit_14 : decode zc_K_numbersAreFit 14 = .ok (.aload_n 0, 1) := by decide +kernel
theorem zd_K_numbersAreFit_15 : decode zc_K_numbersAreFit 15 = .ok (.getfield 11, 3) := by decide +kernel
theorem zd_K_numbersAreFit_18 : decode zc_K_numbersAreFit 18 = .ok (.iconst 1, 1) := by decide +kernel
theorem zd_K_numbersAreFit_19 : decode zc_K_numbersAreFit 19 = .ok (.aaload, 1) := by decide +kernel
theorem zd_K_numbersAreFit_20 : decode zc_K_numbersAreFit 20 = .ok (.invokevirtual 99, 3) := by decide +kernel
theorem zd_K_numbersAreFit_23 : decode zc_K_numbersAreFit 23 = .ok (.ifCond .eq 29, 3) := by decide +kernel
theorem zd_K_numbersAreFit_26 : decode zc_K_numbersAreFit 26 = .ok (.aload_n 0, 1) := by decide +kernel
theorem zd_K_numbersAreFit_27 : decode zc_K_numbersAreFit 27 = .ok (.getfield 42, 3) := by decide +kernel
theorem zd_K_numbersAreFit_30 : decode zc_K_numbersAreFit 30 = .ok (.aload_n 0, 1) := by decide +kernel
theorem zd_K_numbersAreFit_31 : decode zc_K_numbersAreFit 31 = .ok (.getfield 11, 3) := by decide +kernel
theorem zd_K_numbersAreFit_34 : decode zc_K_numbersAreFit 34 = .ok (.iconst 2, 1) := by decide +kernel
theorem zd_K_numbersAreFit_35 : decode zc_K_numbersAreFit 35 = .ok (.aaload, 1) := by decide +kernel
theorem zd_K_numbersAreFit_36 : decode zc_K_numbersAreFit 36 = .ok (.aload_n 0, 1) := by decide +kernel
theorem zd_K_numbersAreFit_37 : decode zc_K_numbersAreFit 37 = .ok (.getfield 11, 3) := by decide +kernel
theorem zd_K_numbersAreFit_40 : decode zc_K_numbersAreFit 40 = .ok (.iconst 3, 1) := by decide +kernel
theorem zd_K_numbersAreFit_41 : decode zc_K_numbersAreFit 41 = .ok (.aaload, 1) := by decide +kernel
theorem zd_K_numbersAreFit_42 : decode zc_K_numbersAreFit 42 = .ok (.invokevirtual 133, 3) := by decide +kernel
theorem zd_K_numbersAreFit_45 : decode zc_K_numbersAreFit 45 = .ok (.ifCond .eq 7, 3) := by decide +kernel
theorem zd_K_numbersAreFit_48 : decode zc_K_numbersAreFit 48 = .ok (.iconst 1, 1) := by decide +kernel
theorem zd_K_numbersAreFit_49 : decode zc_K_numbersAreFit 49 = .ok (.goto 4, 3) := by decide +kernel
theorem zd_K_numbersAreFit_52 : decode zc_K_numbersAreFit 52 = .ok (.iconst 0, 1) := by decide +kernel
theorem zd_K_numbersAreFit_53 : decode zc_K_numbersAreFit 53 = .ok (.ireturn, 1) := by decide +kernel
theorem zd_K_isFitPower_0 : decode zc_K_isFitPower 0 = .ok (.aload_n 0, 1) := by decide +kernel
theorem zd_K_isFitPower_1 : decode zc_K_isFitPower 1 = .ok (.getfield 11, 3) := by decide +kernel
theorem zd_K_isFitPower_4 : decode zc_K_isFitPower 4 = .ok (.iconst 0, 1) := by decide +kernel
theorem zd_K_isFitPower_5 : decode zc_K_isFitPower 5 = .ok (.aaload, 1) := by decide +kernel
theorem zd_K_isFitPower_6 : decode zc_K_isFitPower 6 = .ok (.iconst 2, 1) := by decide +kernel
theorem zd_K_isFitPower_7 : decode zc_K_isFitPower 7 = .ok (.aload_n 0, 1) := by decide +kernel
theorem zd_K_isFitPower_8 : decode zc_K_isFitPower 8 = .ok (.getfield 30, 3) := by decide +kernel
theorem zd_K_isFitPower_11 : decode zc_K_isFitPower 11 = .ok (.invokestatic 148, 3) := by decide +kernel
theorem zd_K_isFitPower_14 : decode zc_K_isFitPower 14 = .ok (.aload_n 1, 1) := by decide +kernel
theorem zd_K_isFitPower_15 : decode zc_K_isFitPower 15 = .ok (.iconst 2, 1) := by decide +kernel
theorem zd_K_isFitPower_16 : decode zc_K_isFitPower 16 = .ok (.invokestatic 144, 3) := by decide +kernel
theorem zd_K_isFitPower_19 : decode zc_K_isFitPower 19 = .ok (.ifCond .eq 18, 3) := by decide +kernel
theorem zd_K_isFitPower_22 : decode zc_K_isFitPower 22 = .ok (.aload_n 1, 1) := by decide +kernel
theorem zd_K_isFitPower_23 : decode zc_K_isFitPower 23 = .ok (.aload_n 0, 1) := by decide +kernel
theorem zd_K_isFitPower_24 : decode zc_K_isFitPower 24 = .ok (.getfield 30, 3) := by decide +kernel
theorem zd_K_isFitPower_27 : decode zc_K_isFitPower 27 = .ok (.invokestatic 117, 3) := by decide +kernel
theorem zd_K_isFitPower_30 : decode zc_K_isFitPower 30 = .ok (.ifCond .gt 7, 3) := by decide +kernel
theorem zd_K_isFitPower_33 : decode zc_K_isFitPower 33 = .ok (.iconst 1, 1) := by decide +kernel
theorem zd_K_isFitPower_34 : decode zc_K_isFitPower 34 = .ok (.goto 4, 3) := by decide +kernel
theorem zd_K_isFitPower_37 : decode zc_K_isFitPower 37 = .ok (.iconst 0, 1) := by decide +kernel
theorem zd_K_isFitPower_38 : decode zc_K_isFitPower 38 = .ok (.ireturn, 1) := by decide +kernel
theorem zd_K_answer_0 : decode zc_K_answer 0 = .ok (.aload_n 0, 1) := by decide +kernel
theorem zd_K_answer_1 : decode zc_K_answer 1 = .ok (.getfield 60, 3) := by decide +kernel
theorem zd_K_answer_4 : decode zc_K_answer 4 = .ok (.iconst 1, 1) := by decide +kernel
theorem zd_K_answer_5 : decode zc_K_answer 5 = .ok (.if_icmp .eq 6, 3) := by decide +kernel
theorem zd_K_answer_8 : decode zc_K_answer 8 = .ok (.bipush (-11), 2) := by decide +kernel
theorem zd_K_answer_10 : decode zc_K_answer 10 = .ok (.ireturn, 1) := by decide +kernel
theorem zd_K_answer_11 : decode zc_K_answer 11 = .ok (.aload_n 0, 1) := by decide +kernel
theorem zd_K_answer_12 : decode zc_K_answer 12 = .ok (.invokevirtual 81, 3) := by decide +kernel
theorem zd_K_answer_15 : decode zc_K_answer 15 = .ok (.ifCond .ne 6, 3) := by decide +kernel
theorem zd_K_answer_18 : decode zc_K_answer 18 = .ok (.bipush (-10), 2) := by decide +kernel
theorem zd_K_answer_20 : decode zc_K_answer 20 = .ok (.ireturn, 1) := by decide +kernel
theorem zd_K_answer_21 : decode zc_K_answer 21 = .ok (.aload_n 0, 1) := by decide +kernel
theorem zd_K_answer_22 : decode zc_K_answer 22 = .ok (.aload_n 0, 1) := by decide +kernel
theorem zd_K_answer_23 : decode zc_K_answer 23 = .ok (.getfield 14, 3) := by decide +kernel
theorem zd_K_answer_26 : decode zc_K_answer 26 = .ok (.iconst 0, 1) := by decide +kernel
theorem zd_K_answer_27 : decode zc_K_answer 27 = .ok (.aaload, 1) := by decide +kernel
theorem zd_K_answer_28 : decode zc_K_answer 28 = .ok (.invokevirtual 99, 3) := by decide +kernel
theorem zd_K_answer_31 : decode zc_K_answer 31 = .ok (.ifCond .ne 9, 3) := by decide +kernel
theorem zd_K_answer_34 : decode zc_K_answer 34 = .ok (.aload_n 0, 1) := by decide +kernel
theorem zd_K_answer_35 : decode zc_K_answer 35 = .ok (.iconst 1, 1) := by decide +kernel
theorem zd_K_answer_36 : decode zc_K_answer 36 = .ok (.invokevirtual 103, 3) := by decide +kernel
theorem zd_K_answer_39 : decode zc_K_answer 39 = .ok (.ireturn, 1) := by decide +kernel
theorem zd_K_answer_40 : decode zc_K_answer 40 = .ok (.aload_n 0, 1) := by decide +kernel
theorem zd_K_answer_41 : decode zc_K_answer 41 = .ok (.getfield 49, 3) := by decide +kernel
theorem zd_K_answer_44 : decode zc_K_answer 44 = .ok (.aload_n 0, 1) := by decide +kernel
theorem zd_K_answer_45 : decode zc_K_answer 45 = .ok (.getfield 11, 3) := by decide +kernel
theorem zd_K_answer_48 : decode zc_K_answer 48 = .ok (.iconst 0, 1) := by decide +kernel
theorem zd_K_answer_49 : decode zc_K_answer 49 = .ok (.aaload, 1) := by decide +kernel
theorem zd_K_answer_50 : decode zc_K_answer 50 = .ok (.invokevirtual 85, 3) := by decide +kernel
theorem zd_K_answer_53 : decode zc_K_answer 53 = .ok (.aload_n 0, 1) := by decide +kernel
theorem zd_K_answer_54 : decode zc_K_answer 54 = .ok (.getfield 49, 3) := by decide +kernel
theorem zd_K_answer_57 : decode zc_K_answer 57 = .ok (.aload_n 0, 1) := by decide +kernel
theorem zd_K_answer_58 : decode zc_K_answer 58 = .ok (.getfield 11, 3) := by decide +kernel
theorem zd_K_answer_61 : decode zc_K_answer 61 = .ok (.iconst 1, 1) := by decide +kernel
theorem zd_K_answer_62 : decode zc_K_answer 62 = .ok (.aaload, 1) := by decide +kernel
theorem zd_K_answer_63 : decode zc_K_answer 63 = .ok (.aload_n 0, 1) := by decide +kernel
theorem zd_K_answer_64 : decode zc_K_answer 64 = .ok (.getfield 11, 3) := by decide +kernel
theorem zd_K_answer_67 : decode zc_K_answer 67 = .ok (.iconst 5, 1) := by decide +kernel
theorem zd_K_answer_68 : decode zc_K_answer 68 = .ok (.aaload, 1) := by decide +kernel
theorem zd_K_answer_69 : decode zc_K_answer 69 = .ok (.aload_n 0, 1) := by decide +kernel
theorem zd_K_answer_70 : decode zc_K_answer 70 = .ok (.getfield 14, 3) := by decide +kernel
theorem zd_K_answer_73 : decode zc_K_answer 73 = .ok (.iconst 2, 1) := by decide +kernel
theorem zd_K_answer_74 : decode zc_K_answer 74 = .ok (.aaload, 1) := by decide +kernel
theorem zd_K_answer_75 : decode zc_K_answer 75 = .ok (.invokevirtual 89, 3) := by decide +kernel
theorem zd_K_answer_78 : decode zc_K_answer 78 = .ok (.aload_n 0, 1) := by decide +kernel
theorem zd_K_answer_79 : decode zc_K_answer 79 = .ok (.getfield 49, 3) := by decide +kernel
theorem zd_K_answer_82 : decode zc_K_answer 82 = .ok (.aload_n 0, 1) := by decide +kernel
theorem zd_K_answer_83 : decode zc_K_answer 83 = .ok (.getfield 14, 3) := by decide +kernel
theorem zd_K_answer_86 : decode zc_K_answer 86 = .ok (.iconst 0, 1) := by decide +kernel
theorem zd_K_answer_87 : decode zc_K_answer 87 = .ok (.aaload, 1) := by decide +kernel
theorem zd_K_answer_88 : decode zc_K_answer 88 = .ok (.aload_n 0, 1) := by decide +kernel
theorem zd_K_answer_89 : decode zc_K_answer 89 = .ok (.getfield 11, 3) := by decide +kernel
theorem zd_K_answer_92 : decode zc_K_answer 92 = .ok (.iconst 5, 1) := by decide +kernel
theorem zd_K_answer_93 : decode zc_K_answer 93 = .ok (.aaload, 1) := by decide +kernel
theorem zd_K_answer_94 : decode zc_K_answer 94 = .ok (.aload_n 0, 1) := by decide +kernel
theorem zd_K_answer_95 : decode zc_K_answer 95 = .ok (.getfield 21, 3) := by decide +kernel
theorem zd_K_answer_98 : decode zc_K_answer 98 = .ok (.iconst 1, 1) := by decide +kernel
theorem zd_K_answer_99 : decode zc_K_answer 99 = .ok (.aaload, 1) := by decide +kernel
theorem zd_K_answer_100 : decode zc_K_answer 100 = .ok (.invokevirtual 89, 3) := by decide +kernel
theorem zd_K_answer_103 : decode zc_K_answer 103 = .ok (.aload_n 0, 1) := by decide +kernel
theorem zd_K_answer_104 : decode zc_K_answer 104 = .ok (.getfield 42, 3) := by decide +kernel
theorem zd_K_answer_107 : decode zc_K_answer 107 = .ok (.getfield 107, 3) := by decide +kernel
theorem zd_K_answer_110 : decode zc_K_answer 110 = .ok (.aload_n 0, 1) := by decide +kernel
theorem zd_K_answer_111 : decode zc_K_answer 111 = .ok (.getfield 14, 3) := by decide +kernel
theorem zd_K_answer_114 : decode zc_K_answer 114 = .ok (.iconst 1, 1) := by decide +kernel
theorem zd_K_answer_115 : decode zc_K_answer 115 = .ok (.aaload, 1) := by decide +kernel
theorem zd_K_answer_116 : decode zc_K_answer 116 = .ok (.invokestatic 93, 3) := by decide +kernel
theorem zd_K_answer_119 : decode zc_K_answer 119 = .ok (.aload_n 0, 1) := by decide +kernel
theorem zd_K_answer_120 : decode zc_K_answer 120 = .ok (.iconst 1, 1) := by decide +kernel
theorem zd_K_answer_121 : decode zc_K_answer 121 = .ok (.aload_n 0, 1) := by decide +kernel
theorem zd_K_answer_122 : decode zc_K_answer 122 = .ok (.getfield 14, 3) := by decide +kernel
theorem zd_K_answer_125 : decode zc_K_answer 125 = .ok (.iconst 0, 1) := by decide +kernel
theorem zd_K_answer_126 : decode zc_K_answer 126 = .ok (.aaload, 1) := by decide +kernel
theorem zd_K_answer_127 : decode zc_K_answer 127 = .ok (.invokevirtual 110, 3) := by decide +kernel
theorem zd_K_answer_130 : decode zc_K_answer 130 = .ok (.aload_n 0, 1) := by decide +kernel
theorem zd_K_answer_131 : decode zc_K_answer 131 = .ok (.invokevirtual 114, 3) := by decide +kernel
theorem zd_K_answer_134 : decode zc_K_answer 134 = .ok (.aload_n 0, 1) := by decide +kernel
theorem zd_K_answer_135 : decode zc_K_answer 135 = .ok (.iconst 2, 1) := by decide +kernel
theorem zd_K_answer_136 : decode zc_K_answer 136 = .ok (.putfield 60, 3) := by decide +kernel
theorem zd_K_answer_139 : decode zc_K_answer 139 = .ok (.iconst 1, 1) := by decide +kernel
theorem zd_K_answer_140 : decode zc_K_answer 140 = .ok (.ireturn, 1) := by decide +kernel
theorem zd_K_endWith_0 : decode zc_K_endWith 0 = .ok (.aload_n 0, 1) := by decide +kernel
theorem zd_K_endWith_1 : decode zc_K_endWith 1 = .ok (.iload_n 1, 1) := by decide +kernel
theorem zd_K_endWith_2 : decode zc_K_endWith 2 = .ok (.ineg, 1) := by decide +kernel
theorem zd_K_endWith_3 : decode zc_K_endWith 3 = .ok (.putfield 60, 3) := by decide +kernel
theorem zd_K_endWith_6 : decode zc_K_endWith 6 = .ok (.aload_n 0, 1) := by decide +kernel
theorem zd_K_endWith_7 : decode zc_K_endWith 7 = .ok (.getfield 60, 3) := by decide +kernel
theorem zd_K_endWith_10 : decode zc_K_endWith 10 = .ok (.ireturn, 1) := by decide +kernel
theorem zd_K_makeHash_0 : decode zc_K_makeHash 0 = .ok (.aload_n 0, 1) := by decide +kernel
theorem zd_K_makeHash_1 : decode zc_K_makeHash 1 = .ok (.getfield 56, 3) := by decide +kernel
theorem zd_K_makeHash_4 : decode zc_K_makeHash 4 = .ok (.invokevirtual 152, 3) := by decide +kernel
theorem zd_K_makeHash_7 : decode zc_K_makeHash 7 = .ok (.aload_n 0, 1) := by decide +kernel
theorem zd_K_makeHash_8 : decode zc_K_makeHash 8 = .ok (.getfield 56, 3) := by decide +kernel
theorem zd_K_makeHash_11 : decode zc_K_makeHash 11 = .ok (.aload_n 0, 1) := by decide +kernel
theorem zd_K_makeHash_12 : decode zc_K_makeHash 12 = .ok (.getfield 11, 3) := by decide +kernel
theorem zd_K_makeHash_15 : decode zc_K_makeHash 15 = .ok (.iconst 0, 1) := by decide +kernel
theorem zd_K_makeHash_16 : decode zc_K_makeHash 16 = .ok (.aaload, 1) := by decide +kernel
theorem zd_K_makeHash_17 : decode zc_K_makeHash 17 = .ok (.invokevirtual 155, 3) := by decide +kernel
theorem zd_K_makeHash_20 : decode zc_K_makeHash 20 = .ok (.aload_n 0, 1) := by decide +kernel
theorem zd_K_makeHash_21 : decode zc_K_makeHash 21 = .ok (.getfield 56, 3) := by decide +kernel
theorem zd_K_makeHash_24 : decode zc_K_makeHash 24 = .ok (.aload_n 0, 1) := by decide +kernel
theorem zd_K_makeHash_25 : decode zc_K_makeHash 25 = .ok (.getfield 11, 3) := by decide +kernel
theorem zd_K_makeHash_28 : decode zc_K_makeHash 28 = .ok (.iconst 1, 1) := by decide +kernel
theorem zd_K_makeHash_29 : decode zc_K_makeHash 29 = .ok (.aaload, 1) := by decide +kernel
theorem zd_K_makeHash_30 : decode zc_K_makeHash 30 = .ok (.invokevirtual 155, 3) := by decide +kernel
theorem zd_K_makeHash_33 : decode zc_K_makeHash 33 = .ok (.aload_n 0, 1) := by decide +kernel
theorem zd_K_makeHash_34 : decode zc_K_makeHash 34 = .ok (.getfield 56, 3) := by decide +kernel
theorem zd_K_makeHash_37 : decode zc_K_makeHash 37 = .ok (.aload_n 0, 1) := by decide +kernel
theorem zd_K_makeHash_38 : decode zc_K_makeHash 38 = .ok (.getfield 14, 3) := by decide +kernel
theorem zd_K_makeHash_41 : decode zc_K_makeHash 41 = .ok (.iconst 1, 1) := by decide +kernel
theorem zd_K_makeHash_42 : decode zc_K_makeHash 42 = .ok (.aaload, 1) := by decide +kernel
theorem zd_K_makeHash_43 : decode zc_K_makeHash 43 = .ok (.invokevirtual 155, 3) := by decide +kernel
theorem zd_K_makeHash_46 : decode zc_K_makeHash 46 = .ok (.aload_n 0, 1) := by decide +kernel
theorem zd_K_makeHash_47 : decode zc_K_makeHash 47 = .ok (.getfield 56, 3) := by decide +kernel
theorem zd_K_makeHash_50 : decode zc_K_makeHash 50 = .ok (.aload_n 2, 1) := by decide +kernel
theorem zd_K_makeHash_51 : decode zc_K_makeHash 51 = .ok (.invokevirtual 155, 3) := by decide +kernel
theorem zd_K_makeHash_54 : decode zc_K_makeHash 54 = .ok (.aload_n 0, 1) := by decide +kernel
theorem zd_K_makeHash_55 : decode zc_K_makeHash 55 = .ok (.getfield 56, 3) := by decide +kernel
theorem zd_K_makeHash_58 : decode zc_K_makeHash 58 = .ok (.aload_n 0, 1) := by decide +kernel
theorem zd_K_makeHash_59 : decode zc_K_makeHash 59 = .ok (.getfield 14, 3) := by decide +kernel
theorem zd_K_makeHash_62 : decode zc_K_makeHash 62 = .ok (.iconst 2, 1) := by decide +kernel
theorem zd_K_makeHash_63 : decode zc_K_makeHash 63 = .ok (.aaload, 1) := by decide +kernel
theorem zd_K_makeHash_64 : decode zc_K_makeHash 64 = .ok (.invokevirtual 155, 3) := by decide +kernel
theorem zd_K_makeHash_67 : decode zc_K_makeHash 67 = .ok (.aload_n 0, 1) := by decide +kernel
theorem zd_K_makeHash_68 : decode zc_K_makeHash 68 = .ok (.getfield 56, 3) := by decide +kernel
theorem zd_K_makeHash_71 : decode zc_K_makeHash 71 = .ok (.aload_n 0, 1) := by decide +kernel
theorem zd_K_makeHash_72 : decode zc_K_makeHash 72 = .ok (.getfield 21, 3) := by decide +kernel
theorem zd_K_makeHash_75 : decode zc_K_makeHash 75 = .ok (.iload_n 1, 1) := by decide +kernel
theorem zd_K_makeHash_76 : decode zc_K_makeHash 76 = .ok (.aaload, 1) := by decide +kernel
theorem zd_K_makeHash_77 : decode zc_K_makeHash 77 = .ok (.invokevirtual 155, 3) := by decide +kernel
theorem zd_K_makeHash_80 : decode zc_K_makeHash 80 = .ok (.aload_n 0, 1) := by decide +kernel
theorem zd_K_makeHash_81 : decode zc_K_makeHash 81 = .ok (.getfield 56, 3) := by decide +kernel
theorem zd_K_makeHash_84 : decode zc_K_makeHash 84 = .ok (.iconst 0, 1) := by decide +kernel
theorem zd_K_makeHash_85 : decode zc_K_makeHash 85 = .ok (.iconst 0, 1) := by decide +kernel
theorem zd_K_makeHash_86 : decode zc_K_makeHash 86 = .ok (.aload_n 0, 1) := by decide +kernel
theorem zd_K_makeHash_87 : decode zc_K_makeHash 87 = .ok (.getfield 24, 3) := by decide +kernel
theorem zd_K_makeHash_90 : decode zc_K_makeHash 90 = .ok (.iload_n 1, 1) := by decide +kernel
theorem zd_K_makeHash_91 : decode zc_K_makeHash 91 = .ok (.aaload, 1) := by decide +kernel
theorem zd_K_makeHash_92 : decode zc_K_makeHash 92 = .ok (.iconst 0, 1) := by decide +kernel
theorem zd_K_makeHash_93 : decode zc_K_makeHash 93 = .ok (.invokevirtual 158, 3) := by decide +kernel
theorem zd_K_makeHash_96 : decode zc_K_makeHash 96 = .ok (.return_, 1) := by decide +kernel
theorem zd_K_sign_0 : decode zc_K_sign 0 = .ok (.aload_n 0, 1) := by decide +kernel
theorem zd_K_sign_1 : decode zc_K_sign 1 = .ok (.getfield 49, 3) := by decide +kernel
theorem zd_K_sign_4 : decode zc_K_sign 4 = .ok (.aload_n 0, 1) := by decide +kernel
theorem zd_K_sign_5 : decode zc_K_sign 5 = .ok (.getfield 14, 3) := by decide +kernel
theorem zd_K_sign_8 : decode zc_K_sign 8 = .ok (.iconst 1, 1) := by decide +kernel
theorem zd_K_sign_9 : decode zc_K_sign 9 = .ok (.aaload, 1) := by decide +kernel
theorem zd_K_sign_10 : decode zc_K_sign 10 = .ok (.invokevirtual 85, 3) := by decide +kernel
theorem zd_K_sign_13 : decode zc_K_sign 13 = .ok (.aload_n 0, 1) := by decide +kernel
theorem zd_K_sign_14 : decode zc_K_sign 14 = .ok (.getfield 49, 3) := by decide +kernel
theorem zd_K_sign_17 : decode zc_K_sign 17 = .ok (.aload_n 0, 1) := by decide +kernel
theorem zd_K_sign_18 : decode zc_K_sign 18 = .ok (.getfield 24, 3) := by decide +kernel
theorem zd_K_sign_21 : decode zc_K_sign 21 = .ok (.iconst 1, 1) := by decide +kernel
theorem zd_K_sign_22 : decode zc_K_sign 22 = .ok (.aaload, 1) := by decide +kernel
theorem zd_K_sign_23 : decode zc_K_sign 23 = .ok (.aload_n 0, 1) := by decide +kernel
theorem zd_K_sign_24 : decode zc_K_sign 24 = .ok (.getfield 33, 3) := by decide +kernel
theorem zd_K_sign_27 : decode zc_K_sign 27 = .ok (.invokevirtual 162, 3) := by decide +kernel
theorem zd_K_sign_30 : decode zc_K_sign 30 = .ok (.aload_n 0, 1) := by decide +kernel
theorem zd_K_sign_31 : decode zc_K_sign 31 = .ok (.getfield 49, 3) := by decide +kernel
theorem zd_K_sign_34 : decode zc_K_sign 34 = .ok (.aload_n 0, 1) := by decide +kernel
theorem zd_K_sign_35 : decode zc_K_sign 35 = .ok (.getfield 33, 3) := by decide +kernel
theorem zd_K_sign_38 : decode zc_K_sign 38 = .ok (.aload_n 0, 1) := by decide +kernel
theorem zd_K_sign_39 : decode zc_K_sign 39 = .ok (.getfield 42, 3) := by decide +kernel
theorem zd_K_sign_42 : decode zc_K_sign 42 = .ok (.getfield 136, 3) := by decide +kernel
theorem zd_K_sign_45 : decode zc_K_sign 45 = .ok (.aload_n 0, 1) := by decide +kernel
theorem zd_K_sign_46 : decode zc_K_sign 46 = .ok (.getfield 14, 3) := by decide +kernel
theorem zd_K_sign_49 : decode zc_K_sign 49 = .ok (.iconst 3, 1) := by decide +kernel
theorem zd_K_sign_50 : decode zc_K_sign 50 = .ok (.aaload, 1) := by decide +kernel
theorem zd_K_sign_51 : decode zc_K_sign 51 = .ok (.invokevirtual 89, 3) := by decide +kernel
theorem zd_K_sign_54 : decode zc_K_sign 54 = .ok (.return_, 1) := by decide +kernel
theorem zd_K_accept_0 : decode zc_K_accept 0 = .ok (.aload_n 0, 1) := by decide +kernel
theorem zd_K_accept_1 : decode zc_K_accept 1 = .ok (.getfield 60, 3) := by decide +kernel
theorem zd_K_accept_4 : decode zc_K_accept 4 = .ok (.iconst 2, 1) := by decide +kernel
theorem zd_K_accept_5 : decode zc_K_accept 5 = .ok (.if_icmp .eq 6, 3) := by decide +kernel
theorem zd_K_accept_8 : decode zc_K_accept 8 = .ok (.bipush (-11), 2) := by decide +kernel
theorem zd_K_accept_10 : decode zc_K_accept 10 = .ok (.ireturn, 1) := by decide +kernel
theorem zd_K_accept_11 : decode zc_K_accept 11 = .ok (.aload_n 0, 1) := by decide +kernel
theorem zd_K_accept_12 : decode zc_K_accept 12 = .ok (.invokevirtual 81, 3) := by decide +kernel
theorem zd_K_accept_15 : decode zc_K_accept 15 = .ok (.ifCond .ne 6, 3) := by decide +kernel
theorem zd_K_accept_18 : decode zc_K_accept 18 = .ok (.bipush (-10), 2) := by decide +kernel
theorem zd_K_accept_20 : decode zc_K_accept 20 = .ok (.ireturn, 1) := by decide +kernel
theorem zd_K_accept_21 : decode zc_K_accept 21 = .ok (.aload_n 0, 1) := by decide +kernel
theorem zd_K_accept_22 : decode zc_K_accept 22 = .ok (.getfield 14, 3) := by decide +kernel
theorem zd_K_accept_25 : decode zc_K_accept 25 = .ok (.iconst 1, 1) := by decide +kernel
theorem zd_K_accept_26 : decode zc_K_accept 26 = .ok (.aaload, 1) := by decide +kernel
theorem zd_K_accept_27 : decode zc_K_accept 27 = .ok (.aload_n 0, 1) := by decide +kernel
theorem zd_K_accept_28 : decode zc_K_accept 28 = .ok (.getfield 11, 3) := by decide +kernel
theorem zd_K_accept_31 : decode zc_K_accept 31 = .ok (.bipush 6, 2) := by decide +kernel
theorem zd_K_accept_33 : decode zc_K_accept 33 = .ok (.aaload, 1) := by decide +kernel
theorem zd_K_accept_34 : decode zc_K_accept 34 = .ok (.invokestatic 117, 3) := by decide +kernel
theorem zd_K_accept_37 : decode zc_K_accept 37 = .ok (.ifCond .eq 9, 3) := by decide +kernel
theorem zd_K_accept_40 : decode zc_K_accept 40 = .ok (.aload_n 0, 1) := by decide +kernel
theorem zd_K_accept_41 : decode zc_K_accept 41 = .ok (.iconst 2, 1) := by decide +kernel
theorem zd_K_accept_42 : decode zc_K_accept 42 = .ok (.invokevirtual 103, 3) := by decide +kernel
theorem zd_K_accept_45 : decode zc_K_accept 45 = .ok (.ireturn, 1) := by decide +kernel
theorem zd_K_accept_46 : decode zc_K_accept 46 = .ok (.aload_n 0, 1) := by decide +kernel
theorem zd_K_accept_47 : decode zc_K_accept 47 = .ok (.aload_n 0, 1) := by decide +kernel
theorem zd_K_accept_48 : decode zc_K_accept 48 = .ok (.getfield 14, 3) := by decide +kernel
theorem zd_K_accept_51 : decode zc_K_accept 51 = .ok (.iconst 2, 1) := by decide +kernel
theorem zd_K_accept_52 : decode zc_K_accept 52 = .ok (.aaload, 1) := by decide +kernel
theorem zd_K_accept_53 : decode zc_K_accept 53 = .ok (.invokevirtual 99, 3) := by decide +kernel
theorem zd_K_accept_56 : decode zc_K_accept 56 = .ok (.ifCond .ne 9, 3) := by decide +kernel
theorem zd_K_accept_59 : decode zc_K_accept 59 = .ok (.aload_n 0, 1) := by decide +kernel
theorem zd_K_accept_60 : decode zc_K_accept 60 = .ok (.iconst 1, 1) := by decide +kernel
theorem zd_K_accept_61 : decode zc_K_accept 61 = .ok (.invokevirtual 103, 3) := by decide +kernel
theorem zd_K_accept_64 : decode zc_K_accept 64 = .ok (.ireturn, 1) := by decide +kernel
theorem zd_K_accept_65 : decode zc_K_accept 65 = .ok (.aload_n 0, 1) := by decide +kernel
theorem zd_K_accept_66 : decode zc_K_accept 66 = .ok (.getfield 49, 3) := by decide +kernel
theorem zd_K_accept_69 : decode zc_K_accept 69 = .ok (.aload_n 0, 1) := by decide +kernel
theorem zd_K_accept_70 : decode zc_K_accept 70 = .ok (.getfield 11, 3) := by decide +kernel
theorem zd_K_accept_73 : decode zc_K_accept 73 = .ok (.iconst 0, 1) := by decide +kernel
theorem zd_K_accept_74 : decode zc_K_accept 74 = .ok (.aaload, 1) := by decide +kernel
theorem zd_K_accept_75 : decode zc_K_accept 75 = .ok (.invokevirtual 85, 3) := by decide +kernel
theorem zd_K_accept_78 : decode zc_K_accept 78 = .ok (.aload_n 0, 1) := by decide +kernel
theorem zd_K_accept_79 : decode zc_K_accept 79 = .ok (.getfield 49, 3) := by decide +kernel
theorem zd_K_accept_82 : decode zc_K_accept 82 = .ok (.aload_n 0, 1) := by decide +kernel
theorem zd_K_accept_83 : decode zc_K_accept 83 = .ok (.getfield 14, 3) := by decide +kernel
theorem zd_K_accept_86 : decode zc_K_accept 86 = .ok (.iconst 2, 1) := by decide +kernel
theorem zd_K_accept_87 : decode zc_K_accept 87 = .ok (.aaload, 1) := by decide +kernel
theorem zd_K_accept_88 : decode zc_K_accept 88 = .ok (.aload_n 0, 1) := by decide +kernel
theorem zd_K_accept_89 : decode zc_K_accept 89 = .ok (.getfield 11, 3) := by decide +kernel
theorem zd_K_accept_92 : decode zc_K_accept 92 = .ok (.iconst 4, 1) := by decide +kernel
theorem zd_K_accept_93 : decode zc_K_accept 93 = .ok (.aaload, 1) := by decide +kernel
theorem zd_K_accept_94 : decode zc_K_accept 94 = .ok (.aload_n 0, 1) := by decide +kernel
theorem zd_K_accept_95 : decode zc_K_accept 95 = .ok (.getfield 21, 3) := by decide +kernel
theorem zd_K_accept_98 : decode zc_K_accept 98 = .ok (.iconst 0, 1) := by decide +kernel
theorem zd_K_accept_99 : decode zc_K_accept 99 = .ok (.aaload, 1) := by decide +kernel
theorem zd_K_accept_100 : decode zc_K_accept 100 = .ok (.invokevirtual 89, 3) := by decide +kernel
theorem zd_K_accept_103 : decode zc_K_accept 103 = .ok (.aload_n 0, 1) := by decide +kernel
theorem zd_K_accept_104 : decode zc_K_accept 104 = .ok (.iconst 0, 1) := by decide +kernel
theorem zd_K_accept_105 : decode zc_K_accept 105 = .ok (.aload_n 0, 1) := by decide +kernel
theorem zd_K_accept_106 : decode zc_K_accept 106 = .ok (.getfield 17, 3) := by decide +kernel
theorem zd_K_accept_109 : decode zc_K_accept 109 = .ok (.invokevirtual 110, 3) := by decide +kernel
theorem zd_K_accept_112 : decode zc_K_accept 112 = .ok (.aload_n 0, 1) := by decide +kernel
theorem zd_K_accept_113 : decode zc_K_accept 113 = .ok (.invokevirtual 121, 3) := by decide +kernel
theorem zd_K_accept_116 : decode zc_K_accept 116 = .ok (.ifCond .ne 9, 3) := by decide +kernel
theorem zd_K_accept_119 : decode zc_K_accept 119 = .ok (.aload_n 0, 1) := by decide +kernel
theorem zd_K_accept_120 : decode zc_K_accept 120 = .ok (.iconst 3, 1) := by decide +kernel
theorem zd_K_accept_121 : decode zc_K_accept 121 = .ok (.invokevirtual 103, 3) := by decide +kernel
theorem zd_K_accept_124 : decode zc_K_accept 124 = .ok (.ireturn, 1) := by decide +kernel
theorem zd_K_accept_125 : decode zc_K_accept 125 = .ok (.aload_n 0, 1) := by decide +kernel
theorem zd_K_accept_126 : decode zc_K_accept 126 = .ok (.iconst 0, 1) := by decide +kernel
theorem zd_K_accept_127 : decode zc_K_accept 127 = .ok (.invokevirtual 124, 3) := by decide +kernel
theorem zd_K_accept_130 : decode zc_K_accept 130 = .ok (.aload_n 0, 1) := by decide +kernel
theorem zd_K_accept_131 : decode zc_K_accept 131 = .ok (.iconst 1, 1) := by decide +kernel
theorem zd_K_accept_132 : decode zc_K_accept 132 = .ok (.invokevirtual 124, 3) := by decide +kernel
theorem zd_K_accept_135 : decode zc_K_accept 135 = .ok (.aload_n 0, 1) := by decide +kernel
theorem zd_K_accept_136 : decode zc_K_accept 136 = .ok (.iconst 3, 1) := by decide +kernel
theorem zd_K_accept_137 : decode zc_K_accept 137 = .ok (.putfield 60, 3) := by decide +kernel
theorem zd_K_accept_140 : decode zc_K_accept 140 = .ok (.iconst 1, 1) := by decide +kernel
theorem zd_K_accept_141 : decode zc_K_accept 141 = .ok (.ireturn, 1) := by decide +kernel
theorem zd_K_isSigned_0 : decode zc_K_isSigned 0 = .ok (.aload_n 0, 1) := by decide +kernel
theorem zd_K_isSigned_1 : decode zc_K_isSigned 1 = .ok (.getfield 14, 3) := by decide +kernel
theorem zd_K_isSigned_4 : decode zc_K_isSigned 4 = .ok (.iconst 3, 1) := by decide +kernel
theorem zd_K_isSigned_5 : decode zc_K_isSigned 5 = .ok (.aaload, 1) := by decide +kernel
theorem zd_K_isSigned_6 : decode zc_K_isSigned 6 = .ok (.aload_n 0, 1) := by decide +kernel
theorem zd_K_isSigned_7 : decode zc_K_isSigned 7 = .ok (.getfield 14, 3) := by decide +kernel
theorem zd_K_isSigned_10 : decode zc_K_isSigned 10 = .ok (.iconst 1, 1) := by decide +kernel
theorem zd_K_isSigned_11 : decode zc_K_isSigned 11 = .ok (.aaload, 1) := by decide +kernel
theorem zd_K_isSigned_12 : decode zc_K_isSigned 12 = .ok (.invokestatic 117, 3) := by decide +kernel
theorem zd_K_isSigned_15 : decode zc_K_isSigned 15 = .ok (.ifCond .lt 5, 3) := by decide +kernel
theorem zd_K_isSigned_18 : decode zc_K_isSigned 18 = .ok (.iconst 0, 1) := by decide +kernel
theorem zd_K_isSigned_19 : decode zc_K_isSigned 19 = .ok (.ireturn, 1) := by decide +kernel
theorem zd_K_isSigned_20 : decode zc_K_isSigned 20 = .ok (.aload_n 0, 1) := by decide +kernel
theorem zd_K_isSigned_21 : decode zc_K_isSigned 21 = .ok (.getfield 49, 3) := by decide +kernel
theorem zd_K_isSigned_24 : decode zc_K_isSigned 24 = .ok (.aload_n 0, 1) := by decide +kernel
theorem zd_K_isSigned_25 : decode zc_K_isSigned 25 = .ok (.getfield 14, 3) := by decide +kernel
theorem zd_K_isSigned_28 : decode zc_K_isSigned 28 = .ok (.iconst 1, 1) := by decide +kernel
theorem zd_K_isSigned_29 : decode zc_K_isSigned 29 = .ok (.aaload, 1) := by decide +kernel
theorem zd_K_isSigned_30 : decode zc_K_isSigned 30 = .ok (.invokevirtual 85, 3) := by decide +kernel
theorem zd_K_isSigned_33 : decode zc_K_isSigned 33 = .ok (.aload_n 0, 1) := by decide +kernel
theorem zd_K_isSigned_34 : decode zc_K_isSigned 34 = .ok (.getfield 49, 3) := by decide +kernel
theorem zd_K_isSigned_37 : decode zc_K_isSigned 37 = .ok (.aload_n 0, 1) := by decide +kernel
theorem zd_K_isSigned_38 : decode zc_K_isSigned 38 = .ok (.getfield 24, 3) := by decide +kernel
theorem zd_K_isSigned_41 : decode zc_K_isSigned 41 = .ok (.iconst 0, 1) := by decide +kernel
theorem zd_K_isSigned_42 : decode zc_K_isSigned 42 = .ok (.aaload, 1) := by decide +kernel
theorem zd_K_isSigned_43 : decode zc_K_isSigned 43 = .ok (.aload_n 0, 1) := by decide +kernel
theorem zd_K_isSigned_44 : decode zc_K_isSigned 44 = .ok (.getfield 33, 3) := by decide +kernel
theorem zd_K_isSigned_47 : decode zc_K_isSigned 47 = .ok (.invokevirtual 162, 3) := by decide +kernel
theorem zd_K_isSigned_50 : decode zc_K_isSigned 50 = .ok (.aload_n 0, 1) := by decide +kernel
theorem zd_K_isSigned_51 : decode zc_K_isSigned 51 = .ok (.getfield 49, 3) := by decide +kernel
theorem zd_K_isSigned_54 : decode zc_K_isSigned 54 = .ok (.aload_n 0, 1) := by decide +kernel
theorem zd_K_isSigned_55 : decode zc_K_isSigned 55 = .ok (.getfield 14, 3) := by decide +kernel
theorem zd_K_isSigned_58 : decode zc_K_isSigned 58 = .ok (.iconst 3, 1) := by decide +kernel
theorem zd_K_isSigned_59 : decode zc_K_isSigned 59 = .ok (.aaload, 1) := by decide +kernel
theorem zd_K_isSigned_60 : decode zc_K_isSigned 60 = .ok (.getstatic 165, 3) := by decide +kernel
theorem zd_K_isSigned_63 : decode zc_K_isSigned 63 = .ok (.aload_n 0, 1) := by decide +kernel
theorem zd_K_isSigned_64 : decode zc_K_isSigned 64 = .ok (.getfield 36, 3) := by decide +kernel
theorem zd_K_isSigned_67 : decode zc_K_isSigned 67 = .ok (.invokevirtual 89, 3) := by decide +kernel
theorem zd_K_isSigned_70 : decode zc_K_isSigned 70 = .ok (.aload_n 0, 1) := by decide +kernel
theorem zd_K_isSigned_71 : decode zc_K_isSigned 71 = .ok (.getfield 36, 3) := by decide +kernel
theorem zd_K_isSigned_74 : decode zc_K_isSigned 74 = .ok (.aload_n 0, 1) := by decide +kernel
theorem zd_K_isSigned_75 : decode zc_K_isSigned 75 = .ok (.getfield 33, 3) := by decide +kernel
theorem zd_K_isSigned_78 : decode zc_K_isSigned 78 = .ok (.invokestatic 117, 3) := by decide +kernel
theorem zd_K_isSigned_81 : decode zc_K_isSigned 81 = .ok (.ifCond .ne 7, 3) := by decide +kernel
theorem zd_K_isSigned_84 : decode zc_K_isSigned 84 = .ok (.iconst 1, 1) := by decide +kernel
theorem zd_K_isSigned_85 : decode zc_K_isSigned 85 = .ok (.goto 4, 3) := by decide +kernel
theorem zd_K_isSigned_88 : decode zc_K_isSigned 88 = .ok (.iconst 0, 1) := by decide +kernel
theorem zd_K_isSigned_89 : decode zc_K_isSigned 89 = .ok (.ireturn, 1) := by decide +kernel
theorem zd_K_makeKeys_0 : decode zc_K_makeKeys 0 = .ok (.iconst 0, 1) := by decide +kernel
theorem zd_K_makeKeys_1 : decode zc_K_makeKeys 1 = .ok (.istore_n 2, 1) := by decide +kernel
theorem zd_K_makeKeys_2 : decode zc_K_makeKeys 2 = .ok (.iload_n 2, 1) := by decide +kernel
theorem zd_K_makeKeys_3 : decode zc_K_makeKeys 3 = .ok (.iconst 2, 1) := by decide +kernel
theorem zd_K_makeKeys_4 : decode zc_K_makeKeys 4 = .ok (.if_icmp .ge 68, 3) := by decide +kernel
theorem zd_K_makeKeys_7 : decode zc_K_makeKeys 7 = .ok (.aload_n 0, 1) := by decide +kernel
theorem zd_K_makeKeys_8 : decode zc_K_makeKeys 8 = .ok (.getfield 56, 3) := by decide +kernel
theorem zd_K_makeKeys_11 : decode zc_K_makeKeys 11 = .ok (.invokevirtual 152, 3) := by decide +kernel
theorem zd_K_makeKeys_14 : decode zc_K_makeKeys 14 = .ok (.aload_n 0, 1) := by decide +kernel
theorem zd_K_makeKeys_15 : decode zc_K_makeKeys 15 = .ok (.getfield 56, 3) := by decide +kernel
theorem zd_K_makeKeys_18 : decode zc_K_makeKeys 18 = .ok (.aload_n 0, 1) := by decide +kernel
theorem zd_K_makeKeys_19 : decode zc_K_makeKeys 19 = .ok (.getfield 21, 3) := by decide +kernel
theorem zd_K_makeKeys_22 : decode zc_K_makeKeys 22 = .ok (.iload_n 1, 1) := by decide +kernel
theorem zd_K_makeKeys_23 : decode zc_K_makeKeys 23 = .ok (.aaload, 1) := by decide +kernel
theorem zd_K_makeKeys_24 : decode zc_K_makeKeys 24 = .ok (.invokevirtual 155, 3) := by decide +kernel
theorem zd_K_makeKeys_27 : decode zc_K_makeKeys 27 = .ok (.aload_n 0, 1) := by decide +kernel
theorem zd_K_makeKeys_28 : decode zc_K_makeKeys 28 = .ok (.getfield 56, 3) := by decide +kernel
theorem zd_K_makeKeys_31 : decode zc_K_makeKeys 31 = .ok (.aload_n 0, 1) := by decide +kernel
theorem zd_K_makeKeys_32 : decode zc_K_makeKeys 32 = .ok (.getfield 24, 3) := by decide +kernel
theorem zd_K_makeKeys_35 : decode zc_K_makeKeys 35 = .ok (.iload_n 1, 1) := by decide +kernel
theorem zd_K_makeKeys_36 : decode zc_K_makeKeys 36 = .ok (.aaload, 1) := by decide +kernel
theorem zd_K_makeKeys_37 : decode zc_K_makeKeys 37 = .ok (.invokevirtual 155, 3) := by decide +kernel
theorem zd_K_makeKeys_40 : decode zc_K_makeKeys 40 = .ok (.aload_n 0, 1) := by decide +kernel
theorem zd_K_makeKeys_41 : decode zc_K_makeKeys 41 = .ok (.getfield 56, 3) := by decide +kernel
theorem zd_K_makeKeys_44 : decode zc_K_makeKeys 44 = .ok (.bipush 65, 2) := by decide +kernel
theorem zd_K_makeKeys_46 : decode zc_K_makeKeys 46 = .ok (.iload_n 2, 1) := by decide +kernel
theorem zd_K_makeKeys_47 : decode zc_K_makeKeys 47 = .ok (.iadd, 1) := by decide +kernel
theorem zd_K_makeKeys_48 : decode zc_K_makeKeys 48 = .ok (.bipush 24, 2) := by decide +kernel
theorem zd_K_makeKeys_50 : decode zc_K_makeKeys 50 = .ok (.ishl, 1) := by decide +kernel
theorem zd_K_makeKeys_51 : decode zc_K_makeKeys 51 = .ok (.bipush 8, 2) := by decide +kernel
theorem zd_K_makeKeys_53 : decode zc_K_makeKeys 53 = .ok (.aload_n 0, 1) := by decide +kernel
theorem zd_K_makeKeys_54 : decode zc_K_makeKeys 54 = .ok (.getfield 27, 3) := by decide +kernel
theorem zd_K_makeKeys_57 : decode zc_K_makeKeys 57 = .ok (.iload_n 1, 1) := by decide +kernel
theorem zd_K_makeKeys_58 : decode zc_K_makeKeys 58 = .ok (.aaload, 1) := by decide +kernel
theorem zd_K_makeKeys_59 : decode zc_K_makeKeys 59 = .ok (.bipush 8, 2) := by decide +kernel
theorem zd_K_makeKeys_61 : decode zc_K_makeKeys 61 = .ok (.iload_n 2, 1) := by decide +kernel
theorem zd_K_makeKeys_62 : decode zc_K_makeKeys 62 = .ok (.imul, 1) := by decide +kernel
theorem zd_K_makeKeys_63 : decode zc_K_makeKeys 63 = .ok (.invokevirtual 158, 3) := by decide +kernel
theorem zd_K_makeKeys_66 : decode zc_K_makeKeys 66 = .ok (.iinc 2 1, 3) := by decide +kernel
theorem zd_K_makeKeys_69 : decode zc_K_makeKeys 69 = .ok (.goto (-67), 3) := by decide +kernel
theorem zd_K_makeKeys_72 : decode zc_K_makeKeys 72 = .ok (.return_, 1) := by decide +kernel
theorem zd_K_state_0 : decode zc_K_state 0 = .ok (.aload_n 0, 1) := by decide +kernel
theorem zd_K_state_1 : decode zc_K_state 1 = .ok (.getfield 60, 3) := by decide +kernel
theorem zd_K_state_4 : decode zc_K_state 4 = .ok (.ireturn, 1) := by decide +kernel
theorem zd_K_begin_0 : decode zc_K_begin 0 = .ok (.aload_n 0, 1) := by decide +kernel
theorem zd_K_begin_1 : decode zc_K_begin 1 = .ok (.iconst 0, 1) := by decide +kernel
theorem zd_K_begin_2 : decode zc_K_begin 2 = .ok (.putfield 60, 3) := by decide +kernel
theorem zd_K_begin_5 : decode zc_K_begin 5 = .ok (.return_, 1) := by decide +kernel
theorem zd_K_number_0 : decode zc_K_number 0 = .ok (.iload_n 1, 1) := by decide +kernel
theorem zd_K_number_1 : decode zc_K_number 1 = .ok (.bipush 7, 2) := by decide +kernel
theorem zd_K_number_3 : decode zc_K_number 3 = .ok (.invokestatic 64, 3) := by decide +kernel
theorem zd_K_number_6 : decode zc_K_number 6 = .ok (.iload_n 2, 1) := by decide +kernel
theorem zd_K_number_7 : decode zc_K_number 7 = .ok (.bipush 8, 2) := by decide +kernel
theorem zd_K_number_9 : decode zc_K_number 9 = .ok (.invokestatic 64, 3) := by decide +kernel
theorem zd_K_number_12 : decode zc_K_number 12 = .ok (.aload_n 0, 1) := by decide +kernel
theorem zd_K_number_13 : decode zc_K_number 13 = .ok (.getfield 11, 3) := by decide +kernel
theorem zd_K_number_16 : decode zc_K_number 16 = .ok (.iload_n 1, 1) := by decide +kernel
theorem zd_K_number_17 : decode zc_K_number 17 = .ok (.aaload, 1) := by decide +kernel
theorem zd_K_number_18 : decode zc_K_number 18 = .ok (.iload_n 2, 1) := by decide +kernel
theorem zd_K_number_19 : decode zc_K_number 19 = .ok (.iload_n 3, 1) := by decide +kernel
theorem zd_K_number_20 : decode zc_K_number 20 = .ok (.iastore, 1) := by decide +kernel
theorem zd_K_number_21 : decode zc_K_number 21 = .ok (.return_, 1) := by decide +kernel
theorem zd_K_needIndex_0 : decode zc_K_needIndex 0 = .ok (.iload_n 0, 1) := by decide +kernel
theorem zd_K_needIndex_1 : decode zc_K_needIndex 1 = .ok (.ifCond .lt 8, 3) := by decide +kernel
theorem zd_K_needIndex_4 : decode zc_K_needIndex 4 = .ok (.iload_n 0, 1) := by decide +kernel
theorem zd_K_needIndex_5 : decode zc_K_needIndex 5 = .ok (.iload_n 1, 1) := by decide +kernel
theorem zd_K_needIndex_6 : decode zc_K_needIndex 6 = .ok (.if_icmp .lt 13, 3) := by decide +kernel
theorem zd_K_needIndex_9 : decode zc_K_needIndex 9 = .ok (.new 139, 3) := by decide +kernel
theorem zd_K_needIndex_12 : decode zc_K_needIndex 12 = .ok (.dup, 1) := by decide +kernel
theorem zd_K_needIndex_13 : decode zc_K_needIndex 13 = .ok (.ldc 141, 2) := by decide +kernel
theorem zd_K_needIndex_15 : decode zc_K_needIndex 15 = .ok (.invokespecial 143, 3) := by decide +kernel
theorem zd_K_needIndex_18 : decode zc_K_needIndex 18 = .ok (.athrow, 1) := by decide +kernel
theorem zd_K_needIndex_19 : decode zc_K_needIndex 19 = .ok (.return_, 1) := by decide +kernel
theorem zd_K_small_0 : decode zc_K_small 0 = .ok (.iload_n 1, 1) := by decide +kernel
theorem zd_K_small_1 : decode zc_K_small 1 = .ok (.bipush 7, 2) := by decide +kernel
theorem zd_K_small_3 : decode zc_K_small 3 = .ok (.invokestatic 64, 3) := by decide +kernel
theorem zd_K_small_6 : decode zc_K_small 6 = .ok (.lload_n 2, 1) := by decide +kernel
theorem zd_K_small_7 : decode zc_K_small 7 = .ok (.lconst 0, 1) := by decide +kernel
theorem zd_K_small_8 : decode zc_K_small 8 = .ok (.lcmp, 1) := by decide +kernel
theorem zd_K_small_9 : decode zc_K_small 9 = .ok (.ifCond .ge 13, 3) := by decide +kernel
theorem zd_K_small_12 : decode zc_K_small 12 = .ok (.new 68, 3) := by decide +kernel
theorem zd_K_small_15 : decode zc_K_small 15 = .ok (.dup, 1) := by decide +kernel
theorem zd_K_small_16 : decode zc_K_small 16 = .ok (.ldc 70, 2) := by decide +kernel
theorem zd_K_small_18 : decode zc_K_small 18 = .ok (.invokespecial 72, 3) := by decide +kernel
theorem zd_K_small_21 : decode zc_K_small 21 = .ok (.athrow, 1) := by decide +kernel
theorem zd_K_small_22 : decode zc_K_small 22 = .ok (.aload_n 0, 1) := by decide +kernel
theorem zd_K_small_23 : decode zc_K_small 23 = .ok (.getfield 11, 3) := by decide +kernel
theorem zd_K_small_26 : decode zc_K_small 26 = .ok (.iload_n 1, 1) := by decide +kernel
theorem zd_K_small_27 : decode zc_K_small 27 = .ok (.aaload, 1) := by decide +kernel
theorem zd_K_small_28 : decode zc_K_small 28 = .ok (.iconst 0, 1) := by decide +kernel
theorem zd_K_small_29 : decode zc_K_small 29 = .ok (.invokestatic 75, 3) := by decide +kernel
theorem zd_K_small_32 : decode zc_K_small 32 = .ok (.aload_n 0, 1) := by decide +kernel
theorem zd_K_small_33 : decode zc_K_small 33 = .ok (.getfield 11, 3) := by decide +kernel
theorem zd_K_small_36 : decode zc_K_small 36 = .ok (.iload_n 1, 1) := by decide +kernel
theorem zd_K_small_37 : decode zc_K_small 37 = .ok (.aaload, 1) := by decide +kernel
theorem zd_K_small_38 : decode zc_K_small 38 = .ok (.bipush 6, 2) := by decide +kernel
theorem zd_K_small_40 : decode zc_K_small 40 = .ok (.lload_n 2, 1) := by decide +kernel
theorem zd_K_small_41 : decode zc_K_small 41 = .ok (.bipush 32, 2) := by decide +kernel
theorem zd_K_small_43 : decode zc_K_small 43 = .ok (.lushr, 1) := by decide +kernel
theorem zd_K_small_44 : decode zc_K_small 44 = .ok (.l2i, 1) := by decide +kernel
theorem zd_K_small_45 : decode zc_K_small 45 = .ok (.iastore, 1) := by decide +kernel
theorem zd_K_small_46 : decode zc_K_small 46 = .ok (.aload_n 0, 1) := by decide +kernel
theorem zd_K_small_47 : decode zc_K_small 47 = .ok (.getfield 11, 3) := by decide +kernel
theorem zd_K_small_50 : decode zc_K_small 50 = .ok (.iload_n 1, 1) := by decide +kernel
theorem zd_K_small_51 : decode zc_K_small 51 = .ok (.aaload, 1) := by decide +kernel
theorem zd_K_small_52 : decode zc_K_small 52 = .ok (.bipush 7, 2) := by decide +kernel
theorem zd_K_small_54 : decode zc_K_small 54 = .ok (.lload_n 2, 1) := by decide +kernel
theorem zd_K_small_55 : decode zc_K_small 55 = .ok (.l2i, 1) := by decide +kernel
theorem zd_K_small_56 : decode zc_K_small 56 = .ok (.iastore, 1) := by decide +kernel
theorem zd_K_small_57 : decode zc_K_small 57 = .ok (.return_, 1) := by decide +kernel
theorem zd_K_alter_0 : decode zc_K_alter 0 = .ok (.iload_n 1, 1) := by decide +kernel
theorem zd_K_alter_1 : decode zc_K_alter 1 = .ok (.iconst 4, 1) := by decide +kernel
theorem zd_K_alter_2 : decode zc_K_alter 2 = .ok (.invokestatic 64, 3) := by decide +kernel
theorem zd_K_alter_5 : decode zc_K_alter 5 = .ok (.iload_n 2, 1) := by decide +kernel
theorem zd_K_alter_6 : decode zc_K_alter 6 = .ok (.bipush 8, 2) := by decide +kernel
theorem zd_K_alter_8 : decode zc_K_alter 8 = .ok (.invokestatic 64, 3) := by decide +kernel
theorem zd_K_alter_11 : decode zc_K_alter 11 = .ok (.iload_n 1, 1) := by decide +kernel
theorem zd_K_alter_12 : decode zc_K_alter 12 = .ok (.ifCond .ne 7, 3) := by decide +kernel
theorem zd_K_alter_15 : decode zc_K_alter 15 = .ok (.iconst 1, 1) := by decide +kernel
theorem zd_K_alter_16 : decode zc_K_alter 16 = .ok (.goto 4, 3) := by decide +kernel
theorem zd_K_alter_19 : decode zc_K_alter 19 = .ok (.iconst 2, 1) := by decide +kernel
theorem zd_K_alter_20 : decode zc_K_alter 20 = .ok (.istore 4, 2) := by decide +kernel
theorem zd_K_alter_22 : decode zc_K_alter 22 = .ok (.aload_n 0, 1) := by decide +kernel
theorem zd_K_alter_23 : decode zc_K_alter 23 = .ok (.getfield 60, 3) := by decide +kernel
theorem zd_K_alter_26 : decode zc_K_alter 26 = .ok (.iload 4, 2) := by decide +kernel
theorem zd_K_alter_28 : decode zc_K_alter 28 = .ok (.if_icmp .eq 5, 3) := by decide +kernel
theorem zd_K_alter_31 : decode zc_K_alter 31 = .ok (.iconst 0, 1) := by decide +kernel
theorem zd_K_alter_32 : decode zc_K_alter 32 = .ok (.ireturn, 1) := by decide +kernel
theorem zd_K_alter_33 : decode zc_K_alter 33 = .ok (.aload_n 0, 1) := by decide +kernel
theorem zd_K_alter_34 : decode zc_K_alter 34 = .ok (.getfield 14, 3) := by decide +kernel
theorem zd_K_alter_37 : decode zc_K_alter 37 = .ok (.iload_n 1, 1) := by decide +kernel
theorem zd_K_alter_38 : decode zc_K_alter 38 = .ok (.aaload, 1) := by decide +kernel
theorem zd_K_alter_39 : decode zc_K_alter 39 = .ok (.iload_n 2, 1) := by decide +kernel
theorem zd_K_alter_40 : decode zc_K_alter 40 = .ok (.dup2, 1) := by decide +kernel
theorem zd_K_alter_41 : decode zc_K_alter 41 = .ok (.iaload, 1) := by decide +kernel
theorem zd_K_alter_42 : decode zc_K_alter 42 = .ok (.iload_n 3, 1) := by decide +kernel
theorem zd_K_alter_43 : decode zc_K_alter 43 = .ok (.ixor, 1) := by decide +kernel
theorem zd_K_alter_44 : decode zc_K_alter 44 = .ok (.iastore, 1) := by decide +kernel
theorem zd_K_alter_45 : decode zc_K_alter 45 = .ok (.iconst 1, 1) := by decide +kernel
theorem zd_K_alter_46 : decode zc_K_alter 46 = .ok (.ireturn, 1) := by decide +kernel
theorem zd_K_sent_0 : decode zc_K_sent 0 = .ok (.iload_n 1, 1) := by decide +kernel
theorem zd_K_sent_1 : decode zc_K_sent 1 = .ok (.iconst 4, 1) := by decide +kernel
theorem zd_K_sent_2 : decode zc_K_sent 2 = .ok (.invokestatic 64, 3) := by decide +kernel
theorem zd_K_sent_5 : decode zc_K_sent 5 = .ok (.iload_n 2, 1) := by decide +kernel
theorem zd_K_sent_6 : decode zc_K_sent 6 = .ok (.bipush 8, 2) := by decide +kernel
theorem zd_K_sent_8 : decode zc_K_sent 8 = .ok (.invokestatic 64, 3) := by decide +kernel
theorem zd_K_sent_11 : decode zc_K_sent 11 = .ok (.aload_n 0, 1) := by decide +kernel
theorem zd_K_sent_12 : decode zc_K_sent 12 = .ok (.getfield 14, 3) := by decide +kernel
theorem zd_K_sent_15 : decode zc_K_sent 15 = .ok (.iload_n 1, 1) := by decide +kernel
theorem zd_K_sent_16 : decode zc_K_sent 16 = .ok (.aaload, 1) := by decide +kernel
theorem zd_K_sent_17 : decode zc_K_sent 17 = .ok (.iload_n 2, 1) := by decide +kernel
theorem zd_K_sent_18 : decode zc_K_sent 18 = .ok (.iaload, 1) := by decide +kernel
theorem zd_K_sent_19 : decode zc_K_sent 19 = .ok (.ireturn, 1) := by decide +kernel
theorem zd_K_key_0 : decode zc_K_key 0 = .ok (.iload_n 1, 1) := by decide +kernel
theorem zd_K_key_1 : decode zc_K_key 1 = .ok (.iconst 2, 1) := by decide +kernel
theorem zd_K_key_2 : decode zc_K_key 2 = .ok (.invokestatic 64, 3) := by decide +kernel
theorem zd_K_key_5 : decode zc_K_key 5 = .ok (.iload_n 2, 1) := by decide +kernel
theorem zd_K_key_6 : decode zc_K_key 6 = .ok (.bipush 16, 2) := by decide +kernel
theorem zd_K_key_8 : decode zc_K_key 8 = .ok (.invokestatic 64, 3) := by decide +kernel
theorem zd_K_key_11 : decode zc_K_key 11 = .ok (.aload_n 0, 1) := by decide +kernel
theorem zd_K_key_12 : decode zc_K_key 12 = .ok (.getfield 60, 3) := by decide +kernel
theorem zd_K_key_15 : decode zc_K_key 15 = .ok (.iconst 3, 1) := by decide +kernel
theorem zd_K_key_16 : decode zc_K_key 16 = .ok (.if_icmp .eq 13, 3) := by decide +kernel
theorem zd_K_key_19 : decode zc_K_key 19 = .ok (.new 128, 3) := by decide +kernel
theorem zd_K_key_22 : decode zc_K_key 22 = .ok (.dup, 1) := by decide +kernel
theorem zd_K_key_23 : decode zc_K_key 23 = .ok (.ldc 130, 2) := by decide +kernel
theorem zd_K_key_25 : decode zc_K_key 25 = .ok (.invokespecial 132, 3) := by decide +kernel
theorem zd_K_key_28 : decode zc_K_key 28 = .ok (.athrow, 1) := by decide +kernel
theorem zd_K_key_29 : decode zc_K_key 29 = .ok (.aload_n 0, 1) := by decide +kernel
theorem zd_K_key_30 : decode zc_K_key 30 = .ok (.getfield 27, 3) := by decide +kernel
theorem zd_K_key_33 : decode zc_K_key 33 = .ok (.iload_n 1, 1) := by decide +kernel
theorem zd_K_key_34 : decode zc_K_key 34 = .ok (.aaload, 1) := by decide +kernel
theorem zd_K_key_35 : decode zc_K_key 35 = .ok (.iload_n 2, 1) := by decide +kernel
theorem zd_K_key_36 : decode zc_K_key 36 = .ok (.iaload, 1) := by decide +kernel
theorem zd_K_key_37 : decode zc_K_key 37 = .ok (.ireturn, 1) := by decide +kernel
theorem zd_K_secret_0 : decode zc_K_secret 0 = .ok (.iload_n 1, 1) := by decide +kernel
theorem zd_K_secret_1 : decode zc_K_secret 1 = .ok (.bipush 8, 2) := by decide +kernel
theorem zd_K_secret_3 : decode zc_K_secret 3 = .ok (.invokestatic 64, 3) := by decide +kernel
theorem zd_K_secret_6 : decode zc_K_secret 6 = .ok (.aload_n 0, 1) := by decide +kernel
theorem zd_K_secret_7 : decode zc_K_secret 7 = .ok (.getfield 42, 3) := by decide +kernel
theorem zd_K_secret_10 : decode zc_K_secret 10 = .ok (.aload_n 0, 1) := by decide +kernel
theorem zd_K_secret_11 : decode zc_K_secret 11 = .ok (.getfield 11, 3) := by decide +kernel
theorem zd_K_secret_14 : decode zc_K_secret 14 = .ok (.iconst 2, 1) := by decide +kernel
theorem zd_K_secret_15 : decode zc_K_secret 15 = .ok (.aaload, 1) := by decide +kernel
theorem zd_K_secret_16 : decode zc_K_secret 16 = .ok (.aload_n 0, 1) := by decide +kernel
theorem zd_K_secret_17 : decode zc_K_secret 17 = .ok (.getfield 11, 3) := by decide +kernel
theorem zd_K_secret_20 : decode zc_K_secret 20 = .ok (.iconst 3, 1) := by decide +kernel
theorem zd_K_secret_21 : decode zc_K_secret 21 = .ok (.aaload, 1) := by decide +kernel
theorem zd_K_secret_22 : decode zc_K_secret 22 = .ok (.invokevirtual 133, 3) := by decide +kernel
theorem zd_K_secret_25 : decode zc_K_secret 25 = .ok (.ifCond .eq 15, 3) := by decide +kernel
theorem zd_K_secret_28 : decode zc_K_secret 28 = .ok (.aload_n 0, 1) := by decide +kernel
theorem zd_K_secret_29 : decode zc_K_secret 29 = .ok (.getfield 42, 3) := by decide +kernel
theorem zd_K_secret_32 : decode zc_K_secret 32 = .ok (.getfield 136, 3) := by decide +kernel
theorem zd_K_secret_35 : decode zc_K_secret 35 = .ok (.iload_n 1, 1) := by decide +kernel
theorem zd_K_secret_36 : decode zc_K_secret 36 = .ok (.iaload, 1) := by decide +kernel
theorem zd_K_secret_37 : decode zc_K_secret 37 = .ok (.goto 4, 3) := by decide +kernel
theorem zd_K_secret_40 : decode zc_K_secret 40 = .ok (.iconst 0, 1) := by decide +kernel
theorem zd_K_secret_41 : decode zc_K_secret 41 = .ok (.ireturn, 1) := by decide +kernel
