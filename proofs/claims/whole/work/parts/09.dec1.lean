theorem dX0_init_0 : decode cX0_init 0 = .ok (.aload_n 0, 1) := by decide +kernel
theorem dX0_init_1 : decode cX0_init 1 = .ok (.invokespecial 3, 3) := by decide +kernel
theorem dX0_init_4 : decode cX0_init 4 = .ok (.aload_n 0, 1) := by decide +kernel
theorem dX0_init_5 : decode cX0_init 5 = .ok (.iconst 0, 1) := by decide +kernel
theorem dX0_init_6 : decode cX0_init 6 = .ok (.putfield 9, 3) := by decide +kernel
theorem dX0_init_9 : decode cX0_init 9 = .ok (.aload_n 0, 1) := by decide +kernel
theorem dX0_init_10 : decode cX0_init 10 = .ok (.iconst 0, 1) := by decide +kernel
theorem dX0_init_11 : decode cX0_init 11 = .ok (.putfield 15, 3) := by decide +kernel
theorem dX0_init_14 : decode cX0_init 14 = .ok (.aload_n 0, 1) := by decide +kernel
theorem dX0_init_15 : decode cX0_init 15 = .ok (.iconst 0, 1) := by decide +kernel
theorem dX0_init_16 : decode cX0_init 16 = .ok (.putfield 18, 3) := by decide +kernel
theorem dX0_init_19 : decode cX0_init 19 = .ok (.aload_n 0, 1) := by decide +kernel
theorem dX0_init_20 : decode cX0_init 20 = .ok (.bipush 8, 2) := by decide +kernel
theorem dX0_init_22 : decode cX0_init 22 = .ok (.newarray .int, 2) := by decide +kernel
theorem dX0_init_24 : decode cX0_init 24 = .ok (.putfield 21, 3) := by decide +kernel
theorem dX0_init_27 : decode cX0_init 27 = .ok (.return_, 1) := by decide +kernel
theorem dX0_clear_0 : decode cX0_clear 0 = .ok (.aload_n 0, 1) := by decide +kernel
theorem dX0_clear_1 : decode cX0_clear 1 = .ok (.getfield 21, 3) := by decide +kernel
theorem dX0_clear_4 : decode cX0_clear 4 = .ok (.iconst (-1), 1) := by decide +kernel
theorem dX0_clear_5 : decode cX0_clear 5 = .ok (.invokestatic 25, 3) := by decide +kernel
theorem dX0_clear_8 : decode cX0_clear 8 = .ok (.return_, 1) := by decide +kernel
theorem dX0_offer_0 : decode cX0_offer 0 = .ok (.aload_n 1, 1) := by decide +kernel
theorem dX0_offer_1 : decode cX0_offer 1 = .ok (.getfield 31, 3) := by decide +kernel
theorem dX0_offer_4 : decode cX0_offer 4 = .ok (.iload_n 2, 1) := by decide +kernel
theorem dX0_offer_5 : decode cX0_offer 5 = .ok (.iaload, 1) := by decide +kernel
theorem dX0_offer_6 : decode cX0_offer 6 = .ok (.istore_n 3, 1) := by decide +kernel
theorem dX0_offer_7 : decode cX0_offer 7 = .ok (.aload_n 0, 1) := by decide +kernel
theorem dX0_offer_8 : decode cX0_offer 8 = .ok (.getfield 21, 3) := by decide +kernel
theorem dX0_offer_11 : decode cX0_offer 11 = .ok (.iload_n 3, 1) := by decide +kernel
theorem dX0_offer_12 : decode cX0_offer 12 = .ok (.iaload, 1) := by decide +kernel
theorem dX0_offer_13 : decode cX0_offer 13 = .ok (.iconst (-1), 1) := by decide +kernel
theorem dX0_offer_14 : decode cX0_offer 14 = .ok (.if_icmp .eq 23, 3) := by decide +kernel
theorem dX0_offer_17 : decode cX0_offer 17 = .ok (.aload_n 1, 1) := by decide +kernel
theorem dX0_offer_18 : decode cX0_offer 18 = .ok (.getfield 36, 3) := by decide +kernel
theorem dX0_offer_21 : decode cX0_offer 21 = .ok (.iload_n 2, 1) := by decide +kernel
theorem dX0_offer_22 : decode cX0_offer 22 = .ok (.iaload, 1) := by decide +kernel
theorem dX0_offer_23 : decode cX0_offer 23 = .ok (.aload_n 1, 1) := by decide +kernel
theorem dX0_offer_24 : decode cX0_offer 24 = .ok (.getfield 36, 3) := by decide +kernel
theorem dX0_offer_27 : decode cX0_offer 27 = .ok (.aload_n 0, 1) := by decide +kernel
theorem dX0_offer_28 : decode cX0_offer 28 = .ok (.getfield 21, 3) := by decide +kernel
theorem dX0_offer_31 : decode cX0_offer 31 = .ok (.iload_n 3, 1) := by decide +kernel
theorem dX0_offer_32 : decode cX0_offer 32 = .ok (.iaload, 1) := by decide +kernel
theorem dX0_offer_33 : decode cX0_offer 33 = .ok (.iaload, 1) := by decide +kernel
theorem dX0_offer_34 : decode cX0_offer 34 = .ok (.if_icmp .ge 10, 3) := by decide +kernel
theorem dX0_offer_37 : decode cX0_offer 37 = .ok (.aload_n 0, 1) := by decide +kernel
theorem dX0_offer_38 : decode cX0_offer 38 = .ok (.getfield 21, 3) := by decide +kernel
theorem dX0_offer_41 : decode cX0_offer 41 = .ok (.iload_n 3, 1) := by decide +kernel
theorem dX0_offer_42 : decode cX0_offer 42 = .ok (.iload_n 2, 1) := by decide +kernel
theorem dX0_offer_43 : decode cX0_offer 43 = .ok (.iastore, 1) := by decide +kernel
theorem dX0_offer_44 : decode cX0_offer 44 = .ok (.return_, 1) := by decide +kernel
theorem dX0_choose_0 : decode cX0_choose 0 = .ok (.aload_n 0, 1) := by decide +kernel
theorem dX0_choose_1 : decode cX0_choose 1 = .ok (.iconst 0, 1) := by decide +kernel
theorem dX0_choose_2 : decode cX0_choose 2 = .ok (.putfield 9, 3) := by decide +kernel
theorem dX0_choose_5 : decode cX0_choose 5 = .ok (.aload_n 0, 1) := by decide +kernel
theorem dX0_choose_6 : decode cX0_choose 6 = .ok (.iconst 0, 1) := by decide +kernel
theorem dX0_choose_7 : decode cX0_choose 7 = .ok (.putfield 15, 3) := by decide +kernel
theorem dX0_choose_10 : decode cX0_choose 10 = .ok (.aload_n 0, 1) := by decide +kernel
theorem dX0_choose_11 : decode cX0_choose 11 = .ok (.iconst 0, 1) := by decide +kernel
theorem dX0_choose_12 : decode cX0_choose 12 = .ok (.putfield 18, 3) := by decide +kernel
theorem dX0_choose_15 : decode cX0_choose 15 = .ok (.iconst 1, 1) := by decide +kernel
theorem dX0_choose_16 : decode cX0_choose 16 = .ok (.istore 4, 2) := by decide +kernel
theorem dX0_choose_18 : decode cX0_choose 18 = .ok (.iload 4, 2) := by decide +kernel
theorem dX0_choose_20 : decode cX0_choose 20 = .ok (.sipush 256, 3) := by decide +kernel
theorem dX0_choose_23 : decode cX0_choose 23 = .ok (.if_icmp .ge 141, 3) := by decide +kernel
theorem dX0_choose_26 : decode cX0_choose 26 = .ok (.iconst 0, 1) := by decide +kernel
theorem dX0_choose_27 : decode cX0_choose 27 = .ok (.istore 5, 2) := by decide +kernel
theorem dX0_choose_29 : decode cX0_choose 29 = .ok (.iconst 0, 1) := by decide +kernel
theorem dX0_choose_30 : decode cX0_choose 30 = .ok (.istore 6, 2) := by decide +kernel
theorem dX0_choose_32 : decode cX0_choose 32 = .ok (.iconst 0, 1) := by decide +kernel
theorem dX0_choose_33 : decode cX0_choose 33 = .ok (.istore 7, 2) := by decide +kernel
theorem dX0_choose_35 : decode cX0_choose 35 = .ok (.iconst 0, 1) := by decide +kernel
theorem dX0_choose_36 : decode cX0_choose 36 = .ok (.istore 8, 2) := by decide +kernel
theorem dX0_choose_38 : decode cX0_choose 38 = .ok (.iload 8, 2) := by decide +kernel
theorem dX0_choose_40 : decode cX0_choose 40 = .ok (.bipush 8, 2) := by decide +kernel
theorem dX0_choose_42 : decode cX0_choose 42 = .ok (.if_icmp .ge 79, 3) := by decide +kernel
theorem dX0_choose_45 : decode cX0_choose 45 = .ok (.aload_n 0, 1) := by decide +kernel
theorem dX0_choose_46 : decode cX0_choose 46 = .ok (.getfield 21, 3) := by decide +kernel
theorem dX0_choose_49 : decode cX0_choose 49 = .ok (.iload 8, 2) := by decide +kernel
theorem dX0_choose_51 : decode cX0_choose 51 = .ok (.iaload, 1) := by decide +kernel
theorem dX0_choose_52 : decode cX0_choose 52 = .ok (.istore 9, 2) := by decide +kernel
theorem dX0_choose_54 : decode cX0_choose 54 = .ok (.iload 4, 2) := by decide +kernel
theorem dX0_choose_56 : decode cX0_choose 56 = .ok (.iload 8, 2) := by decide +kernel
theorem dX0_choose_58 : decode cX0_choose 58 = .ok (.ishr, 1) := by decide +kernel
theorem dX0_choose_59 : decode cX0_choose 59 = .ok (.iconst 1, 1) := by decide +kernel
theorem dX0_choose_60 : decode cX0_choose 60 = .ok (.iand, 1) := by decide +kernel
theorem dX0_choose_61 : decode cX0_choose 61 = .ok (.iconst 1, 1) := by decide +kernel
theorem dX0_choose_62 : decode cX0_choose 62 = .ok (.if_icmp .ne 53, 3) := by decide +kernel
theorem dX0_choose_65 : decode cX0_choose 65 = .ok (.iload 9, 2) := by decide +kernel
theorem dX0_choose_67 : decode cX0_choose 67 = .ok (.iconst (-1), 1) := by decide +kernel
theorem dX0_choose_68 : decode cX0_choose 68 = .ok (.if_icmp .eq 47, 3) := by decide +kernel
theorem dX0_choose_71 : decode cX0_choose 71 = .ok (.iload 5, 2) := by decide +kernel
theorem dX0_choose_73 : decode cX0_choose 73 = .ok (.aload_n 1, 1) := by decide +kernel
theorem dX0_choose_74 : decode cX0_choose 74 = .ok (.getfield 39, 3) := by decide +kernel
theorem dX0_choose_77 : decode cX0_choose 77 = .ok (.getfield 45, 3) := by decide +kernel
theorem dX0_choose_80 : decode cX0_choose 80 = .ok (.iload_n 2, 1) := by decide +kernel
theorem dX0_choose_81 : decode cX0_choose 81 = .ok (.bipush 8, 2) := by decide +kernel
theorem dX0_choose_83 : decode cX0_choose 83 = .ok (.imul, 1) := by decide +kernel
theorem dX0_choose_84 : decode cX0_choose 84 = .ok (.iload 8, 2) := by decide +kernel
theorem dX0_choose_86 : decode cX0_choose 86 = .ok (.iadd, 1) := by decide +kernel
theorem dX0_choose_87 : decode cX0_choose 87 = .ok (.iaload, 1) := by decide +kernel
theorem dX0_choose_88 : decode cX0_choose 88 = .ok (.iadd, 1) := by decide +kernel
theorem dX0_choose_89 : decode cX0_choose 89 = .ok (.istore 5, 2) := by decide +kernel
theorem dX0_choose_91 : decode cX0_choose 91 = .ok (.iload 6, 2) := by decide +kernel
theorem dX0_choose_93 : decode cX0_choose 93 = .ok (.aload_n 1, 1) := by decide +kernel
theorem dX0_choose_94 : decode cX0_choose 94 = .ok (.getfield 50, 3) := by decide +kernel
theorem dX0_choose_97 : decode cX0_choose 97 = .ok (.getfield 36, 3) := by decide +kernel
theorem dX0_choose_100 : decode cX0_choose 100 = .ok (.iload 9, 2) := by decide +kernel
theorem dX0_choose_102 : decode cX0_choose 102 = .ok (.iaload, 1) := by decide +kernel
theorem dX0_choose_103 : decode cX0_choose 103 = .ok (.iadd, 1) := by decide +kernel
theorem dX0_choose_104 : decode cX0_choose 104 = .ok (.istore 6, 2) := by decide +kernel
theorem dX0_choose_106 : decode cX0_choose 106 = .ok (.iload 7, 2) := by decide +kernel
theorem dX0_choose_108 : decode cX0_choose 108 = .ok (.iconst 1, 1) := by decide +kernel
theorem dX0_choose_109 : decode cX0_choose 109 = .ok (.iload 9, 2) := by decide +kernel
theorem dX0_choose_111 : decode cX0_choose 111 = .ok (.ishl, 1) := by decide +kernel
theorem dX0_choose_112 : decode cX0_choose 112 = .ok (.ior, 1) := by decide +kernel
theorem dX0_choose_113 : decode cX0_choose 113 = .ok (.istore 7, 2) := by decide +kernel
theorem dX0_choose_115 : decode cX0_choose 115 = .ok (.iinc 8 1, 3) := by decide +kernel
theorem dX0_choose_118 : decode cX0_choose 118 = .ok (.goto (-80), 3) := by decide +kernel
theorem dX0_choose_121 : decode cX0_choose 121 = .ok (.iload 6, 2) := by decide +kernel
theorem dX0_choose_123 : decode cX0_choose 123 = .ok (.iload_n 3, 1) := by decide +kernel
theorem dX0_choose_124 : decode cX0_choose 124 = .ok (.if_icmp .gt 34, 3) := by decide +kernel
theorem dX0_choose_127 : decode cX0_choose 127 = .ok (.aload_n 0, 1) := by decide +kernel
theorem dX0_choose_128 : decode cX0_choose 128 = .ok (.iload 5, 2) := by decide +kernel
theorem dX0_choose_130 : decode cX0_choose 130 = .ok (.iload 6, 2) := by decide +kernel
theorem dX0_choose_132 : decode cX0_choose 132 = .ok (.iload 7, 2) := by decide +kernel
theorem dX0_choose_134 : decode cX0_choose 134 = .ok (.invokevirtual 54, 3) := by decide +kernel
theorem dX0_choose_137 : decode cX0_choose 137 = .ok (.ifCond .eq 21, 3) := by decide +kernel
theorem dX0_choose_140 : decode cX0_choose 140 = .ok (.aload_n 0, 1) := by decide +kernel
theorem dX0_choose_141 : decode cX0_choose 141 = .ok (.iload 5, 2) := by decide +kernel
theorem dX0_choose_143 : decode cX0_choose 143 = .ok (.putfield 9, 3) := by decide +kernel
theorem dX0_choose_146 : decode cX0_choose 146 = .ok (.aload_n 0, 1) := by decide +kernel
theorem dX0_choose_147 : decode cX0_choose 147 = .ok (.iload 6, 2) := by decide +kernel
theorem dX0_choose_149 : decode cX0_choose 149 = .ok (.putfield 15, 3) := by decide +kernel
theorem dX0_choose_152 : decode cX0_choose 152 = .ok (.aload_n 0, 1) := by decide +kernel
theorem dX0_choose_153 : decode cX0_choose 153 = .ok (.iload 7, 2) := by decide +kernel
theorem dX0_choose_155 : decode cX0_choose 155 = .ok (.putfield 18, 3) := by decide +kernel
theorem dX0_choose_158 : decode cX0_choose 158 = .ok (.iinc 4 1, 3) := by decide +kernel
theorem dX0_choose_161 : decode cX0_choose 161 = .ok (.goto (-143), 3) := by decide +kernel
theorem dX0_choose_164 : decode cX0_choose 164 = .ok (.return_, 1) := by decide +kernel
theorem dX0_isBetter_0 : decode cX0_isBetter 0 = .ok (.iload_n 1, 1) := by decide +kernel
theorem dX0_isBetter_1 : decode cX0_isBetter 1 = .ok (.aload_n 0, 1) := by decide +kernel
theorem dX0_isBetter_2 : decode cX0_isBetter 2 = .ok (.getfield 9, 3) := by decide +kernel
theorem dX0_isBetter_5 : decode cX0_isBetter 5 = .ok (.if_icmp .eq 17, 3) := by decide +kernel
theorem dX0_isBetter_8 : decode cX0_isBetter 8 = .ok (.iload_n 1, 1) := by decide +kernel
theorem dX0_isBetter_9 : decode cX0_isBetter 9 = .ok (.aload_n 0, 1) := by decide +kernel
theorem dX0_isBetter_10 : decode cX0_isBetter 10 = .ok (.getfield 9, 3) := by decide +kernel
theorem dX0_isBetter_13 : decode cX0_isBetter 13 = .ok (.if_icmp .le 7, 3) := by decide +kernel
theorem dX0_isBetter_16 : decode cX0_isBetter 16 = .ok (.iconst 1, 1) := by decide +kernel
theorem dX0_isBetter_17 : decode cX0_isBetter 17 = .ok (.goto 4, 3) := by decide +kernel
theorem dX0_isBetter_20 : decode cX0_isBetter 20 = .ok (.iconst 0, 1) := by decide +kernel
theorem dX0_isBetter_21 : decode cX0_isBetter 21 = .ok (.ireturn, 1) := by decide +kernel
theorem dX0_isBetter_22 : decode cX0_isBetter 22 = .ok (.iload_n 2, 1) := by decide +kernel
theorem dX0_isBetter_23 : decode cX0_isBetter 23 = .ok (.aload_n 0, 1) := by decide +kernel
theorem dX0_isBetter_24 : decode cX0_isBetter 24 = .ok (.getfield 15, 3) := by decide +kernel
theorem dX0_isBetter_27 : decode cX0_isBetter 27 = .ok (.if_icmp .eq 19, 3) := by decide +kernel
theorem dX0_isBetter_30 : decode cX0_isBetter 30 = .ok (.iload_n 2, 1) := by decide +kernel
theorem dX0_isBetter_31 : decode cX0_isBetter 31 = .ok (.aload_n 0, 1) := by decide +kernel
theorem dX0_isBetter_32 : decode cX0_isBetter 32 = .ok (.getfield 15, 3) := by decide +kernel
theorem dX0_isBetter_35 : decode cX0_isBetter 35 = .ok (.if_icmp .ge 7, 3) := by decide +kernel
theorem dX0_isBetter_38 : decode cX0_isBetter 38 = .ok (.iconst 1, 1) := by decide +kernel
theorem dX0_isBetter_39 : decode cX0_isBetter 39 = .ok (.goto 20, 3) := by decide +kernel
theorem dX0_isBetter_42 : decode cX0_isBetter 42 = .ok (.iconst 0, 1) := by decide +kernel
theorem dX0_isBetter_43 : decode cX0_isBetter 43 = .ok (.goto 16, 3) := by decide +kernel
theorem dX0_isBetter_46 : decode cX0_isBetter 46 = .ok (.iload_n 3, 1) := by decide +kernel
theorem dX0_isBetter_47 : decode cX0_isBetter 47 = .ok (.aload_n 0, 1) := by decide +kernel
theorem dX0_isBetter_48 : decode cX0_isBetter 48 = .ok (.getfield 18, 3) := by decide +kernel
theorem dX0_isBetter_51 : decode cX0_isBetter 51 = .ok (.if_icmp .ge 7, 3) := by decide +kernel
theorem dX0_isBetter_54 : decode cX0_isBetter 54 = .ok (.iconst 1, 1) := by decide +kernel
theorem dX0_isBetter_55 : decode cX0_isBetter 55 = .ok (.goto 4, 3) := by decide +kernel
theorem dX0_isBetter_58 : decode cX0_isBetter 58 = .ok (.iconst 0, 1) := by decide +kernel
theorem dX0_isBetter_59 : decode cX0_isBetter 59 = .ok (.ireturn, 1) := by decide +kernel
theorem dX1_init_0 : decode cX1_init 0 = .ok (.aload_n 0, 1) := by decide +kernel
theorem dX1_init_1 : decode cX1_init 1 = .ok (.invokespecial 3, 3) := by decide +kernel
theorem dX1_init_4 : decode cX1_init 4 = .ok (.aload_n 0, 1) := by decide +kernel
theorem dX1_init_5 : decode cX1_init 5 = .ok (.iconst 0, 1) := by decide +kernel
theorem dX1_init_6 : decode cX1_init 6 = .ok (.putfield 9, 3) := by decide +kernel
theorem dX1_init_9 : decode cX1_init 9 = .ok (.aload_n 0, 1) := by decide +kernel
theorem dX1_init_10 : decode cX1_init 10 = .ok (.bipush 6, 2) := by decide +kernel
theorem dX1_init_12 : decode cX1_init 12 = .ok (.newarray .int, 2) := by decide +kernel
theorem dX1_init_14 : decode cX1_init 14 = .ok (.putfield 15, 3) := by decide +kernel
theorem dX1_init_17 : decode cX1_init 17 = .ok (.aload_n 0, 1) := by decide +kernel
theorem dX1_init_18 : decode cX1_init 18 = .ok (.bipush 6, 2) := by decide +kernel
theorem dX1_init_20 : decode cX1_init 20 = .ok (.newarray .int, 2) := by decide +kernel
theorem dX1_init_22 : decode cX1_init 22 = .ok (.putfield 19, 3) := by decide +kernel
theorem dX1_init_25 : decode cX1_init 25 = .ok (.aload_n 0, 1) := by decide +kernel
theorem dX1_init_26 : decode cX1_init 26 = .ok (.bipush 6, 2) := by decide +kernel
theorem dX1_init_28 : decode cX1_init 28 = .ok (.newarray .int, 2) := by decide +kernel
theorem dX1_init_30 : decode cX1_init 30 = .ok (.putfield 22, 3) := by decide +kernel
theorem dX1_init_33 : decode cX1_init 33 = .ok (.aload_n 0, 1) := by decide +kernel
theorem dX1_init_34 : decode cX1_init 34 = .ok (.bipush 48, 2) := by decide +kernel
theorem dX1_init_36 : decode cX1_init 36 = .ok (.newarray .int, 2) := by decide +kernel
theorem dX1_init_38 : decode cX1_init 38 = .ok (.putfield 25, 3) := by decide +kernel
theorem dX1_init_41 : decode cX1_init 41 = .ok (.aload_n 0, 1) := by decide +kernel
theorem dX1_init_42 : decode cX1_init 42 = .ok (.iconst 0, 1) := by decide +kernel
theorem dX1_init_43 : decode cX1_init 43 = .ok (.putfield 28, 3) := by decide +kernel
theorem dX1_init_46 : decode cX1_init 46 = .ok (.aload_n 0, 1) := by decide +kernel
theorem dX1_init_47 : decode cX1_init 47 = .ok (.bipush 60, 2) := by decide +kernel
theorem dX1_init_49 : decode cX1_init 49 = .ok (.newarray .int, 2) := by decide +kernel
theorem dX1_init_51 : decode cX1_init 51 = .ok (.putfield 31, 3) := by decide +kernel
theorem dX1_init_54 : decode cX1_init 54 = .ok (.aload_n 0, 1) := by decide +kernel
theorem dX1_init_55 : decode cX1_init 55 = .ok (.bipush 60, 2) := by decide +kernel
theorem dX1_init_57 : decode cX1_init 57 = .ok (.newarray .int, 2) := by decide +kernel
theorem dX1_init_59 : decode cX1_init 59 = .ok (.putfield 34, 3) := by decide +kernel
theorem dX1_init_62 : decode cX1_init 62 = .ok (.aload_n 0, 1) := by decide +kernel
theorem dX1_init_63 : decode cX1_init 63 = .ok (.bipush 60, 2) := by decide +kernel
theorem dX1_init_65 : decode cX1_init 65 = .ok (.newarray .int, 2) := by decide +kernel
theorem dX1_init_67 : decode cX1_init 67 = .ok (.putfield 37, 3) := by decide +kernel
theorem dX1_init_70 : decode cX1_init 70 = .ok (.aload_n 0, 1) := by decide +kernel
theorem dX1_init_71 : decode cX1_init 71 = .ok (.bipush 60, 2) := by decide +kernel
theorem dX1_init_73 : decode cX1_init 73 = .ok (.newarray .int, 2) := by decide +kernel
theorem dX1_init_75 : decode cX1_init 75 = .ok (.putfield 40, 3) := by decide +kernel
theorem dX1_init_78 : decode cX1_init 78 = .ok (.aload_n 0, 1) := by decide +kernel
theorem dX1_init_79 : decode cX1_init 79 = .ok (.bipush 60, 2) := by decide +kernel
theorem dX1_init_81 : decode cX1_init 81 = .ok (.newarray .int, 2) := by decide +kernel
theorem dX1_init_83 : decode cX1_init 83 = .ok (.putfield 43, 3) := by decide +kernel
theorem dX1_init_86 : decode cX1_init 86 = .ok (.return_, 1) := by decide +kernel
theorem dX1_hasCamp_0 : decode cX1_hasCamp 0 = .ok (.iload_n 1, 1) := by decide +kernel
theorem dX1_hasCamp_1 : decode cX1_hasCamp 1 = .ok (.ifCond .lt 15, 3) := by decide +kernel
theorem dX1_hasCamp_4 : decode cX1_hasCamp 4 = .ok (.iload_n 1, 1) := by decide +kernel
theorem dX1_hasCamp_5 : decode cX1_hasCamp 5 = .ok (.aload_n 0, 1) := by decide +kernel
theorem dX1_hasCamp_6 : decode cX1_hasCamp 6 = .ok (.getfield 9, 3) := by decide +kernel
theorem dX1_hasCamp_9 : decode cX1_hasCamp 9 = .ok (.if_icmp .ge 7, 3) := by decide +kernel
theorem dX1_hasCamp_12 : decode cX1_hasCamp 12 = .ok (.iconst 1, 1) := by decide +kernel
theorem dX1_hasCamp_13 : decode cX1_hasCamp 13 = .ok (.goto 4, 3) := by decide +kernel
theorem dX1_hasCamp_16 : decode cX1_hasCamp 16 = .ok (.iconst 0, 1) := by decide +kernel
theorem dX1_hasCamp_17 : decode cX1_hasCamp 17 = .ok (.ireturn, 1) := by decide +kernel
theorem dX1_addCamp_0 : decode cX1_addCamp 0 = .ok (.aload_n 0, 1) := by decide +kernel
theorem dX1_addCamp_1 : decode cX1_addCamp 1 = .ok (.getfield 9, 3) := by decide +kernel
theorem dX1_addCamp_4 : decode cX1_addCamp 4 = .ok (.bipush 6, 2) := by decide +kernel
theorem dX1_addCamp_6 : decode cX1_addCamp 6 = .ok (.if_icmp .lt 5, 3) := by decide +kernel
theorem dX1_addCamp_9 : decode cX1_addCamp 9 = .ok (.iconst (-1), 1) := by decide +kernel
theorem dX1_addCamp_10 : decode cX1_addCamp 10 = .ok (.ireturn, 1) := by decide +kernel
theorem dX1_addCamp_11 : decode cX1_addCamp 11 = .ok (.aload_n 0, 1) := by decide +kernel
theorem dX1_addCamp_12 : decode cX1_addCamp 12 = .ok (.getfield 19, 3) := by decide +kernel
theorem dX1_addCamp_15 : decode cX1_addCamp 15 = .ok (.aload_n 0, 1) := by decide +kernel
theorem dX1_addCamp_16 : decode cX1_addCamp 16 = .ok (.getfield 9, 3) := by decide +kernel
theorem dX1_addCamp_19 : decode cX1_addCamp 19 = .ok (.iload_n 1, 1) := by decide +kernel
theorem dX1_addCamp_20 : decode cX1_addCamp 20 = .ok (.iastore, 1) := by decide +kernel
theorem dX1_addCamp_21 : decode cX1_addCamp 21 = .ok (.aload_n 0, 1) := by decide +kernel
theorem dX1_addCamp_22 : decode cX1_addCamp 22 = .ok (.getfield 15, 3) := by decide +kernel
theorem dX1_addCamp_25 : decode cX1_addCamp 25 = .ok (.aload_n 0, 1) := by decide +kernel
theorem dX1_addCamp_26 : decode cX1_addCamp 26 = .ok (.getfield 9, 3) := by decide +kernel
theorem dX1_addCamp_29 : decode cX1_addCamp 29 = .ok (.iload_n 2, 1) := by decide +kernel
theorem dX1_addCamp_30 : decode cX1_addCamp 30 = .ok (.iastore, 1) := by decide +kernel
theorem dX1_addCamp_31 : decode cX1_addCamp 31 = .ok (.aload_n 0, 1) := by decide +kernel
theorem dX1_addCamp_32 : decode cX1_addCamp 32 = .ok (.getfield 22, 3) := by decide +kernel
theorem dX1_addCamp_35 : decode cX1_addCamp 35 = .ok (.aload_n 0, 1) := by decide +kernel
theorem dX1_addCamp_36 : decode cX1_addCamp 36 = .ok (.getfield 9, 3) := by decide +kernel
theorem dX1_addCamp_39 : decode cX1_addCamp 39 = .ok (.iload_n 3, 1) := by decide +kernel
theorem dX1_addCamp_40 : decode cX1_addCamp 40 = .ok (.iastore, 1) := by decide +kernel
theorem dX1_addCamp_41 : decode cX1_addCamp 41 = .ok (.aload_n 0, 1) := by decide +kernel
theorem dX1_addCamp_42 : decode cX1_addCamp 42 = .ok (.dup, 1) := by decide +kernel
theorem dX1_addCamp_43 : decode cX1_addCamp 43 = .ok (.getfield 9, 3) := by decide +kernel
theorem dX1_addCamp_46 : decode cX1_addCamp 46 = .ok (.iconst 1, 1) := by decide +kernel
theorem dX1_addCamp_47 : decode cX1_addCamp 47 = .ok (.iadd, 1) := by decide +kernel
theorem dX1_addCamp_48 : decode cX1_addCamp 48 = .ok (.putfield 9, 3) := by decide +kernel
theorem dX1_addCamp_51 : decode cX1_addCamp 51 = .ok (.aload_n 0, 1) := by decide +kernel
theorem dX1_addCamp_52 : decode cX1_addCamp 52 = .ok (.getfield 9, 3) := by decide +kernel
theorem dX1_addCamp_55 : decode cX1_addCamp 55 = .ok (.iconst 1, 1) := by decide +kernel
theorem dX1_addCamp_56 : decode cX1_addCamp 56 = .ok (.isub, 1) := by decide +kernel
theorem dX1_addCamp_57 : decode cX1_addCamp 57 = .ok (.ireturn, 1) := by decide +kernel
theorem dX1_addNews_0 : decode cX1_addNews 0 = .ok (.aload_n 0, 1) := by decide +kernel
theorem dX1_addNews_1 : decode cX1_addNews 1 = .ok (.getfield 28, 3) := by decide +kernel
theorem dX1_addNews_4 : decode cX1_addNews 4 = .ok (.bipush 60, 2) := by decide +kernel
theorem dX1_addNews_6 : decode cX1_addNews 6 = .ok (.if_icmp .lt 5, 3) := by decide +kernel
theorem dX1_addNews_9 : decode cX1_addNews 9 = .ok (.iconst (-1), 1) := by decide +kernel
theorem dX1_addNews_10 : decode cX1_addNews 10 = .ok (.ireturn, 1) := by decide +kernel
theorem dX1_addNews_11 : decode cX1_addNews 11 = .ok (.aload_n 0, 1) := by decide +kernel
theorem dX1_addNews_12 : decode cX1_addNews 12 = .ok (.getfield 31, 3) := by decide +kernel
theorem dX1_addNews_15 : decode cX1_addNews 15 = .ok (.aload_n 0, 1) := by decide +kernel
theorem dX1_addNews_16 : decode cX1_addNews 16 = .ok (.getfield 28, 3) := by decide +kernel
theorem dX1_addNews_19 : decode cX1_addNews 19 = .ok (.iload_n 1, 1) := by decide +kernel
theorem dX1_addNews_20 : decode cX1_addNews 20 = .ok (.iastore, 1) := by decide +kernel
theorem dX1_addNews_21 : decode cX1_addNews 21 = .ok (.aload_n 0, 1) := by decide +kernel
theorem dX1_addNews_22 : decode cX1_addNews 22 = .ok (.getfield 34, 3) := by decide +kernel
theorem dX1_addNews_25 : decode cX1_addNews 25 = .ok (.aload_n 0, 1) := by decide +kernel
theorem dX1_addNews_26 : decode cX1_addNews 26 = .ok (.getfield 28, 3) := by decide +kernel
theorem dX1_addNews_29 : decode cX1_addNews 29 = .ok (.iload_n 2, 1) := by decide +kernel
theorem dX1_addNews_30 : decode cX1_addNews 30 = .ok (.iastore, 1) := by decide +kernel
theorem dX1_addNews_31 : decode cX1_addNews 31 = .ok (.aload_n 0, 1) := by decide +kernel
theorem dX1_addNews_32 : decode cX1_addNews 32 = .ok (.getfield 37, 3) := by decide +kernel
theorem dX1_addNews_35 : decode cX1_addNews 35 = .ok (.aload_n 0, 1) := by decide +kernel
theorem dX1_addNews_36 : decode cX1_addNews 36 = .ok (.getfield 28, 3) := by decide +kernel
theorem dX1_addNews_39 : decode cX1_addNews 39 = .ok (.iload_n 3, 1) := by decide +kernel
theorem dX1_addNews_40 : decode cX1_addNews 40 = .ok (.iastore, 1) := by decide +kernel
theorem dX1_addNews_41 : decode cX1_addNews 41 = .ok (.aload_n 0, 1) := by decide +kernel
theorem dX1_addNews_42 : decode cX1_addNews 42 = .ok (.getfield 40, 3) := by decide +kernel
theorem dX1_addNews_45 : decode cX1_addNews 45 = .ok (.aload_n 0, 1) := by decide +kernel
theorem dX1_addNews_46 : decode cX1_addNews 46 = .ok (.getfield 28, 3) := by decide +kernel
theorem dX1_addNews_49 : decode cX1_addNews 49 = .ok (.iload 4, 2) := by decide +kernel
theorem dX1_addNews_51 : decode cX1_addNews 51 = .ok (.ifCond .eq 7, 3) := by decide +kernel
theorem dX1_addNews_54 : decode cX1_addNews 54 = .ok (.iconst 1, 1) := by decide +kernel
theorem dX1_addNews_55 : decode cX1_addNews 55 = .ok (.goto 4, 3) := by decide +kernel
theorem dX1_addNews_58 : decode cX1_addNews 58 = .ok (.iconst 0, 1) := by decide +kernel
theorem dX1_addNews_59 : decode cX1_addNews 59 = .ok (.iastore, 1) := by decide +kernel
theorem dX1_addNews_60 : decode cX1_addNews 60 = .ok (.aload_n 0, 1) := by decide +kernel
theorem dX1_addNews_61 : decode cX1_addNews 61 = .ok (.getfield 43, 3) := by decide +kernel
theorem dX1_addNews_64 : decode cX1_addNews 64 = .ok (.aload_n 0, 1) := by decide +kernel
theorem dX1_addNews_65 : decode cX1_addNews 65 = .ok (.getfield 28, 3) := by decide +kernel
theorem dX1_addNews_68 : decode cX1_addNews 68 = .ok (.iload 5, 2) := by decide +kernel
theorem dX1_addNews_70 : decode cX1_addNews 70 = .ok (.iastore, 1) := by decide +kernel
theorem dX1_addNews_71 : decode cX1_addNews 71 = .ok (.aload_n 0, 1) := by decide +kernel
theorem dX1_addNews_72 : decode cX1_addNews 72 = .ok (.dup, 1) := by decide +kernel
theorem dX1_addNews_73 : decode cX1_addNews 73 = .ok (.getfield 28, 3) := by decide +kernel
theorem dX1_addNews_76 : decode cX1_addNews 76 = .ok (.iconst 1, 1) := by decide +kernel
theorem dX1_addNews_77 : decode cX1_addNews 77 = .ok (.iadd, 1) := by decide +kernel
theorem dX1_addNews_78 : decode cX1_addNews 78 = .ok (.putfield 28, 3) := by decide +kernel
theorem dX1_addNews_81 : decode cX1_addNews 81 = .ok (.aload_n 0, 1) := by decide +kernel
theorem dX1_addNews_82 : decode cX1_addNews 82 = .ok (.getfield 28, 3) := by decide +kernel
theorem dX1_addNews_85 : decode cX1_addNews 85 = .ok (.iconst 1, 1) := by decide +kernel
theorem dX1_addNews_86 : decode cX1_addNews 86 = .ok (.isub, 1) := by decide +kernel
theorem dX1_addNews_87 : decode cX1_addNews 87 = .ok (.ireturn, 1) := by decide +kernel
theorem dX1_isNewsOf_0 : decode cX1_isNewsOf 0 = .ok (.aload_n 0, 1) := by decide +kernel
theorem dX1_isNewsOf_1 : decode cX1_isNewsOf 1 = .ok (.getfield 31, 3) := by decide +kernel
theorem dX1_isNewsOf_4 : decode cX1_isNewsOf 4 = .ok (.iload_n 1, 1) := by decide +kernel
theorem dX1_isNewsOf_5 : decode cX1_isNewsOf 5 = .ok (.iaload, 1) := by decide +kernel
theorem dX1_isNewsOf_6 : decode cX1_isNewsOf 6 = .ok (.iload_n 2, 1) := by decide +kernel
theorem dX1_isNewsOf_7 : decode cX1_isNewsOf 7 = .ok (.if_icmp .ne 28, 3) := by decide +kernel
theorem dX1_isNewsOf_10 : decode cX1_isNewsOf 10 = .ok (.aload_n 0, 1) := by decide +kernel
theorem dX1_isNewsOf_11 : decode cX1_isNewsOf 11 = .ok (.getfield 37, 3) := by decide +kernel
theorem dX1_isNewsOf_14 : decode cX1_isNewsOf 14 = .ok (.iload_n 1, 1) := by decide +kernel
theorem dX1_isNewsOf_15 : decode cX1_isNewsOf 15 = .ok (.iaload, 1) := by decide +kernel
theorem dX1_isNewsOf_16 : decode cX1_isNewsOf 16 = .ok (.iload_n 3, 1) := by decide +kernel
theorem dX1_isNewsOf_17 : decode cX1_isNewsOf 17 = .ok (.if_icmp .ne 18, 3) := by decide +kernel
theorem dX1_isNewsOf_20 : decode cX1_isNewsOf 20 = .ok (.aload_n 0, 1) := by decide +kernel
theorem dX1_isNewsOf_21 : decode cX1_isNewsOf 21 = .ok (.getfield 43, 3) := by decide +kernel
theorem dX1_isNewsOf_24 : decode cX1_isNewsOf 24 = .ok (.iload_n 1, 1) := by decide +kernel
theorem dX1_isNewsOf_25 : decode cX1_isNewsOf 25 = .ok (.iaload, 1) := by decide +kernel
theorem dX1_isNewsOf_26 : decode cX1_isNewsOf 26 = .ok (.iload 4, 2) := by decide +kernel
theorem dX1_isNewsOf_28 : decode cX1_isNewsOf 28 = .ok (.if_icmp .gt 7, 3) := by decide +kernel
theorem dX1_isNewsOf_31 : decode cX1_isNewsOf 31 = .ok (.iconst 1, 1) := by decide +kernel
theorem dX1_isNewsOf_32 : decode cX1_isNewsOf 32 = .ok (.goto 4, 3) := by decide +kernel
theorem dX1_isNewsOf_35 : decode cX1_isNewsOf 35 = .ok (.iconst 0, 1) := by decide +kernel
theorem dX1_isNewsOf_36 : decode cX1_isNewsOf 36 = .ok (.ireturn, 1) := by decide +kernel
theorem dX1_copyFrom_0 : decode cX1_copyFrom 0 = .ok (.aload_n 0, 1) := by decide +kernel
theorem dX1_copyFrom_1 : decode cX1_copyFrom 1 = .ok (.aload_n 1, 1) := by decide +kernel
theorem dX1_copyFrom_2 : decode cX1_copyFrom 2 = .ok (.getfield 9, 3) := by decide +kernel
theorem dX1_copyFrom_5 : decode cX1_copyFrom 5 = .ok (.putfield 9, 3) := by decide +kernel
theorem dX1_copyFrom_8 : decode cX1_copyFrom 8 = .ok (.aload_n 0, 1) := by decide +kernel
theorem dX1_copyFrom_9 : decode cX1_copyFrom 9 = .ok (.aload_n 1, 1) := by decide +kernel
theorem dX1_copyFrom_10 : decode cX1_copyFrom 10 = .ok (.getfield 28, 3) := by decide +kernel
theorem dX1_copyFrom_13 : decode cX1_copyFrom 13 = .ok (.putfield 28, 3) := by decide +kernel
theorem dX1_copyFrom_16 : decode cX1_copyFrom 16 = .ok (.aload_n 1, 1) := by decide +kernel
theorem dX1_copyFrom_17 : decode cX1_copyFrom 17 = .ok (.getfield 15, 3) := by decide +kernel
theorem dX1_copyFrom_20 : decode cX1_copyFrom 20 = .ok (.aload_n 0, 1) := by decide +kernel
theorem dX1_copyFrom_21 : decode cX1_copyFrom 21 = .ok (.getfield 15, 3) := by decide +kernel
theorem dX1_copyFrom_24 : decode cX1_copyFrom 24 = .ok (.invokestatic 46, 3) := by decide +kernel
theorem dX1_copyFrom_27 : decode cX1_copyFrom 27 = .ok (.aload_n 1, 1) := by decide +kernel
theorem dX1_copyFrom_28 : decode cX1_copyFrom 28 = .ok (.getfield 19, 3) := by decide +kernel
theorem dX1_copyFrom_31 : decode cX1_copyFrom 31 = .ok (.aload_n 0, 1) := by decide +kernel
theorem dX1_copyFrom_32 : decode cX1_copyFrom 32 = .ok (.getfield 19, 3) := by decide +kernel
theorem dX1_copyFrom_35 : decode cX1_copyFrom 35 = .ok (.invokestatic 46, 3) := by decide +kernel
theorem dX1_copyFrom_38 : decode cX1_copyFrom 38 = .ok (.aload_n 1, 1) := by decide +kernel
theorem dX1_copyFrom_39 : decode cX1_copyFrom 39 = .ok (.getfield 22, 3) := by decide +kernel
theorem dX1_copyFrom_42 : decode cX1_copyFrom 42 = .ok (.aload_n 0, 1) := by decide +kernel
theorem dX1_copyFrom_43 : decode cX1_copyFrom 43 = .ok (.getfield 22, 3) := by decide +kernel
theorem dX1_copyFrom_46 : decode cX1_copyFrom 46 = .ok (.invokestatic 46, 3) := by decide +kernel
theorem dX1_copyFrom_49 : decode cX1_copyFrom 49 = .ok (.aload_n 1, 1) := by decide +kernel
theorem dX1_copyFrom_50 : decode cX1_copyFrom 50 = .ok (.getfield 25, 3) := by decide +kernel
theorem dX1_copyFrom_53 : decode cX1_copyFrom 53 = .ok (.aload_n 0, 1) := by decide +kernel
theorem dX1_copyFrom_54 : decode cX1_copyFrom 54 = .ok (.getfield 25, 3) := by decide +kernel
theorem dX1_copyFrom_57 : decode cX1_copyFrom 57 = .ok (.invokestatic 46, 3) := by decide +kernel
theorem dX1_copyFrom_60 : decode cX1_copyFrom 60 = .ok (.aload_n 1, 1) := by decide +kernel
theorem dX1_copyFrom_61 : decode cX1_copyFrom 61 = .ok (.getfield 31, 3) := by decide +kernel
theorem dX1_copyFrom_64 : decode cX1_copyFrom 64 = .ok (.aload_n 0, 1) := by decide +kernel
theorem dX1_copyFrom_65 : decode cX1_copyFrom 65 = .ok (.getfield 31, 3) := by decide +kernel
theorem dX1_copyFrom_68 : decode cX1_copyFrom 68 = .ok (.invokestatic 46, 3) := by decide +kernel
theorem dX1_copyFrom_71 : decode cX1_copyFrom 71 = .ok (.aload_n 1, 1) := by decide +kernel
theorem dX1_copyFrom_72 : decode cX1_copyFrom 72 = .ok (.getfield 34, 3) := by decide +kernel
theorem dX1_copyFrom_75 : decode cX1_copyFrom 75 = .ok (.aload_n 0, 1) := by decide +kernel
theorem dX1_copyFrom_76 : decode cX1_copyFrom 76 = .ok (.getfield 34, 3) := by decide +kernel
theorem dX1_copyFrom_79 : decode cX1_copyFrom 79 = .ok (.invokestatic 46, 3) := by decide +kernel
theorem dX1_copyFrom_82 : decode cX1_copyFrom 82 = .ok (.aload_n 1, 1) := by decide +kernel
theorem dX1_copyFrom_83 : decode cX1_copyFrom 83 = .ok (.getfield 37, 3) := by decide +kernel
theorem dX1_copyFrom_86 : decode cX1_copyFrom 86 = .ok (.aload_n 0, 1) := by decide +kernel
theorem dX1_copyFrom_87 : decode cX1_copyFrom 87 = .ok (.getfield 37, 3) := by decide +kernel
theorem dX1_copyFrom_90 : decode cX1_copyFrom 90 = .ok (.invokestatic 46, 3) := by decide +kernel
theorem dX1_copyFrom_93 : decode cX1_copyFrom 93 = .ok (.aload_n 1, 1) := by decide +kernel
theorem dX1_copyFrom_94 : decode cX1_copyFrom 94 = .ok (.getfield 40, 3) := by decide +kernel
theorem dX1_copyFrom_97 : decode cX1_copyFrom 97 = .ok (.aload_n 0, 1) := by decide +kernel
theorem dX1_copyFrom_98 : decode cX1_copyFrom 98 = .ok (.getfield 40, 3) := by decide +kernel
theorem dX1_copyFrom_101 : decode cX1_copyFrom 101 = .ok (.invokestatic 46, 3) := by decide +kernel
theorem dX1_copyFrom_104 : decode cX1_copyFrom 104 = .ok (.aload_n 1, 1) := by decide +kernel
theorem dX1_copyFrom_105 : decode cX1_copyFrom 105 = .ok (.getfield 43, 3) := by decide +kernel
theorem dX1_copyFrom_108 : decode cX1_copyFrom 108 = .ok (.aload_n 0, 1) := by decide +kernel
theorem dX1_copyFrom_109 : decode cX1_copyFrom 109 = .ok (.getfield 43, 3) := by decide +kernel
theorem dX1_copyFrom_112 : decode cX1_copyFrom 112 = .ok (.invokestatic 46, 3) := by decide +kernel
theorem dX1_copyFrom_115 : decode cX1_copyFrom 115 = .ok (.return_, 1) := by decide +kernel
theorem dX2_init_0 : decode cX2_init 0 = .ok (.aload_n 0, 1) := by decide +kernel
theorem dX2_init_1 : decode cX2_init 1 = .ok (.invokespecial 3, 3) := by decide +kernel
theorem dX2_init_4 : decode cX2_init 4 = .ok (.aload_n 0, 1) := by decide +kernel
theorem dX2_init_5 : decode cX2_init 5 = .ok (.iconst 0, 1) := by decide +kernel
theorem dX2_init_6 : decode cX2_init 6 = .ok (.putfield 9, 3) := by decide +kernel
theorem dX2_init_9 : decode cX2_init 9 = .ok (.aload_n 0, 1) := by decide +kernel
theorem dX2_init_10 : decode cX2_init 10 = .ok (.iconst 0, 1) := by decide +kernel
theorem dX2_init_11 : decode cX2_init 11 = .ok (.putfield 15, 3) := by decide +kernel
theorem dX2_init_14 : decode cX2_init 14 = .ok (.aload_n 0, 1) := by decide +kernel
theorem dX2_init_15 : decode cX2_init 15 = .ok (.bipush 100, 2) := by decide +kernel
theorem dX2_init_17 : decode cX2_init 17 = .ok (.newarray .int, 2) := by decide +kernel
theorem dX2_init_19 : decode cX2_init 19 = .ok (.putfield 18, 3) := by decide +kernel
theorem dX2_init_22 : decode cX2_init 22 = .ok (.aload_n 0, 1) := by decide +kernel
theorem dX2_init_23 : decode cX2_init 23 = .ok (.iconst 0, 1) := by decide +kernel
theorem dX2_init_24 : decode cX2_init 24 = .ok (.putfield 22, 3) := by decide +kernel
theorem dX2_init_27 : decode cX2_init 27 = .ok (.aload_n 0, 1) := by decide +kernel
theorem dX2_init_28 : decode cX2_init 28 = .ok (.bipush 60, 2) := by decide +kernel
theorem dX2_init_30 : decode cX2_init 30 = .ok (.newarray .int, 2) := by decide +kernel
theorem dX2_init_32 : decode cX2_init 32 = .ok (.putfield 25, 3) := by decide +kernel
theorem dX2_init_35 : decode cX2_init 35 = .ok (.aload_n 0, 1) := by decide +kernel
theorem dX2_init_36 : decode cX2_init 36 = .ok (.bipush 60, 2) := by decide +kernel
theorem dX2_init_38 : decode cX2_init 38 = .ok (.newarray .int, 2) := by decide +kernel
theorem dX2_init_40 : decode cX2_init 40 = .ok (.putfield 28, 3) := by decide +kernel
theorem dX2_init_43 : decode cX2_init 43 = .ok (.aload_n 0, 1) := by decide +kernel
theorem dX2_init_44 : decode cX2_init 44 = .ok (.bipush 60, 2) := by decide +kernel
theorem dX2_init_46 : decode cX2_init 46 = .ok (.newarray .int, 2) := by decide +kernel
theorem dX2_init_48 : decode cX2_init 48 = .ok (.putfield 31, 3) := by decide +kernel
theorem dX2_init_51 : decode cX2_init 51 = .ok (.aload_n 0, 1) := by decide +kernel
theorem dX2_init_52 : decode cX2_init 52 = .ok (.bipush 60, 2) := by decide +kernel
theorem dX2_init_54 : decode cX2_init 54 = .ok (.newarray .int, 2) := by decide +kernel
theorem dX2_init_56 : decode cX2_init 56 = .ok (.putfield 34, 3) := by decide +kernel
theorem dX2_init_59 : decode cX2_init 59 = .ok (.aload_n 0, 1) := by decide +kernel
theorem dX2_init_60 : decode cX2_init 60 = .ok (.bipush 100, 2) := by decide +kernel
theorem dX2_init_62 : decode cX2_init 62 = .ok (.newarray .int, 2) := by decide +kernel
theorem dX2_init_64 : decode cX2_init 64 = .ok (.putfield 37, 3) := by decide +kernel
theorem dX2_init_67 : decode cX2_init 67 = .ok (.return_, 1) := by decide +kernel
theorem dX2_hasCell_0 : decode cX2_hasCell 0 = .ok (.iload_n 1, 1) := by decide +kernel
theorem dX2_hasCell_1 : decode cX2_hasCell 1 = .ok (.ifCond .lt 15, 3) := by decide +kernel
theorem dX2_hasCell_4 : decode cX2_hasCell 4 = .ok (.iload_n 1, 1) := by decide +kernel
theorem dX2_hasCell_5 : decode cX2_hasCell 5 = .ok (.aload_n 0, 1) := by decide +kernel
theorem dX2_hasCell_6 : decode cX2_hasCell 6 = .ok (.getfield 9, 3) := by decide +kernel
theorem dX2_hasCell_9 : decode cX2_hasCell 9 = .ok (.if_icmp .ge 7, 3) := by decide +kernel
theorem dX2_hasCell_12 : decode cX2_hasCell 12 = .ok (.iconst 1, 1) := by decide +kernel
theorem dX2_hasCell_13 : decode cX2_hasCell 13 = .ok (.goto 4, 3) := by decide +kernel
theorem dX2_hasCell_16 : decode cX2_hasCell 16 = .ok (.iconst 0, 1) := by decide +kernel
theorem dX2_hasCell_17 : decode cX2_hasCell 17 = .ok (.ireturn, 1) := by decide +kernel
theorem dX2_hasWell_0 : decode cX2_hasWell 0 = .ok (.aload_n 0, 1) := by decide +kernel
theorem dX2_hasWell_1 : decode cX2_hasWell 1 = .ok (.iload_n 1, 1) := by decide +kernel
theorem dX2_hasWell_2 : decode cX2_hasWell 2 = .ok (.invokevirtual 40, 3) := by decide +kernel
theorem dX2_hasWell_5 : decode cX2_hasWell 5 = .ok (.ifCond .eq 19, 3) := by decide +kernel
theorem dX2_hasWell_8 : decode cX2_hasWell 8 = .ok (.aload_n 0, 1) := by decide +kernel
theorem dX2_hasWell_9 : decode cX2_hasWell 9 = .ok (.getfield 15, 3) := by decide +kernel
theorem dX2_hasWell_12 : decode cX2_hasWell 12 = .ok (.iload_n 1, 1) := by decide +kernel
theorem dX2_hasWell_13 : decode cX2_hasWell 13 = .ok (.ishr, 1) := by decide +kernel
theorem dX2_hasWell_14 : decode cX2_hasWell 14 = .ok (.iconst 1, 1) := by decide +kernel
theorem dX2_hasWell_15 : decode cX2_hasWell 15 = .ok (.iand, 1) := by decide +kernel
theorem dX2_hasWell_16 : decode cX2_hasWell 16 = .ok (.iconst 1, 1) := by decide +kernel
theorem dX2_hasWell_17 : decode cX2_hasWell 17 = .ok (.if_icmp .ne 7, 3) := by decide +kernel
theorem dX2_hasWell_20 : decode cX2_hasWell 20 = .ok (.iconst 1, 1) := by decide +kernel
theorem dX2_hasWell_21 : decode cX2_hasWell 21 = .ok (.goto 4, 3) := by decide +kernel
theorem dX2_hasWell_24 : decode cX2_hasWell 24 = .ok (.iconst 0, 1) := by decide +kernel
theorem dX2_hasWell_25 : decode cX2_hasWell 25 = .ok (.ireturn, 1) := by decide +kernel
theorem dX2_addCell_0 : decode cX2_addCell 0 = .ok (.aload_n 0, 1) := by decide +kernel
theorem dX2_addCell_1 : decode cX2_addCell 1 = .ok (.getfield 9, 3) := by decide +kernel
theorem dX2_addCell_4 : decode cX2_addCell 4 = .ok (.bipush 10, 2) := by decide +kernel
theorem dX2_addCell_6 : decode cX2_addCell 6 = .ok (.if_icmp .lt 5, 3) := by decide +kernel
theorem dX2_addCell_9 : decode cX2_addCell 9 = .ok (.iconst (-1), 1) := by decide +kernel
theorem dX2_addCell_10 : decode cX2_addCell 10 = .ok (.ireturn, 1) := by decide +kernel
theorem dX2_addCell_11 : decode cX2_addCell 11 = .ok (.iload_n 1, 1) := by decide +kernel
theorem dX2_addCell_12 : decode cX2_addCell 12 = .ok (.ifCond .eq 18, 3) := by decide +kernel
theorem dX2_addCell_15 : decode cX2_addCell 15 = .ok (.aload_n 0, 1) := by decide +kernel
theorem dX2_addCell_16 : decode cX2_addCell 16 = .ok (.dup, 1) := by decide +kernel
theorem dX2_addCell_17 : decode cX2_addCell 17 = .ok (.getfield 15, 3) := by decide +kernel
theorem dX2_addCell_20 : decode cX2_addCell 20 = .ok (.iconst 1, 1) := by decide +kernel
theorem dX2_addCell_21 : decode cX2_addCell 21 = .ok (.aload_n 0, 1) := by decide +kernel
theorem dX2_addCell_22 : decode cX2_addCell 22 = .ok (.getfield 9, 3) := by decide +kernel
theorem dX2_addCell_25 : decode cX2_addCell 25 = .ok (.ishl, 1) := by decide +kernel
theorem dX2_addCell_26 : decode cX2_addCell 26 = .ok (.ior, 1) := by decide +kernel
theorem dX2_addCell_27 : decode cX2_addCell 27 = .ok (.putfield 15, 3) := by decide +kernel
theorem dX2_addCell_30 : decode cX2_addCell 30 = .ok (.aload_n 0, 1) := by decide +kernel
theorem dX2_addCell_31 : decode cX2_addCell 31 = .ok (.dup, 1) := by decide +kernel
theorem dX2_addCell_32 : decode cX2_addCell 32 = .ok (.getfield 9, 3) := by decide +kernel
theorem dX2_addCell_35 : decode cX2_addCell 35 = .ok (.iconst 1, 1) := by decide +kernel
theorem dX2_addCell_36 : decode cX2_addCell 36 = .ok (.iadd, 1) := by decide +kernel
theorem dX2_addCell_37 : decode cX2_addCell 37 = .ok (.putfield 9, 3) := by decide +kernel
theorem dX2_addCell_40 : decode cX2_addCell 40 = .ok (.aload_n 0, 1) := by decide +kernel
theorem dX2_addCell_41 : decode cX2_addCell 41 = .ok (.getfield 9, 3) := by decide +kernel
theorem dX2_addCell_44 : decode cX2_addCell 44 = .ok (.iconst 1, 1) := by decide +kernel
theorem dX2_addCell_45 : decode cX2_addCell 45 = .ok (.isub, 1) := by decide +kernel
theorem dX2_addCell_46 : decode cX2_addCell 46 = .ok (.ireturn, 1) := by decide +kernel
theorem dX2_setWay_0 : decode cX2_setWay 0 = .ok (.aload_n 0, 1) := by decide +kernel
theorem dX2_setWay_1 : decode cX2_setWay 1 = .ok (.getfield 18, 3) := by decide +kernel
theorem dX2_setWay_4 : decode cX2_setWay 4 = .ok (.iload_n 1, 1) := by decide +kernel
theorem dX2_setWay_5 : decode cX2_setWay 5 = .ok (.bipush 10, 2) := by decide +kernel
theorem dX2_setWay_7 : decode cX2_setWay 7 = .ok (.imul, 1) := by decide +kernel
theorem dX2_setWay_8 : decode cX2_setWay 8 = .ok (.iload_n 2, 1) := by decide +kernel
theorem dX2_setWay_9 : decode cX2_setWay 9 = .ok (.iadd, 1) := by decide +kernel
theorem dX2_setWay_10 : decode cX2_setWay 10 = .ok (.iload_n 3, 1) := by decide +kernel
theorem dX2_setWay_11 : decode cX2_setWay 11 = .ok (.iastore, 1) := by decide +kernel
theorem dX2_setWay_12 : decode cX2_setWay 12 = .ok (.aload_n 0, 1) := by decide +kernel
theorem dX2_setWay_13 : decode cX2_setWay 13 = .ok (.getfield 18, 3) := by decide +kernel
theorem dX2_setWay_16 : decode cX2_setWay 16 = .ok (.iload_n 2, 1) := by decide +kernel
theorem dX2_setWay_17 : decode cX2_setWay 17 = .ok (.bipush 10, 2) := by decide +kernel
theorem dX2_setWay_19 : decode cX2_setWay 19 = .ok (.imul, 1) := by decide +kernel
theorem dX2_setWay_20 : decode cX2_setWay 20 = .ok (.iload_n 1, 1) := by decide +kernel
theorem dX2_setWay_21 : decode cX2_setWay 21 = .ok (.iadd, 1) := by decide +kernel
theorem dX2_setWay_22 : decode cX2_setWay 22 = .ok (.iload_n 3, 1) := by decide +kernel
theorem dX2_setWay_23 : decode cX2_setWay 23 = .ok (.iastore, 1) := by decide +kernel
theorem dX2_setWay_24 : decode cX2_setWay 24 = .ok (.return_, 1) := by decide +kernel
theorem dX2_addGrass_0 : decode cX2_addGrass 0 = .ok (.aload_n 0, 1) := by decide +kernel
theorem dX2_addGrass_1 : decode cX2_addGrass 1 = .ok (.getfield 22, 3) := by decide +kernel
theorem dX2_addGrass_4 : decode cX2_addGrass 4 = .ok (.bipush 60, 2) := by decide +kernel
theorem dX2_addGrass_6 : decode cX2_addGrass 6 = .ok (.if_icmp .lt 5, 3) := by decide +kernel
theorem dX2_addGrass_9 : decode cX2_addGrass 9 = .ok (.iconst 0, 1) := by decide +kernel
theorem dX2_addGrass_10 : decode cX2_addGrass 10 = .ok (.ireturn, 1) := by decide +kernel
theorem dX2_addGrass_11 : decode cX2_addGrass 11 = .ok (.aload_n 0, 1) := by decide +kernel
theorem dX2_addGrass_12 : decode cX2_addGrass 12 = .ok (.getfield 25, 3) := by decide +kernel
theorem dX2_addGrass_15 : decode cX2_addGrass 15 = .ok (.aload_n 0, 1) := by decide +kernel
theorem dX2_addGrass_16 : decode cX2_addGrass 16 = .ok (.getfield 22, 3) := by decide +kernel
theorem dX2_addGrass_19 : decode cX2_addGrass 19 = .ok (.iload_n 1, 1) := by decide +kernel
theorem dX2_addGrass_20 : decode cX2_addGrass 20 = .ok (.iastore, 1) := by decide +kernel
theorem dX2_addGrass_21 : decode cX2_addGrass 21 = .ok (.aload_n 0, 1) := by decide +kernel
theorem dX2_addGrass_22 : decode cX2_addGrass 22 = .ok (.getfield 28, 3) := by decide +kernel
theorem dX2_addGrass_25 : decode cX2_addGrass 25 = .ok (.aload_n 0, 1) := by decide +kernel
theorem dX2_addGrass_26 : decode cX2_addGrass 26 = .ok (.getfield 22, 3) := by decide +kernel
theorem dX2_addGrass_29 : decode cX2_addGrass 29 = .ok (.iload_n 2, 1) := by decide +kernel
theorem dX2_addGrass_30 : decode cX2_addGrass 30 = .ok (.iastore, 1) := by decide +kernel
theorem dX2_addGrass_31 : decode cX2_addGrass 31 = .ok (.aload_n 0, 1) := by decide +kernel
theorem dX2_addGrass_32 : decode cX2_addGrass 32 = .ok (.getfield 31, 3) := by decide +kernel
theorem dX2_addGrass_35 : decode cX2_addGrass 35 = .ok (.aload_n 0, 1) := by decide +kernel
theorem dX2_addGrass_36 : decode cX2_addGrass 36 = .ok (.getfield 22, 3) := by decide +kernel
theorem dX2_addGrass_39 : decode cX2_addGrass 39 = .ok (.iload_n 3, 1) := by decide +kernel
theorem dX2_addGrass_40 : decode cX2_addGrass 40 = .ok (.iastore, 1) := by decide +kernel
theorem dX2_addGrass_41 : decode cX2_addGrass 41 = .ok (.aload_n 0, 1) := by decide +kernel
theorem dX2_addGrass_42 : decode cX2_addGrass 42 = .ok (.getfield 34, 3) := by decide +kernel
theorem dX2_addGrass_45 : decode cX2_addGrass 45 = .ok (.aload_n 0, 1) := by decide +kernel
theorem dX2_addGrass_46 : decode cX2_addGrass 46 = .ok (.getfield 22, 3) := by decide +kernel
theorem dX2_addGrass_49 : decode cX2_addGrass 49 = .ok (.iload 4, 2) := by decide +kernel
theorem dX2_addGrass_51 : decode cX2_addGrass 51 = .ok (.iastore, 1) := by decide +kernel
theorem dX2_addGrass_52 : decode cX2_addGrass 52 = .ok (.aload_n 0, 1) := by decide +kernel
theorem dX2_addGrass_53 : decode cX2_addGrass 53 = .ok (.dup, 1) := by decide +kernel
theorem dX2_addGrass_54 : decode cX2_addGrass 54 = .ok (.getfield 22, 3) := by decide +kernel
theorem dX2_addGrass_57 : decode cX2_addGrass 57 = .ok (.iconst 1, 1) := by decide +kernel
theorem dX2_addGrass_58 : decode cX2_addGrass 58 = .ok (.iadd, 1) := by decide +kernel
theorem dX2_addGrass_59 : decode cX2_addGrass 59 = .ok (.putfield 22, 3) := by decide +kernel
theorem dX2_addGrass_62 : decode cX2_addGrass 62 = .ok (.iconst 1, 1) := by decide +kernel
theorem dX2_addGrass_63 : decode cX2_addGrass 63 = .ok (.ireturn, 1) := by decide +kernel
theorem dX2_grassOfWeek_0 : decode cX2_grassOfWeek 0 = .ok (.aload_n 3, 1) := by decide +kernel
theorem dX2_grassOfWeek_1 : decode cX2_grassOfWeek 1 = .ok (.iconst 1, 1) := by decide +kernel
theorem dX2_grassOfWeek_2 : decode cX2_grassOfWeek 2 = .ok (.invokestatic 44, 3) := by decide +kernel
theorem dX2_grassOfWeek_5 : decode cX2_grassOfWeek 5 = .ok (.aload 4, 2) := by decide +kernel
theorem dX2_grassOfWeek_7 : decode cX2_grassOfWeek 7 = .ok (.iconst (-1), 1) := by decide +kernel
theorem dX2_grassOfWeek_8 : decode cX2_grassOfWeek 8 = .ok (.invokestatic 44, 3) := by decide +kernel
theorem dX2_grassOfWeek_11 : decode cX2_grassOfWeek 11 = .ok (.iconst 0, 1) := by decide +kernel
theorem dX2_grassOfWeek_12 : decode cX2_grassOfWeek 12 = .ok (.istore 5, 2) := by decide +kernel
theorem dX2_grassOfWeek_14 : decode cX2_grassOfWeek 14 = .ok (.iload 5, 2) := by decide +kernel
theorem dX2_grassOfWeek_16 : decode cX2_grassOfWeek 16 = .ok (.aload_n 0, 1) := by decide +kernel
theorem dX2_grassOfWeek_17 : decode cX2_grassOfWeek 17 = .ok (.getfield 22, 3) := by decide +kernel
theorem dX2_grassOfWeek_20 : decode cX2_grassOfWeek 20 = .ok (.if_icmp .ge 78, 3) := by decide +kernel
theorem dX2_grassOfWeek_23 : decode cX2_grassOfWeek 23 = .ok (.aload_n 0, 1) := by decide +kernel
theorem dX2_grassOfWeek_24 : decode cX2_grassOfWeek 24 = .ok (.getfield 25, 3) := by decide +kernel
theorem dX2_grassOfWeek_27 : decode cX2_grassOfWeek 27 = .ok (.iload 5, 2) := by decide +kernel
theorem dX2_grassOfWeek_29 : decode cX2_grassOfWeek 29 = .ok (.iaload, 1) := by decide +kernel
theorem dX2_grassOfWeek_30 : decode cX2_grassOfWeek 30 = .ok (.istore 6, 2) := by decide +kernel
theorem dX2_grassOfWeek_32 : decode cX2_grassOfWeek 32 = .ok (.aload_n 0, 1) := by decide +kernel
theorem dX2_grassOfWeek_33 : decode cX2_grassOfWeek 33 = .ok (.getfield 34, 3) := by decide +kernel
theorem dX2_grassOfWeek_36 : decode cX2_grassOfWeek 36 = .ok (.iload 5, 2) := by decide +kernel
theorem dX2_grassOfWeek_38 : decode cX2_grassOfWeek 38 = .ok (.iaload, 1) := by decide +kernel
theorem dX2_grassOfWeek_39 : decode cX2_grassOfWeek 39 = .ok (.iload_n 2, 1) := by decide +kernel
theorem dX2_grassOfWeek_40 : decode cX2_grassOfWeek 40 = .ok (.if_icmp .gt 52, 3) := by decide +kernel
theorem dX2_grassOfWeek_43 : decode cX2_grassOfWeek 43 = .ok (.aload_n 0, 1) := by decide +kernel
theorem dX2_grassOfWeek_44 : decode cX2_grassOfWeek 44 = .ok (.getfield 28, 3) := by decide +kernel
theorem dX2_grassOfWeek_47 : decode cX2_grassOfWeek 47 = .ok (.iload 5, 2) := by decide +kernel
theorem dX2_grassOfWeek_49 : decode cX2_grassOfWeek 49 = .ok (.iaload, 1) := by decide +kernel
theorem dX2_grassOfWeek_50 : decode cX2_grassOfWeek 50 = .ok (.iload_n 1, 1) := by decide +kernel
theorem dX2_grassOfWeek_51 : decode cX2_grassOfWeek 51 = .ok (.if_icmp .gt 41, 3) := by decide +kernel
theorem dX2_grassOfWeek_54 : decode cX2_grassOfWeek 54 = .ok (.aload_n 0, 1) := by decide +kernel
theorem dX2_grassOfWeek_55 : decode cX2_grassOfWeek 55 = .ok (.getfield 28, 3) := by decide +kernel
theorem dX2_grassOfWeek_58 : decode cX2_grassOfWeek 58 = .ok (.iload 5, 2) := by decide +kernel
theorem dX2_grassOfWeek_60 : decode cX2_grassOfWeek 60 = .ok (.iaload, 1) := by decide +kernel
theorem dX2_grassOfWeek_61 : decode cX2_grassOfWeek 61 = .ok (.aload 4, 2) := by decide +kernel
theorem dX2_grassOfWeek_63 : decode cX2_grassOfWeek 63 = .ok (.iload 6, 2) := by decide +kernel
theorem dX2_grassOfWeek_65 : decode cX2_grassOfWeek 65 = .ok (.iaload, 1) := by decide +kernel
theorem dX2_grassOfWeek_66 : decode cX2_grassOfWeek 66 = .ok (.if_icmp .lt 26, 3) := by decide +kernel
theorem dX2_grassOfWeek_69 : decode cX2_grassOfWeek 69 = .ok (.aload 4, 2) := by decide +kernel
theorem dX2_grassOfWeek_71 : decode cX2_grassOfWeek 71 = .ok (.iload 6, 2) := by decide +kernel
theorem dX2_grassOfWeek_73 : decode cX2_grassOfWeek 73 = .ok (.aload_n 0, 1) := by decide +kernel
theorem dX2_grassOfWeek_74 : decode cX2_grassOfWeek 74 = .ok (.getfield 28, 3) := by decide +kernel
theorem dX2_grassOfWeek_77 : decode cX2_grassOfWeek 77 = .ok (.iload 5, 2) := by decide +kernel
theorem dX2_grassOfWeek_79 : decode cX2_grassOfWeek 79 = .ok (.iaload, 1) := by decide +kernel
theorem dX2_grassOfWeek_80 : decode cX2_grassOfWeek 80 = .ok (.iastore, 1) := by decide +kernel
theorem dX2_grassOfWeek_81 : decode cX2_grassOfWeek 81 = .ok (.aload_n 3, 1) := by decide +kernel
theorem dX2_grassOfWeek_82 : decode cX2_grassOfWeek 82 = .ok (.iload 6, 2) := by decide +kernel
theorem dX2_grassOfWeek_84 : decode cX2_grassOfWeek 84 = .ok (.aload_n 0, 1) := by decide +kernel
theorem dX2_grassOfWeek_85 : decode cX2_grassOfWeek 85 = .ok (.getfield 31, 3) := by decide +kernel
theorem dX2_grassOfWeek_88 : decode cX2_grassOfWeek 88 = .ok (.iload 5, 2) := by decide +kernel
theorem dX2_grassOfWeek_90 : decode cX2_grassOfWeek 90 = .ok (.iaload, 1) := by decide +kernel
theorem dX2_grassOfWeek_91 : decode cX2_grassOfWeek 91 = .ok (.iastore, 1) := by decide +kernel
theorem dX2_grassOfWeek_92 : decode cX2_grassOfWeek 92 = .ok (.iinc 5 1, 3) := by decide +kernel
theorem dX2_grassOfWeek_95 : decode cX2_grassOfWeek 95 = .ok (.goto (-81), 3) := by decide +kernel
theorem dX2_grassOfWeek_98 : decode cX2_grassOfWeek 98 = .ok (.return_, 1) := by decide +kernel
theorem dX2_copyFrom_0 : decode cX2_copyFrom 0 = .ok (.aload_n 0, 1) := by decide +kernel
theorem dX2_copyFrom_1 : decode cX2_copyFrom 1 = .ok (.aload_n 1, 1) := by decide +kernel
theorem dX2_copyFrom_2 : decode cX2_copyFrom 2 = .ok (.getfield 9, 3) := by decide +kernel
theorem dX2_copyFrom_5 : decode cX2_copyFrom 5 = .ok (.putfield 9, 3) := by decide +kernel
theorem dX2_copyFrom_8 : decode cX2_copyFrom 8 = .ok (.aload_n 0, 1) := by decide +kernel
theorem dX2_copyFrom_9 : decode cX2_copyFrom 9 = .ok (.aload_n 1, 1) := by decide +kernel
theorem dX2_copyFrom_10 : decode cX2_copyFrom 10 = .ok (.getfield 15, 3) := by decide +kernel
theorem dX2_copyFrom_13 : decode cX2_copyFrom 13 = .ok (.putfield 15, 3) := by decide +kernel
theorem dX2_copyFrom_16 : decode cX2_copyFrom 16 = .ok (.aload_n 0, 1) := by decide +kernel
theorem dX2_copyFrom_17 : decode cX2_copyFrom 17 = .ok (.aload_n 1, 1) := by decide +kernel
theorem dX2_copyFrom_18 : decode cX2_copyFrom 18 = .ok (.getfield 22, 3) := by decide +kernel
theorem dX2_copyFrom_21 : decode cX2_copyFrom 21 = .ok (.putfield 22, 3) := by decide +kernel
theorem dX2_copyFrom_24 : decode cX2_copyFrom 24 = .ok (.aload_n 1, 1) := by decide +kernel
theorem dX2_copyFrom_25 : decode cX2_copyFrom 25 = .ok (.getfield 18, 3) := by decide +kernel
theorem dX2_copyFrom_28 : decode cX2_copyFrom 28 = .ok (.aload_n 0, 1) := by decide +kernel
theorem dX2_copyFrom_29 : decode cX2_copyFrom 29 = .ok (.getfield 18, 3) := by decide +kernel
theorem dX2_copyFrom_32 : decode cX2_copyFrom 32 = .ok (.invokestatic 50, 3) := by decide +kernel
theorem dX2_copyFrom_35 : decode cX2_copyFrom 35 = .ok (.aload_n 1, 1) := by decide +kernel
theorem dX2_copyFrom_36 : decode cX2_copyFrom 36 = .ok (.getfield 25, 3) := by decide +kernel
theorem dX2_copyFrom_39 : decode cX2_copyFrom 39 = .ok (.aload_n 0, 1) := by decide +kernel
theorem dX2_copyFrom_40 : decode cX2_copyFrom 40 = .ok (.getfield 25, 3) := by decide +kernel
theorem dX2_copyFrom_43 : decode cX2_copyFrom 43 = .ok (.invokestatic 50, 3) := by decide +kernel
theorem dX2_copyFrom_46 : decode cX2_copyFrom 46 = .ok (.aload_n 1, 1) := by decide +kernel
theorem dX2_copyFrom_47 : decode cX2_copyFrom 47 = .ok (.getfield 28, 3) := by decide +kernel
theorem dX2_copyFrom_50 : decode cX2_copyFrom 50 = .ok (.aload_n 0, 1) := by decide +kernel
theorem dX2_copyFrom_51 : decode cX2_copyFrom 51 = .ok (.getfield 28, 3) := by decide +kernel
theorem dX2_copyFrom_54 : decode cX2_copyFrom 54 = .ok (.invokestatic 50, 3) := by decide +kernel
theorem dX2_copyFrom_57 : decode cX2_copyFrom 57 = .ok (.aload_n 1, 1) := by decide +kernel
theorem dX2_copyFrom_58 : decode cX2_copyFrom 58 = .ok (.getfield 31, 3) := by decide +kernel
theorem dX2_copyFrom_61 : decode cX2_copyFrom 61 = .ok (.aload_n 0, 1) := by decide +kernel
theorem dX2_copyFrom_62 : decode cX2_copyFrom 62 = .ok (.getfield 31, 3) := by decide +kernel
theorem dX2_copyFrom_65 : decode cX2_copyFrom 65 = .ok (.invokestatic 50, 3) := by decide +kernel
theorem dX2_copyFrom_68 : decode cX2_copyFrom 68 = .ok (.aload_n 1, 1) := by decide +kernel
theorem dX2_copyFrom_69 : decode cX2_copyFrom 69 = .ok (.getfield 34, 3) := by decide +kernel
theorem dX2_copyFrom_72 : decode cX2_copyFrom 72 = .ok (.aload_n 0, 1) := by decide +kernel
theorem dX2_copyFrom_73 : decode cX2_copyFrom 73 = .ok (.getfield 34, 3) := by decide +kernel
theorem dX2_copyFrom_76 : decode cX2_copyFrom 76 = .ok (.invokestatic 50, 3) := by decide +kernel
theorem dX2_copyFrom_79 : decode cX2_copyFrom 79 = .ok (.aload_n 1, 1) := by decide +kernel
theorem dX2_copyFrom_80 : decode cX2_copyFrom 80 = .ok (.getfield 37, 3) := by decide +kernel
theorem dX2_copyFrom_83 : decode cX2_copyFrom 83 = .ok (.aload_n 0, 1) := by decide +kernel
theorem dX2_copyFrom_84 : decode cX2_copyFrom 84 = .ok (.getfield 37, 3) := by decide +kernel
theorem dX2_copyFrom_87 : decode cX2_copyFrom 87 = .ok (.invokestatic 50, 3) := by decide +kernel
theorem dX2_copyFrom_90 : decode cX2_copyFrom 90 = .ok (.return_, 1) := by decide +kernel
theorem dX3_init_0 : decode cX3_init 0 = .ok (.aload_n 0, 1) := by decide +kernel
theorem dX3_init_1 : decode cX3_init 1 = .ok (.invokespecial 3, 3) := by decide +kernel
theorem dX3_init_4 : decode cX3_init 4 = .ok (.aload_n 0, 1) := by decide +kernel
theorem dX3_init_5 : decode cX3_init 5 = .ok (.new 9, 3) := by decide +kernel
theorem dX3_init_8 : decode cX3_init 8 = .ok (.dup, 1) := by decide +kernel
theorem dX3_init_9 : decode cX3_init 9 = .ok (.invokespecial 11, 3) := by decide +kernel
theorem dX3_init_12 : decode cX3_init 12 = .ok (.putfield 12, 3) := by decide +kernel
theorem dX3_init_15 : decode cX3_init 15 = .ok (.aload_n 0, 1) := by decide +kernel
theorem dX3_init_16 : decode cX3_init 16 = .ok (.iconst 0, 1) := by decide +kernel
theorem dX3_init_17 : decode cX3_init 17 = .ok (.putfield 18, 3) := by decide +kernel
theorem dX3_init_20 : decode cX3_init 20 = .ok (.aload_n 0, 1) := by decide +kernel
theorem dX3_init_21 : decode cX3_init 21 = .ok (.iconst (-1), 1) := by decide +kernel
theorem dX3_init_22 : decode cX3_init 22 = .ok (.putfield 22, 3) := by decide +kernel
theorem dX3_init_25 : decode cX3_init 25 = .ok (.aload_n 0, 1) := by decide +kernel
theorem dX3_init_26 : decode cX3_init 26 = .ok (.sipush 500, 3) := by decide +kernel
theorem dX3_init_29 : decode cX3_init 29 = .ok (.newarray .int, 2) := by decide +kernel
theorem dX3_init_31 : decode cX3_init 31 = .ok (.putfield 25, 3) := by decide +kernel
theorem dX3_init_34 : decode cX3_init 34 = .ok (.aload_n 0, 1) := by decide +kernel
theorem dX3_init_35 : decode cX3_init 35 = .ok (.iconst 0, 1) := by decide +kernel
theorem dX3_init_36 : decode cX3_init 36 = .ok (.putfield 29, 3) := by decide +kernel
theorem dX3_init_39 : decode cX3_init 39 = .ok (.aload_n 0, 1) := by decide +kernel
theorem dX3_init_40 : decode cX3_init 40 = .ok (.iconst 0, 1) := by decide +kernel
theorem dX3_init_41 : decode cX3_init 41 = .ok (.putfield 32, 3) := by decide +kernel
theorem dX3_init_44 : decode cX3_init 44 = .ok (.aload_n 0, 1) := by decide +kernel
theorem dX3_init_45 : decode cX3_init 45 = .ok (.iconst 0, 1) := by decide +kernel
theorem dX3_init_46 : decode cX3_init 46 = .ok (.putfield 35, 3) := by decide +kernel
theorem dX3_init_49 : decode cX3_init 49 = .ok (.aload_n 0, 1) := by decide +kernel
theorem dX3_init_50 : decode cX3_init 50 = .ok (.iconst 0, 1) := by decide +kernel
theorem dX3_init_51 : decode cX3_init 51 = .ok (.putfield 38, 3) := by decide +kernel
theorem dX3_init_54 : decode cX3_init 54 = .ok (.aload_n 0, 1) := by decide +kernel
theorem dX3_init_55 : decode cX3_init 55 = .ok (.iconst 0, 1) := by decide +kernel
theorem dX3_init_56 : decode cX3_init 56 = .ok (.putfield 41, 3) := by decide +kernel
theorem dX3_init_59 : decode cX3_init 59 = .ok (.return_, 1) := by decide +kernel
theorem dX3_parse_0 : decode cX3_parse 0 = .ok (.aload_n 1, 1) := by decide +kernel
theorem dX3_parse_1 : decode cX3_parse 1 = .ok (.aload_n 0, 1) := by decide +kernel
theorem dX3_parse_2 : decode cX3_parse 2 = .ok (.getfield 25, 3) := by decide +kernel
theorem dX3_parse_5 : decode cX3_parse 5 = .ok (.invokestatic 44, 3) := by decide +kernel
theorem dX3_parse_8 : decode cX3_parse 8 = .ok (.aload_n 0, 1) := by decide +kernel
theorem dX3_parse_9 : decode cX3_parse 9 = .ok (.iload_n 2, 1) := by decide +kernel
theorem dX3_parse_10 : decode cX3_parse 10 = .ok (.putfield 29, 3) := by decide +kernel
theorem dX3_parse_13 : decode cX3_parse 13 = .ok (.aload_n 0, 1) := by decide +kernel
theorem dX3_parse_14 : decode cX3_parse 14 = .ok (.iconst 0, 1) := by decide +kernel
theorem dX3_parse_15 : decode cX3_parse 15 = .ok (.putfield 32, 3) := by decide +kernel
theorem dX3_parse_18 : decode cX3_parse 18 = .ok (.aload_n 0, 1) := by decide +kernel
theorem dX3_parse_19 : decode cX3_parse 19 = .ok (.iconst 0, 1) := by decide +kernel
theorem dX3_parse_20 : decode cX3_parse 20 = .ok (.putfield 18, 3) := by decide +kernel
theorem dX3_parse_23 : decode cX3_parse 23 = .ok (.aload_n 0, 1) := by decide +kernel
theorem dX3_parse_24 : decode cX3_parse 24 = .ok (.iconst (-1), 1) := by decide +kernel
theorem dX3_parse_25 : decode cX3_parse 25 = .ok (.putfield 22, 3) := by decide +kernel
theorem dX3_parse_28 : decode cX3_parse 28 = .ok (.aload_n 0, 1) := by decide +kernel
theorem dX3_parse_29 : decode cX3_parse 29 = .ok (.invokevirtual 50, 3) := by decide +kernel
theorem dX3_parse_32 : decode cX3_parse 32 = .ok (.iconst 0, 1) := by decide +kernel
theorem dX3_parse_33 : decode cX3_parse 33 = .ok (.istore_n 3, 1) := by decide +kernel
theorem dX3_parse_34 : decode cX3_parse 34 = .ok (.iload_n 3, 1) := by decide +kernel
theorem dX3_parse_35 : decode cX3_parse 35 = .ok (.sipush 500, 3) := by decide +kernel
theorem dX3_parse_38 : decode cX3_parse 38 = .ok (.if_icmp .gt 29, 3) := by decide +kernel
theorem dX3_parse_41 : decode cX3_parse 41 = .ok (.aload_n 0, 1) := by decide +kernel
theorem dX3_parse_42 : decode cX3_parse 42 = .ok (.getfield 35, 3) := by decide +kernel
theorem dX3_parse_45 : decode cX3_parse 45 = .ok (.ifCond .eq 22, 3) := by decide +kernel
theorem dX3_parse_48 : decode cX3_parse 48 = .ok (.aload_n 0, 1) := by decide +kernel
theorem dX3_parse_49 : decode cX3_parse 49 = .ok (.getfield 18, 3) := by decide +kernel
theorem dX3_parse_52 : decode cX3_parse 52 = .ok (.iconst 1, 1) := by decide +kernel
theorem dX3_parse_53 : decode cX3_parse 53 = .ok (.if_icmp .eq 14, 3) := by decide +kernel
theorem dX3_parse_56 : decode cX3_parse 56 = .ok (.aload_n 0, 1) := by decide +kernel
theorem dX3_parse_57 : decode cX3_parse 57 = .ok (.iload_n 3, 1) := by decide +kernel
theorem dX3_parse_58 : decode cX3_parse 58 = .ok (.invokevirtual 53, 3) := by decide +kernel
theorem dX3_parse_61 : decode cX3_parse 61 = .ok (.iinc 3 1, 3) := by decide +kernel
theorem dX3_parse_64 : decode cX3_parse 64 = .ok (.goto (-30), 3) := by decide +kernel
theorem dX3_parse_67 : decode cX3_parse 67 = .ok (.aload_n 0, 1) := by decide +kernel
theorem dX3_parse_68 : decode cX3_parse 68 = .ok (.getfield 12, 3) := by decide +kernel
theorem dX3_parse_71 : decode cX3_parse 71 = .ok (.iload_n 3, 1) := by decide +kernel
theorem dX3_parse_72 : decode cX3_parse 72 = .ok (.bipush 16, 2) := by decide +kernel
theorem dX3_parse_74 : decode cX3_parse 74 = .ok (.invokestatic 57, 3) := by decide +kernel
theorem dX3_parse_77 : decode cX3_parse 77 = .ok (.putfield 63, 3) := by decide +kernel
theorem dX3_parse_80 : decode cX3_parse 80 = .ok (.return_, 1) := by decide +kernel
theorem dX3_parseLine_0 : decode cX3_parseLine 0 = .ok (.iload_n 1, 1) := by decide +kernel
theorem dX3_parseLine_1 : decode cX3_parseLine 1 = .ok (.bipush 16, 2) := by decide +kernel
theorem dX3_parseLine_3 : decode cX3_parseLine 3 = .ok (.if_icmp .ne 8, 3) := by decide +kernel
theorem dX3_parseLine_6 : decode cX3_parseLine 6 = .ok (.aload_n 0, 1) := by decide +kernel
theorem dX3_parseLine_7 : decode cX3_parseLine 7 = .ok (.iconst 3, 1) := by decide +kernel
theorem dX3_parseLine_8 : decode cX3_parseLine 8 = .ok (.invokevirtual 66, 3) := by decide +kernel
theorem dX3_parseLine_11 : decode cX3_parseLine 11 = .ok (.iconst 0, 1) := by decide +kernel
theorem dX3_parseLine_12 : decode cX3_parseLine 12 = .ok (.istore_n 2, 1) := by decide +kernel
theorem dX3_parseLine_13 : decode cX3_parseLine 13 = .ok (.aload_n 0, 1) := by decide +kernel
theorem dX3_parseLine_14 : decode cX3_parseLine 14 = .ok (.ldc 69, 2) := by decide +kernel
theorem dX3_parseLine_16 : decode cX3_parseLine 16 = .ok (.invokevirtual 71, 3) := by decide +kernel
theorem dX3_parseLine_19 : decode cX3_parseLine 19 = .ok (.ifCond .eq 24, 3) := by decide +kernel
theorem dX3_parseLine_22 : decode cX3_parseLine 22 = .ok (.aload_n 0, 1) := by decide +kernel
theorem dX3_parseLine_23 : decode cX3_parseLine 23 = .ok (.iload_n 1, 1) := by decide +kernel
theorem dX3_parseLine_24 : decode cX3_parseLine 24 = .ok (.invokevirtual 75, 3) := by decide +kernel
theorem dX3_parseLine_27 : decode cX3_parseLine 27 = .ok (.istore_n 2, 1) := by decide +kernel
theorem dX3_parseLine_28 : decode cX3_parseLine 28 = .ok (.iload_n 2, 1) := by decide +kernel
theorem dX3_parseLine_29 : decode cX3_parseLine 29 = .ok (.iconst (-1), 1) := by decide +kernel
theorem dX3_parseLine_30 : decode cX3_parseLine 30 = .ok (.if_icmp .eq 12, 3) := by decide +kernel
theorem dX3_parseLine_33 : decode cX3_parseLine 33 = .ok (.aload_n 0, 1) := by decide +kernel
theorem dX3_parseLine_34 : decode cX3_parseLine 34 = .ok (.bipush 58, 2) := by decide +kernel
theorem dX3_parseLine_36 : decode cX3_parseLine 36 = .ok (.invokevirtual 79, 3) := by decide +kernel
theorem dX3_parseLine_39 : decode cX3_parseLine 39 = .ok (.ifCond .ne 4, 3) := by decide +kernel
theorem dX3_parseLine_42 : decode cX3_parseLine 42 = .ok (.return_, 1) := by decide +kernel
theorem dX3_parseLine_43 : decode cX3_parseLine 43 = .ok (.aload_n 0, 1) := by decide +kernel
theorem dX3_parseLine_44 : decode cX3_parseLine 44 = .ok (.getfield 12, 3) := by decide +kernel
theorem dX3_parseLine_47 : decode cX3_parseLine 47 = .ok (.iload_n 1, 1) := by decide +kernel
theorem dX3_parseLine_48 : decode cX3_parseLine 48 = .ok (.iload_n 2, 1) := by decide +kernel
theorem dX3_parseLine_49 : decode cX3_parseLine 49 = .ok (.invokevirtual 83, 3) := by decide +kernel
theorem dX3_parseLine_52 : decode cX3_parseLine 52 = .ok (.aload_n 0, 1) := by decide +kernel
theorem dX3_parseLine_53 : decode cX3_parseLine 53 = .ok (.iload_n 1, 1) := by decide +kernel
theorem dX3_parseLine_54 : decode cX3_parseLine 54 = .ok (.invokevirtual 87, 3) := by decide +kernel
theorem dX3_parseLine_57 : decode cX3_parseLine 57 = .ok (.ifCond .eq 10, 3) := by decide +kernel
theorem dX3_parseLine_60 : decode cX3_parseLine 60 = .ok (.aload_n 0, 1) := by decide +kernel
theorem dX3_parseLine_61 : decode cX3_parseLine 61 = .ok (.bipush 59, 2) := by decide +kernel
theorem dX3_parseLine_63 : decode cX3_parseLine 63 = .ok (.invokevirtual 79, 3) := by decide +kernel
theorem dX3_parseLine_66 : decode cX3_parseLine 66 = .ok (.pop, 1) := by decide +kernel
theorem dX3_parseLine_67 : decode cX3_parseLine 67 = .ok (.return_, 1) := by decide +kernel
theorem dX3_parseTests_0 : decode cX3_parseTests 0 = .ok (.iconst 0, 1) := by decide +kernel
theorem dX3_parseTests_1 : decode cX3_parseTests 1 = .ok (.istore_n 2, 1) := by decide +kernel
theorem dX3_parseTests_2 : decode cX3_parseTests 2 = .ok (.aload_n 0, 1) := by decide +kernel
theorem dX3_parseTests_3 : decode cX3_parseTests 3 = .ok (.invokevirtual 50, 3) := by decide +kernel
theorem dX3_parseTests_6 : decode cX3_parseTests 6 = .ok (.iload_n 2, 1) := by decide +kernel
theorem dX3_parseTests_7 : decode cX3_parseTests 7 = .ok (.iconst 4, 1) := by decide +kernel
theorem dX3_parseTests_8 : decode cX3_parseTests 8 = .ok (.if_icmp .ne 8, 3) := by decide +kernel
theorem dX3_parseTests_11 : decode cX3_parseTests 11 = .ok (.aload_n 0, 1) := by decide +kernel
theorem dX3_parseTests_12 : decode cX3_parseTests 12 = .ok (.iconst 3, 1) := by decide +kernel
theorem dX3_parseTests_13 : decode cX3_parseTests 13 = .ok (.invokevirtual 66, 3) := by decide +kernel
theorem dX3_parseTests_16 : decode cX3_parseTests 16 = .ok (.aload_n 0, 1) := by decide +kernel
theorem dX3_parseTests_17 : decode cX3_parseTests 17 = .ok (.iload_n 1, 1) := by decide +kernel
theorem dX3_parseTests_18 : decode cX3_parseTests 18 = .ok (.iload_n 2, 1) := by decide +kernel
theorem dX3_parseTests_19 : decode cX3_parseTests 19 = .ok (.invokevirtual 91, 3) := by decide +kernel
theorem dX3_parseTests_22 : decode cX3_parseTests 22 = .ok (.ifCond .ne 5, 3) := by decide +kernel
theorem dX3_parseTests_25 : decode cX3_parseTests 25 = .ok (.iconst (-1), 1) := by decide +kernel
theorem dX3_parseTests_26 : decode cX3_parseTests 26 = .ok (.ireturn, 1) := by decide +kernel
theorem dX3_parseTests_27 : decode cX3_parseTests 27 = .ok (.iinc 2 1, 3) := by decide +kernel
theorem dX3_parseTests_30 : decode cX3_parseTests 30 = .ok (.iload_n 2, 1) := by decide +kernel
theorem dX3_parseTests_31 : decode cX3_parseTests 31 = .ok (.sipush 500, 3) := by decide +kernel
theorem dX3_parseTests_34 : decode cX3_parseTests 34 = .ok (.if_icmp .gt 12, 3) := by decide +kernel
theorem dX3_parseTests_37 : decode cX3_parseTests 37 = .ok (.aload_n 0, 1) := by decide +kernel
theorem dX3_parseTests_38 : decode cX3_parseTests 38 = .ok (.ldc 95, 2) := by decide +kernel
theorem dX3_parseTests_40 : decode cX3_parseTests 40 = .ok (.invokevirtual 71, 3) := by decide +kernel
theorem dX3_parseTests_43 : decode cX3_parseTests 43 = .ok (.ifCond .ne (-41), 3) := by decide +kernel
theorem dX3_parseTests_46 : decode cX3_parseTests 46 = .ok (.iload_n 2, 1) := by decide +kernel
theorem dX3_parseTests_47 : decode cX3_parseTests 47 = .ok (.ireturn, 1) := by decide +kernel
theorem dX3_parseTest_0 : decode cX3_parseTest 0 = .ok (.iconst 0, 1) := by decide +kernel
theorem dX3_parseTest_1 : decode cX3_parseTest 1 = .ok (.istore_n 3, 1) := by decide +kernel
theorem dX3_parseTest_2 : decode cX3_parseTest 2 = .ok (.aload_n 0, 1) := by decide +kernel
theorem dX3_parseTest_3 : decode cX3_parseTest 3 = .ok (.ldc 97, 2) := by decide +kernel
theorem dX3_parseTest_5 : decode cX3_parseTest 5 = .ok (.invokevirtual 71, 3) := by decide +kernel
theorem dX3_parseTest_8 : decode cX3_parseTest 8 = .ok (.ifCond .eq 9, 3) := by decide +kernel
theorem dX3_parseTest_11 : decode cX3_parseTest 11 = .ok (.iconst 1, 1) := by decide +kernel
theorem dX3_parseTest_12 : decode cX3_parseTest 12 = .ok (.istore_n 3, 1) := by decide +kernel
theorem dX3_parseTest_13 : decode cX3_parseTest 13 = .ok (.aload_n 0, 1) := by decide +kernel
theorem dX3_parseTest_14 : decode cX3_parseTest 14 = .ok (.invokevirtual 50, 3) := by decide +kernel
theorem dX3_parseTest_17 : decode cX3_parseTest 17 = .ok (.aload_n 0, 1) := by decide +kernel
theorem dX3_parseTest_18 : decode cX3_parseTest 18 = .ok (.invokevirtual 99, 3) := by decide +kernel
theorem dX3_parseTest_21 : decode cX3_parseTest 21 = .ok (.istore 4, 2) := by decide +kernel
theorem dX3_parseTest_23 : decode cX3_parseTest 23 = .ok (.iload 4, 2) := by decide +kernel
theorem dX3_parseTest_25 : decode cX3_parseTest 25 = .ok (.iconst (-1), 1) := by decide +kernel
theorem dX3_parseTest_26 : decode cX3_parseTest 26 = .ok (.if_icmp .ne 8, 3) := by decide +kernel
theorem dX3_parseTest_29 : decode cX3_parseTest 29 = .ok (.aload_n 0, 1) := by decide +kernel
theorem dX3_parseTest_30 : decode cX3_parseTest 30 = .ok (.invokevirtual 103, 3) := by decide +kernel
theorem dX3_parseTest_33 : decode cX3_parseTest 33 = .ok (.ireturn, 1) := by decide +kernel
theorem dX3_parseTest_34 : decode cX3_parseTest 34 = .ok (.aload_n 0, 1) := by decide +kernel
theorem dX3_parseTest_35 : decode cX3_parseTest 35 = .ok (.invokevirtual 50, 3) := by decide +kernel
theorem dX3_parseTest_38 : decode cX3_parseTest 38 = .ok (.bipush 61, 2) := by decide +kernel
theorem dX3_parseTest_40 : decode cX3_parseTest 40 = .ok (.istore 5, 2) := by decide +kernel
theorem dX3_parseTest_42 : decode cX3_parseTest 42 = .ok (.iconst 1, 1) := by decide +kernel
theorem dX3_parseTest_43 : decode cX3_parseTest 43 = .ok (.istore 6, 2) := by decide +kernel
theorem dX3_parseTest_45 : decode cX3_parseTest 45 = .ok (.iload 4, 2) := by decide +kernel
theorem dX3_parseTest_47 : decode cX3_parseTest 47 = .ok (.iconst 3, 1) := by decide +kernel
theorem dX3_parseTest_48 : decode cX3_parseTest 48 = .ok (.if_icmp .lt 68, 3) := by decide +kernel
theorem dX3_parseTest_51 : decode cX3_parseTest 51 = .ok (.aload_n 0, 1) := by decide +kernel
theorem dX3_parseTest_52 : decode cX3_parseTest 52 = .ok (.bipush 60, 2) := by decide +kernel
theorem dX3_parseTest_54 : decode cX3_parseTest 54 = .ok (.invokevirtual 107, 3) := by decide +kernel
theorem dX3_parseTest_57 : decode cX3_parseTest 57 = .ok (.ifCond .ne 26, 3) := by decide +kernel
theorem dX3_parseTest_60 : decode cX3_parseTest 60 = .ok (.aload_n 0, 1) := by decide +kernel
theorem dX3_parseTest_61 : decode cX3_parseTest 61 = .ok (.bipush 62, 2) := by decide +kernel
theorem dX3_parseTest_63 : decode cX3_parseTest 63 = .ok (.invokevirtual 107, 3) := by decide +kernel
theorem dX3_parseTest_66 : decode cX3_parseTest 66 = .ok (.ifCond .ne 17, 3) := by decide +kernel
theorem dX3_parseTest_69 : decode cX3_parseTest 69 = .ok (.aload_n 0, 1) := by decide +kernel
theorem dX3_parseTest_70 : decode cX3_parseTest 70 = .ok (.bipush 61, 2) := by decide +kernel
theorem dX3_parseTest_72 : decode cX3_parseTest 72 = .ok (.invokevirtual 107, 3) := by decide +kernel
theorem dX3_parseTest_75 : decode cX3_parseTest 75 = .ok (.ifCond .ne 8, 3) := by decide +kernel
theorem dX3_parseTest_78 : decode cX3_parseTest 78 = .ok (.aload_n 0, 1) := by decide +kernel
theorem dX3_parseTest_79 : decode cX3_parseTest 79 = .ok (.invokevirtual 103, 3) := by decide +kernel
theorem dX3_parseTest_82 : decode cX3_parseTest 82 = .ok (.ireturn, 1) := by decide +kernel
theorem dX3_parseTest_83 : decode cX3_parseTest 83 = .ok (.aload_n 0, 1) := by decide +kernel
theorem dX3_parseTest_84 : decode cX3_parseTest 84 = .ok (.getfield 41, 3) := by decide +kernel
theorem dX3_parseTest_87 : decode cX3_parseTest 87 = .ok (.istore 5, 2) := by decide +kernel
theorem dX3_parseTest_89 : decode cX3_parseTest 89 = .ok (.aload_n 0, 1) := by decide +kernel
theorem dX3_parseTest_90 : decode cX3_parseTest 90 = .ok (.invokevirtual 50, 3) := by decide +kernel
theorem dX3_parseTest_93 : decode cX3_parseTest 93 = .ok (.aload_n 0, 1) := by decide +kernel
theorem dX3_parseTest_94 : decode cX3_parseTest 94 = .ok (.getfield 35, 3) := by decide +kernel
theorem dX3_parseTest_97 : decode cX3_parseTest 97 = .ok (.iconst 2, 1) := by decide +kernel
theorem dX3_parseTest_98 : decode cX3_parseTest 98 = .ok (.if_icmp .eq 8, 3) := by decide +kernel
theorem dX3_parseTest_101 : decode cX3_parseTest 101 = .ok (.aload_n 0, 1) := by decide +kernel
theorem dX3_parseTest_102 : decode cX3_parseTest 102 = .ok (.invokevirtual 103, 3) := by decide +kernel
theorem dX3_parseTest_105 : decode cX3_parseTest 105 = .ok (.ireturn, 1) := by decide +kernel
theorem dX3_parseTest_106 : decode cX3_parseTest 106 = .ok (.aload_n 0, 1) := by decide +kernel
theorem dX3_parseTest_107 : decode cX3_parseTest 107 = .ok (.getfield 41, 3) := by decide +kernel
theorem dX3_parseTest_110 : decode cX3_parseTest 110 = .ok (.istore 6, 2) := by decide +kernel
theorem dX3_parseTest_112 : decode cX3_parseTest 112 = .ok (.aload_n 0, 1) := by decide +kernel
theorem dX3_parseTest_113 : decode cX3_parseTest 113 = .ok (.invokevirtual 50, 3) := by decide +kernel
theorem dX3_parseTest_116 : decode cX3_parseTest 116 = .ok (.aload_n 0, 1) := by decide +kernel
theorem dX3_parseTest_117 : decode cX3_parseTest 117 = .ok (.getfield 12, 3) := by decide +kernel
theorem dX3_parseTest_120 : decode cX3_parseTest 120 = .ok (.iload_n 1, 1) := by decide +kernel
theorem dX3_parseTest_121 : decode cX3_parseTest 121 = .ok (.iload_n 2, 1) := by decide +kernel
theorem dX3_parseTest_122 : decode cX3_parseTest 122 = .ok (.iload_n 3, 1) := by decide +kernel
theorem dX3_parseTest_123 : decode cX3_parseTest 123 = .ok (.iload 4, 2) := by decide +kernel
theorem dX3_parseTest_125 : decode cX3_parseTest 125 = .ok (.iload 5, 2) := by decide +kernel
theorem dX3_parseTest_127 : decode cX3_parseTest 127 = .ok (.iload 6, 2) := by decide +kernel
theorem dX3_parseTest_129 : decode cX3_parseTest 129 = .ok (.invokevirtual 110, 3) := by decide +kernel
theorem dX3_parseTest_132 : decode cX3_parseTest 132 = .ok (.iconst 1, 1) := by decide +kernel
theorem dX3_parseTest_133 : decode cX3_parseTest 133 = .ok (.ireturn, 1) := by decide +kernel
theorem dX3_parseDeed_0 : decode cX3_parseDeed 0 = .ok (.aload_n 0, 1) := by decide +kernel
theorem dX3_parseDeed_1 : decode cX3_parseDeed 1 = .ok (.ldc 114, 2) := by decide +kernel
theorem dX3_parseDeed_3 : decode cX3_parseDeed 3 = .ok (.invokevirtual 71, 3) := by decide +kernel
theorem dX3_parseDeed_6 : decode cX3_parseDeed 6 = .ok (.ifCond .eq 19, 3) := by decide +kernel
theorem dX3_parseDeed_9 : decode cX3_parseDeed 9 = .ok (.aload_n 0, 1) := by decide +kernel
theorem dX3_parseDeed_10 : decode cX3_parseDeed 10 = .ok (.getfield 12, 3) := by decide +kernel
theorem dX3_parseDeed_13 : decode cX3_parseDeed 13 = .ok (.iload_n 1, 1) := by decide +kernel
theorem dX3_parseDeed_14 : decode cX3_parseDeed 14 = .ok (.iconst 0, 1) := by decide +kernel
theorem dX3_parseDeed_15 : decode cX3_parseDeed 15 = .ok (.iconst 0, 1) := by decide +kernel
theorem dX3_parseDeed_16 : decode cX3_parseDeed 16 = .ok (.invokevirtual 116, 3) := by decide +kernel
theorem dX3_parseDeed_19 : decode cX3_parseDeed 19 = .ok (.aload_n 0, 1) := by decide +kernel
theorem dX3_parseDeed_20 : decode cX3_parseDeed 20 = .ok (.invokevirtual 50, 3) := by decide +kernel
theorem dX3_parseDeed_23 : decode cX3_parseDeed 23 = .ok (.iconst 1, 1) := by decide +kernel
theorem dX3_parseDeed_24 : decode cX3_parseDeed 24 = .ok (.ireturn, 1) := by decide +kernel
theorem dX3_parseDeed_25 : decode cX3_parseDeed 25 = .ok (.aload_n 0, 1) := by decide +kernel
theorem dX3_parseDeed_26 : decode cX3_parseDeed 26 = .ok (.ldc 120, 2) := by decide +kernel
theorem dX3_parseDeed_28 : decode cX3_parseDeed 28 = .ok (.invokevirtual 71, 3) := by decide +kernel
theorem dX3_parseDeed_31 : decode cX3_parseDeed 31 = .ok (.istore_n 2, 1) := by decide +kernel
theorem dX3_parseDeed_32 : decode cX3_parseDeed 32 = .ok (.iload_n 2, 1) := by decide +kernel
theorem dX3_parseDeed_33 : decode cX3_parseDeed 33 = .ok (.ifCond .ne 17, 3) := by decide +kernel
theorem dX3_parseDeed_36 : decode cX3_parseDeed 36 = .ok (.aload_n 0, 1) := by decide +kernel
theorem dX3_parseDeed_37 : decode cX3_parseDeed 37 = .ok (.ldc 122, 2) := by decide +kernel
theorem dX3_parseDeed_39 : decode cX3_parseDeed 39 = .ok (.invokevirtual 71, 3) := by decide +kernel
theorem dX3_parseDeed_42 : decode cX3_parseDeed 42 = .ok (.ifCond .ne 8, 3) := by decide +kernel
theorem dX3_parseDeed_45 : decode cX3_parseDeed 45 = .ok (.aload_n 0, 1) := by decide +kernel
theorem dX3_parseDeed_46 : decode cX3_parseDeed 46 = .ok (.invokevirtual 103, 3) := by decide +kernel
theorem dX3_parseDeed_49 : decode cX3_parseDeed 49 = .ok (.ireturn, 1) := by decide +kernel
theorem dX3_parseDeed_50 : decode cX3_parseDeed 50 = .ok (.aload_n 0, 1) := by decide +kernel
theorem dX3_parseDeed_51 : decode cX3_parseDeed 51 = .ok (.invokevirtual 50, 3) := by decide +kernel
theorem dX3_parseDeed_54 : decode cX3_parseDeed 54 = .ok (.aload_n 0, 1) := by decide +kernel
theorem dX3_parseDeed_55 : decode cX3_parseDeed 55 = .ok (.getfield 35, 3) := by decide +kernel
theorem dX3_parseDeed_58 : decode cX3_parseDeed 58 = .ok (.iconst 2, 1) := by decide +kernel
theorem dX3_parseDeed_59 : decode cX3_parseDeed 59 = .ok (.if_icmp .eq 8, 3) := by decide +kernel
theorem dX3_parseDeed_62 : decode cX3_parseDeed 62 = .ok (.aload_n 0, 1) := by decide +kernel
theorem dX3_parseDeed_63 : decode cX3_parseDeed 63 = .ok (.invokevirtual 103, 3) := by decide +kernel
theorem dX3_parseDeed_66 : decode cX3_parseDeed 66 = .ok (.ireturn, 1) := by decide +kernel
theorem dX3_parseDeed_67 : decode cX3_parseDeed 67 = .ok (.iload_n 2, 1) := by decide +kernel
theorem dX3_parseDeed_68 : decode cX3_parseDeed 68 = .ok (.ifCond .eq 25, 3) := by decide +kernel
theorem dX3_parseDeed_71 : decode cX3_parseDeed 71 = .ok (.aload_n 0, 1) := by decide +kernel
theorem dX3_parseDeed_72 : decode cX3_parseDeed 72 = .ok (.getfield 41, 3) := by decide +kernel
theorem dX3_parseDeed_75 : decode cX3_parseDeed 75 = .ok (.iconst 1, 1) := by decide +kernel
theorem dX3_parseDeed_76 : decode cX3_parseDeed 76 = .ok (.if_icmp .lt 12, 3) := by decide +kernel
theorem dX3_parseDeed_79 : decode cX3_parseDeed 79 = .ok (.aload_n 0, 1) := by decide +kernel
theorem dX3_parseDeed_80 : decode cX3_parseDeed 80 = .ok (.getfield 41, 3) := by decide +kernel
theorem dX3_parseDeed_83 : decode cX3_parseDeed 83 = .ok (.bipush 99, 2) := by decide +kernel
theorem dX3_parseDeed_85 : decode cX3_parseDeed 85 = .ok (.if_icmp .le 8, 3) := by decide +kernel
theorem dX3_parseDeed_88 : decode cX3_parseDeed 88 = .ok (.aload_n 0, 1) := by decide +kernel
theorem dX3_parseDeed_89 : decode cX3_parseDeed 89 = .ok (.iconst 2, 1) := by decide +kernel
theorem dX3_parseDeed_90 : decode cX3_parseDeed 90 = .ok (.invokevirtual 66, 3) := by decide +kernel
theorem dX3_parseDeed_93 : decode cX3_parseDeed 93 = .ok (.aload_n 0, 1) := by decide +kernel
theorem dX3_parseDeed_94 : decode cX3_parseDeed 94 = .ok (.getfield 12, 3) := by decide +kernel
theorem dX3_parseDeed_97 : decode cX3_parseDeed 97 = .ok (.iload_n 1, 1) := by decide +kernel
theorem dX3_parseDeed_98 : decode cX3_parseDeed 98 = .ok (.iload_n 2, 1) := by decide +kernel
theorem dX3_parseDeed_99 : decode cX3_parseDeed 99 = .ok (.ifCond .eq 7, 3) := by decide +kernel
theorem dX3_parseDeed_102 : decode cX3_parseDeed 102 = .ok (.iconst 1, 1) := by decide +kernel
theorem dX3_parseDeed_103 : decode cX3_parseDeed 103 = .ok (.goto 4, 3) := by decide +kernel
theorem dX3_parseDeed_106 : decode cX3_parseDeed 106 = .ok (.iconst 2, 1) := by decide +kernel
theorem dX3_parseDeed_107 : decode cX3_parseDeed 107 = .ok (.aload_n 0, 1) := by decide +kernel
theorem dX3_parseDeed_108 : decode cX3_parseDeed 108 = .ok (.getfield 41, 3) := by decide +kernel
theorem dX3_parseDeed_111 : decode cX3_parseDeed 111 = .ok (.invokevirtual 116, 3) := by decide +kernel
theorem dX3_parseDeed_114 : decode cX3_parseDeed 114 = .ok (.aload_n 0, 1) := by decide +kernel
theorem dX3_parseDeed_115 : decode cX3_parseDeed 115 = .ok (.invokevirtual 50, 3) := by decide +kernel
theorem dX3_parseDeed_118 : decode cX3_parseDeed 118 = .ok (.iconst 1, 1) := by decide +kernel
theorem dX3_parseDeed_119 : decode cX3_parseDeed 119 = .ok (.ireturn, 1) := by decide +kernel
theorem dX3_breakHere_0 : decode cX3_breakHere 0 = .ok (.aload_n 0, 1) := by decide +kernel
theorem dX3_breakHere_1 : decode cX3_breakHere 1 = .ok (.iconst 1, 1) := by decide +kernel
theorem dX3_breakHere_2 : decode cX3_breakHere 2 = .ok (.putfield 18, 3) := by decide +kernel
theorem dX3_breakHere_5 : decode cX3_breakHere 5 = .ok (.aload_n 0, 1) := by decide +kernel
theorem dX3_breakHere_6 : decode cX3_breakHere 6 = .ok (.aload_n 0, 1) := by decide +kernel
theorem dX3_breakHere_7 : decode cX3_breakHere 7 = .ok (.getfield 38, 3) := by decide +kernel
theorem dX3_breakHere_10 : decode cX3_breakHere 10 = .ok (.putfield 22, 3) := by decide +kernel
theorem dX3_breakHere_13 : decode cX3_breakHere 13 = .ok (.iconst 0, 1) := by decide +kernel
theorem dX3_breakHere_14 : decode cX3_breakHere 14 = .ok (.ireturn, 1) := by decide +kernel
theorem dX3_note_0 : decode cX3_note 0 = .ok (.aload_n 0, 1) := by decide +kernel
theorem dX3_note_1 : decode cX3_note 1 = .ok (.getfield 18, 3) := by decide +kernel
theorem dX3_note_4 : decode cX3_note 4 = .ok (.ifCond .ne 16, 3) := by decide +kernel
theorem dX3_note_7 : decode cX3_note 7 = .ok (.aload_n 0, 1) := by decide +kernel
theorem dX3_note_8 : decode cX3_note 8 = .ok (.iload_n 1, 1) := by decide +kernel
theorem dX3_note_9 : decode cX3_note 9 = .ok (.putfield 18, 3) := by decide +kernel
theorem dX3_note_12 : decode cX3_note 12 = .ok (.aload_n 0, 1) := by decide +kernel
theorem dX3_note_13 : decode cX3_note 13 = .ok (.aload_n 0, 1) := by decide +kernel
theorem dX3_note_14 : decode cX3_note 14 = .ok (.getfield 38, 3) := by decide +kernel
theorem dX3_note_17 : decode cX3_note 17 = .ok (.putfield 22, 3) := by decide +kernel
theorem dX3_note_20 : decode cX3_note 20 = .ok (.return_, 1) := by decide +kernel
theorem dX3_takeSign_0 : decode cX3_takeSign 0 = .ok (.aload_n 0, 1) := by decide +kernel
theorem dX3_takeSign_1 : decode cX3_takeSign 1 = .ok (.iload_n 1, 1) := by decide +kernel
theorem dX3_takeSign_2 : decode cX3_takeSign 2 = .ok (.invokevirtual 107, 3) := by decide +kernel
theorem dX3_takeSign_5 : decode cX3_takeSign 5 = .ok (.ifCond .ne 8, 3) := by decide +kernel
theorem dX3_takeSign_8 : decode cX3_takeSign 8 = .ok (.aload_n 0, 1) := by decide +kernel
theorem dX3_takeSign_9 : decode cX3_takeSign 9 = .ok (.invokevirtual 103, 3) := by decide +kernel
theorem dX3_takeSign_12 : decode cX3_takeSign 12 = .ok (.ireturn, 1) := by decide +kernel
theorem dX3_takeSign_13 : decode cX3_takeSign 13 = .ok (.aload_n 0, 1) := by decide +kernel
theorem dX3_takeSign_14 : decode cX3_takeSign 14 = .ok (.invokevirtual 50, 3) := by decide +kernel
theorem dX3_takeSign_17 : decode cX3_takeSign 17 = .ok (.iconst 1, 1) := by decide +kernel
theorem dX3_takeSign_18 : decode cX3_takeSign 18 = .ok (.ireturn, 1) := by decide +kernel
theorem dX3_isSign_0 : decode cX3_isSign 0 = .ok (.aload_n 0, 1) := by decide +kernel
theorem dX3_isSign_1 : decode cX3_isSign 1 = .ok (.getfield 35, 3) := by decide +kernel
theorem dX3_isSign_4 : decode cX3_isSign 4 = .ok (.iconst 3, 1) := by decide +kernel
theorem dX3_isSign_5 : decode cX3_isSign 5 = .ok (.if_icmp .ne 15, 3) := by decide +kernel
theorem dX3_isSign_8 : decode cX3_isSign 8 = .ok (.aload_n 0, 1) := by decide +kernel
theorem dX3_isSign_9 : decode cX3_isSign 9 = .ok (.getfield 41, 3) := by decide +kernel
theorem dX3_isSign_12 : decode cX3_isSign 12 = .ok (.iload_n 1, 1) := by decide +kernel
theorem dX3_isSign_13 : decode cX3_isSign 13 = .ok (.if_icmp .ne 7, 3) := by decide +kernel
theorem dX3_isSign_16 : decode cX3_isSign 16 = .ok (.iconst 1, 1) := by decide +kernel
theorem dX3_isSign_17 : decode cX3_isSign 17 = .ok (.goto 4, 3) := by decide +kernel
theorem dX3_isSign_20 : decode cX3_isSign 20 = .ok (.iconst 0, 1) := by decide +kernel
theorem dX3_isSign_21 : decode cX3_isSign 21 = .ok (.ireturn, 1) := by decide +kernel
theorem dX3_isWord_0 : decode cX3_isWord 0 = .ok (.aload_n 0, 1) := by decide +kernel
theorem dX3_isWord_1 : decode cX3_isWord 1 = .ok (.getfield 35, 3) := by decide +kernel
theorem dX3_isWord_4 : decode cX3_isWord 4 = .ok (.iconst 1, 1) := by decide +kernel
theorem dX3_isWord_5 : decode cX3_isWord 5 = .ok (.if_icmp .ne 19, 3) := by decide +kernel
theorem dX3_isWord_8 : decode cX3_isWord 8 = .ok (.aload_n 0, 1) := by decide +kernel
theorem dX3_isWord_9 : decode cX3_isWord 9 = .ok (.getfield 32, 3) := by decide +kernel
theorem dX3_isWord_12 : decode cX3_isWord 12 = .ok (.aload_n 0, 1) := by decide +kernel
theorem dX3_isWord_13 : decode cX3_isWord 13 = .ok (.getfield 38, 3) := by decide +kernel
theorem dX3_isWord_16 : decode cX3_isWord 16 = .ok (.isub, 1) := by decide +kernel
theorem dX3_isWord_17 : decode cX3_isWord 17 = .ok (.aload_n 1, 1) := by decide +kernel
theorem dX3_isWord_18 : decode cX3_isWord 18 = .ok (.invokevirtual 124, 3) := by decide +kernel
theorem dX3_isWord_21 : decode cX3_isWord 21 = .ok (.if_icmp .eq 5, 3) := by decide +kernel
theorem dX3_isWord_24 : decode cX3_isWord 24 = .ok (.iconst 0, 1) := by decide +kernel
theorem dX3_isWord_25 : decode cX3_isWord 25 = .ok (.ireturn, 1) := by decide +kernel
theorem dX3_isWord_26 : decode cX3_isWord 26 = .ok (.iconst 0, 1) := by decide +kernel
theorem dX3_isWord_27 : decode cX3_isWord 27 = .ok (.istore_n 2, 1) := by decide +kernel
theorem dX3_isWord_28 : decode cX3_isWord 28 = .ok (.iload_n 2, 1) := by decide +kernel
theorem dX3_isWord_29 : decode cX3_isWord 29 = .ok (.aload_n 1, 1) := by decide +kernel
theorem dX3_isWord_30 : decode cX3_isWord 30 = .ok (.invokevirtual 124, 3) := by decide +kernel
theorem dX3_isWord_33 : decode cX3_isWord 33 = .ok (.if_icmp .ge 30, 3) := by decide +kernel
theorem dX3_isWord_36 : decode cX3_isWord 36 = .ok (.aload_n 0, 1) := by decide +kernel
theorem dX3_isWord_37 : decode cX3_isWord 37 = .ok (.getfield 25, 3) := by decide +kernel
theorem dX3_isWord_40 : decode cX3_isWord 40 = .ok (.aload_n 0, 1) := by decide +kernel
theorem dX3_isWord_41 : decode cX3_isWord 41 = .ok (.getfield 38, 3) := by decide +kernel
theorem dX3_isWord_44 : decode cX3_isWord 44 = .ok (.iload_n 2, 1) := by decide +kernel
theorem dX3_isWord_45 : decode cX3_isWord 45 = .ok (.iadd, 1) := by decide +kernel
theorem dX3_isWord_46 : decode cX3_isWord 46 = .ok (.iaload, 1) := by decide +kernel
theorem dX3_isWord_47 : decode cX3_isWord 47 = .ok (.aload_n 1, 1) := by decide +kernel
theorem dX3_isWord_48 : decode cX3_isWord 48 = .ok (.iload_n 2, 1) := by decide +kernel
theorem dX3_isWord_49 : decode cX3_isWord 49 = .ok (.invokevirtual 128, 3) := by decide +kernel
theorem dX3_isWord_52 : decode cX3_isWord 52 = .ok (.if_icmp .eq 5, 3) := by decide +kernel
theorem dX3_isWord_55 : decode cX3_isWord 55 = .ok (.iconst 0, 1) := by decide +kernel
theorem dX3_isWord_56 : decode cX3_isWord 56 = .ok (.ireturn, 1) := by decide +kernel
theorem dX3_isWord_57 : decode cX3_isWord 57 = .ok (.iinc 2 1, 3) := by decide +kernel
theorem dX3_isWord_60 : decode cX3_isWord 60 = .ok (.goto (-32), 3) := by decide +kernel
theorem dX3_isWord_63 : decode cX3_isWord 63 = .ok (.iconst 1, 1) := by decide +kernel
theorem dX3_isWord_64 : decode cX3_isWord 64 = .ok (.ireturn, 1) := by decide +kernel
theorem dX3_subjectOfWord_0 : decode cX3_subjectOfWord 0 = .ok (.iconst 0, 1) := by decide +kernel
theorem dX3_subjectOfWord_1 : decode cX3_subjectOfWord 1 = .ok (.istore_n 1, 1) := by decide +kernel
theorem dX3_subjectOfWord_2 : decode cX3_subjectOfWord 2 = .ok (.iload_n 1, 1) := by decide +kernel
theorem dX3_subjectOfWord_3 : decode cX3_subjectOfWord 3 = .ok (.bipush 10, 2) := by decide +kernel
theorem dX3_subjectOfWord_5 : decode cX3_subjectOfWord 5 = .ok (.if_icmp .ge 22, 3) := by decide +kernel
theorem dX3_subjectOfWord_8 : decode cX3_subjectOfWord 8 = .ok (.aload_n 0, 1) := by decide +kernel
theorem dX3_subjectOfWord_9 : decode cX3_subjectOfWord 9 = .ok (.iload_n 1, 1) := by decide +kernel
theorem dX3_subjectOfWord_10 : decode cX3_subjectOfWord 10 = .ok (.invokestatic 132, 3) := by decide +kernel
theorem dX3_subjectOfWord_13 : decode cX3_subjectOfWord 13 = .ok (.invokevirtual 71, 3) := by decide +kernel
theorem dX3_subjectOfWord_16 : decode cX3_subjectOfWord 16 = .ok (.ifCond .eq 5, 3) := by decide +kernel
theorem dX3_subjectOfWord_19 : decode cX3_subjectOfWord 19 = .ok (.iload_n 1, 1) := by decide +kernel
theorem dX3_subjectOfWord_20 : decode cX3_subjectOfWord 20 = .ok (.ireturn, 1) := by decide +kernel
theorem dX3_subjectOfWord_21 : decode cX3_subjectOfWord 21 = .ok (.iinc 1 1, 3) := by decide +kernel
theorem dX3_subjectOfWord_24 : decode cX3_subjectOfWord 24 = .ok (.goto (-22), 3) := by decide +kernel
theorem dX3_subjectOfWord_27 : decode cX3_subjectOfWord 27 = .ok (.iconst (-1), 1) := by decide +kernel
theorem dX3_subjectOfWord_28 : decode cX3_subjectOfWord 28 = .ok (.ireturn, 1) := by decide +kernel
theorem dX3_wordOf_0 : decode cX3_wordOf 0 = .ok (.iload_n 0, 1) := by decide +kernel
theorem dX3_wordOf_1 : decode cX3_wordOf 1 = .ok (.tableswitch 78 0 8 #[51, 54, 57, 60, 63, 66, 69, 72, 75], 51) := by decide +kernel
theorem dX3_wordOf_52 : decode cX3_wordOf 52 = .ok (.ldc 136, 2) := by decide +kernel
theorem dX3_wordOf_54 : decode cX3_wordOf 54 = .ok (.areturn, 1) := by decide +kernel
theorem dX3_wordOf_55 : decode cX3_wordOf 55 = .ok (.ldc 138, 2) := by decide +kernel
theorem dX3_wordOf_57 : decode cX3_wordOf 57 = .ok (.areturn, 1) := by decide +kernel
theorem dX3_wordOf_58 : decode cX3_wordOf 58 = .ok (.ldc 140, 2) := by decide +kernel
theorem dX3_wordOf_60 : decode cX3_wordOf 60 = .ok (.areturn, 1) := by decide +kernel
theorem dX3_wordOf_61 : decode cX3_wordOf 61 = .ok (.ldc 142, 2) := by decide +kernel
theorem dX3_wordOf_63 : decode cX3_wordOf 63 = .ok (.areturn, 1) := by decide +kernel
theorem dX3_wordOf_64 : decode cX3_wordOf 64 = .ok (.ldc 144, 2) := by decide +kernel
theorem dX3_wordOf_66 : decode cX3_wordOf 66 = .ok (.areturn, 1) := by decide +kernel
theorem dX3_wordOf_67 : decode cX3_wordOf 67 = .ok (.ldc 146, 2) := by decide +kernel
theorem dX3_wordOf_69 : decode cX3_wordOf 69 = .ok (.areturn, 1) := by decide +kernel
theorem dX3_wordOf_70 : decode cX3_wordOf 70 = .ok (.ldc 148, 2) := by decide +kernel
theorem dX3_wordOf_72 : decode cX3_wordOf 72 = .ok (.areturn, 1) := by decide +kernel
theorem dX3_wordOf_73 : decode cX3_wordOf 73 = .ok (.ldc 150, 2) := by decide +kernel
theorem dX3_wordOf_75 : decode cX3_wordOf 75 = .ok (.areturn, 1) := by decide +kernel
theorem dX3_wordOf_76 : decode cX3_wordOf 76 = .ok (.ldc 152, 2) := by decide +kernel
theorem dX3_wordOf_78 : decode cX3_wordOf 78 = .ok (.areturn, 1) := by decide +kernel
theorem dX3_wordOf_79 : decode cX3_wordOf 79 = .ok (.ldc 154, 2) := by decide +kernel
theorem dX3_wordOf_81 : decode cX3_wordOf 81 = .ok (.areturn, 1) := by decide +kernel
theorem dX3_takeToken_0 : decode cX3_takeToken 0 = .ok (.aload_n 0, 1) := by decide +kernel
theorem dX3_takeToken_1 : decode cX3_takeToken 1 = .ok (.getfield 32, 3) := by decide +kernel
theorem dX3_takeToken_4 : decode cX3_takeToken 4 = .ok (.aload_n 0, 1) := by decide +kernel
theorem dX3_takeToken_5 : decode cX3_takeToken 5 = .ok (.getfield 29, 3) := by decide +kernel
theorem dX3_takeToken_8 : decode cX3_takeToken 8 = .ok (.if_icmp .ge 44, 3) := by decide +kernel
theorem dX3_takeToken_11 : decode cX3_takeToken 11 = .ok (.aload_n 0, 1) := by decide +kernel
theorem dX3_takeToken_12 : decode cX3_takeToken 12 = .ok (.getfield 25, 3) := by decide +kernel
theorem dX3_takeToken_15 : decode cX3_takeToken 15 = .ok (.aload_n 0, 1) := by decide +kernel
theorem dX3_takeToken_16 : decode cX3_takeToken 16 = .ok (.getfield 32, 3) := by decide +kernel
theorem dX3_takeToken_19 : decode cX3_takeToken 19 = .ok (.iaload, 1) := by decide +kernel
theorem dX3_takeToken_20 : decode cX3_takeToken 20 = .ok (.bipush 10, 2) := by decide +kernel
theorem dX3_takeToken_22 : decode cX3_takeToken 22 = .ok (.if_icmp .eq 17, 3) := by decide +kernel
theorem dX3_takeToken_25 : decode cX3_takeToken 25 = .ok (.aload_n 0, 1) := by decide +kernel
theorem dX3_takeToken_26 : decode cX3_takeToken 26 = .ok (.getfield 25, 3) := by decide +kernel
theorem dX3_takeToken_29 : decode cX3_takeToken 29 = .ok (.aload_n 0, 1) := by decide +kernel
theorem dX3_takeToken_30 : decode cX3_takeToken 30 = .ok (.getfield 32, 3) := by decide +kernel
theorem dX3_takeToken_33 : decode cX3_takeToken 33 = .ok (.iaload, 1) := by decide +kernel
theorem dX3_takeToken_34 : decode cX3_takeToken 34 = .ok (.bipush 32, 2) := by decide +kernel
theorem dX3_takeToken_36 : decode cX3_takeToken 36 = .ok (.if_icmp .ne 16, 3) := by decide +kernel
theorem dX3_takeToken_39 : decode cX3_takeToken 39 = .ok (.aload_n 0, 1) := by decide +kernel
theorem dX3_takeToken_40 : decode cX3_takeToken 40 = .ok (.dup, 1) := by decide +kernel
theorem dX3_takeToken_41 : decode cX3_takeToken 41 = .ok (.getfield 32, 3) := by decide +kernel
theorem dX3_takeToken_44 : decode cX3_takeToken 44 = .ok (.iconst 1, 1) := by decide +kernel
theorem dX3_takeToken_45 : decode cX3_takeToken 45 = .ok (.iadd, 1) := by decide +kernel
theorem dX3_takeToken_46 : decode cX3_takeToken 46 = .ok (.putfield 32, 3) := by decide +kernel
theorem dX3_takeToken_49 : decode cX3_takeToken 49 = .ok (.goto (-49), 3) := by decide +kernel
theorem dX3_takeToken_52 : decode cX3_takeToken 52 = .ok (.aload_n 0, 1) := by decide +kernel
theorem dX3_takeToken_53 : decode cX3_takeToken 53 = .ok (.aload_n 0, 1) := by decide +kernel
theorem dX3_takeToken_54 : decode cX3_takeToken 54 = .ok (.getfield 32, 3) := by decide +kernel
theorem dX3_takeToken_57 : decode cX3_takeToken 57 = .ok (.putfield 38, 3) := by decide +kernel
theorem dX3_takeToken_60 : decode cX3_takeToken 60 = .ok (.aload_n 0, 1) := by decide +kernel
theorem dX3_takeToken_61 : decode cX3_takeToken 61 = .ok (.getfield 32, 3) := by decide +kernel
theorem dX3_takeToken_64 : decode cX3_takeToken 64 = .ok (.aload_n 0, 1) := by decide +kernel
theorem dX3_takeToken_65 : decode cX3_takeToken 65 = .ok (.getfield 29, 3) := by decide +kernel
theorem dX3_takeToken_68 : decode cX3_takeToken 68 = .ok (.if_icmp .lt 9, 3) := by decide +kernel
theorem dX3_takeToken_71 : decode cX3_takeToken 71 = .ok (.aload_n 0, 1) := by decide +kernel
theorem dX3_takeToken_72 : decode cX3_takeToken 72 = .ok (.iconst 0, 1) := by decide +kernel
theorem dX3_takeToken_73 : decode cX3_takeToken 73 = .ok (.putfield 35, 3) := by decide +kernel
theorem dX3_takeToken_76 : decode cX3_takeToken 76 = .ok (.return_, 1) := by decide +kernel
theorem dX3_takeToken_77 : decode cX3_takeToken 77 = .ok (.aload_n 0, 1) := by decide +kernel
theorem dX3_takeToken_78 : decode cX3_takeToken 78 = .ok (.aload_n 0, 1) := by decide +kernel
theorem dX3_takeToken_79 : decode cX3_takeToken 79 = .ok (.getfield 25, 3) := by decide +kernel
theorem dX3_takeToken_82 : decode cX3_takeToken 82 = .ok (.aload_n 0, 1) := by decide +kernel
theorem dX3_takeToken_83 : decode cX3_takeToken 83 = .ok (.getfield 32, 3) := by decide +kernel
theorem dX3_takeToken_86 : decode cX3_takeToken 86 = .ok (.iaload, 1) := by decide +kernel
theorem dX3_takeToken_87 : decode cX3_takeToken 87 = .ok (.putfield 41, 3) := by decide +kernel
theorem dX3_takeToken_90 : decode cX3_takeToken 90 = .ok (.aload_n 0, 1) := by decide +kernel
theorem dX3_takeToken_91 : decode cX3_takeToken 91 = .ok (.getfield 41, 3) := by decide +kernel
theorem dX3_takeToken_94 : decode cX3_takeToken 94 = .ok (.bipush 97, 2) := by decide +kernel
theorem dX3_takeToken_96 : decode cX3_takeToken 96 = .ok (.if_icmp .lt 28, 3) := by decide +kernel
theorem dX3_takeToken_99 : decode cX3_takeToken 99 = .ok (.aload_n 0, 1) := by decide +kernel
theorem dX3_takeToken_100 : decode cX3_takeToken 100 = .ok (.getfield 41, 3) := by decide +kernel
theorem dX3_takeToken_103 : decode cX3_takeToken 103 = .ok (.bipush 122, 2) := by decide +kernel
theorem dX3_takeToken_105 : decode cX3_takeToken 105 = .ok (.if_icmp .gt 19, 3) := by decide +kernel
theorem dX3_takeToken_108 : decode cX3_takeToken 108 = .ok (.aload_n 0, 1) := by decide +kernel
theorem dX3_takeToken_109 : decode cX3_takeToken 109 = .ok (.bipush 97, 2) := by decide +kernel
theorem dX3_takeToken_111 : decode cX3_takeToken 111 = .ok (.bipush 122, 2) := by decide +kernel
theorem dX3_takeToken_113 : decode cX3_takeToken 113 = .ok (.invokevirtual 156, 3) := by decide +kernel
theorem dX3_takeToken_116 : decode cX3_takeToken 116 = .ok (.aload_n 0, 1) := by decide +kernel
theorem dX3_takeToken_117 : decode cX3_takeToken 117 = .ok (.iconst 1, 1) := by decide +kernel
theorem dX3_takeToken_118 : decode cX3_takeToken 118 = .ok (.putfield 35, 3) := by decide +kernel
theorem dX3_takeToken_121 : decode cX3_takeToken 121 = .ok (.goto 99, 3) := by decide +kernel
theorem dX3_takeToken_124 : decode cX3_takeToken 124 = .ok (.aload_n 0, 1) := by decide +kernel
theorem dX3_takeToken_125 : decode cX3_takeToken 125 = .ok (.getfield 41, 3) := by decide +kernel
theorem dX3_takeToken_128 : decode cX3_takeToken 128 = .ok (.bipush 48, 2) := by decide +kernel
theorem dX3_takeToken_130 : decode cX3_takeToken 130 = .ok (.if_icmp .lt 53, 3) := by decide +kernel
theorem dX3_takeToken_133 : decode cX3_takeToken 133 = .ok (.aload_n 0, 1) := by decide +kernel
theorem dX3_takeToken_134 : decode cX3_takeToken 134 = .ok (.getfield 41, 3) := by decide +kernel
theorem dX3_takeToken_137 : decode cX3_takeToken 137 = .ok (.bipush 57, 2) := by decide +kernel
theorem dX3_takeToken_139 : decode cX3_takeToken 139 = .ok (.if_icmp .gt 44, 3) := by decide +kernel
theorem dX3_takeToken_142 : decode cX3_takeToken 142 = .ok (.aload_n 0, 1) := by decide +kernel
theorem dX3_takeToken_143 : decode cX3_takeToken 143 = .ok (.bipush 48, 2) := by decide +kernel
theorem dX3_takeToken_145 : decode cX3_takeToken 145 = .ok (.bipush 57, 2) := by decide +kernel
theorem dX3_takeToken_147 : decode cX3_takeToken 147 = .ok (.invokevirtual 156, 3) := by decide +kernel
theorem dX3_takeToken_150 : decode cX3_takeToken 150 = .ok (.aload_n 0, 1) := by decide +kernel
theorem dX3_takeToken_151 : decode cX3_takeToken 151 = .ok (.aload_n 0, 1) := by decide +kernel
theorem dX3_takeToken_152 : decode cX3_takeToken 152 = .ok (.getfield 32, 3) := by decide +kernel
theorem dX3_takeToken_155 : decode cX3_takeToken 155 = .ok (.aload_n 0, 1) := by decide +kernel
theorem dX3_takeToken_156 : decode cX3_takeToken 156 = .ok (.getfield 38, 3) := by decide +kernel
theorem dX3_takeToken_159 : decode cX3_takeToken 159 = .ok (.isub, 1) := by decide +kernel
theorem dX3_takeToken_160 : decode cX3_takeToken 160 = .ok (.iconst 4, 1) := by decide +kernel
theorem dX3_takeToken_161 : decode cX3_takeToken 161 = .ok (.if_icmp .gt 7, 3) := by decide +kernel
theorem dX3_takeToken_164 : decode cX3_takeToken 164 = .ok (.iconst 2, 1) := by decide +kernel
theorem dX3_takeToken_165 : decode cX3_takeToken 165 = .ok (.goto 4, 3) := by decide +kernel
theorem dX3_takeToken_168 : decode cX3_takeToken 168 = .ok (.iconst 4, 1) := by decide +kernel
theorem dX3_takeToken_169 : decode cX3_takeToken 169 = .ok (.putfield 35, 3) := by decide +kernel
theorem dX3_takeToken_172 : decode cX3_takeToken 172 = .ok (.aload_n 0, 1) := by decide +kernel
theorem dX3_takeToken_173 : decode cX3_takeToken 173 = .ok (.aload_n 0, 1) := by decide +kernel
theorem dX3_takeToken_174 : decode cX3_takeToken 174 = .ok (.invokevirtual 160, 3) := by decide +kernel
theorem dX3_takeToken_177 : decode cX3_takeToken 177 = .ok (.putfield 41, 3) := by decide +kernel
theorem dX3_takeToken_180 : decode cX3_takeToken 180 = .ok (.goto 40, 3) := by decide +kernel
theorem dX3_takeToken_183 : decode cX3_takeToken 183 = .ok (.aload_n 0, 1) := by decide +kernel
theorem dX3_takeToken_184 : decode cX3_takeToken 184 = .ok (.dup, 1) := by decide +kernel
theorem dX3_takeToken_185 : decode cX3_takeToken 185 = .ok (.getfield 32, 3) := by decide +kernel
theorem dX3_takeToken_188 : decode cX3_takeToken 188 = .ok (.iconst 1, 1) := by decide +kernel
theorem dX3_takeToken_189 : decode cX3_takeToken 189 = .ok (.iadd, 1) := by decide +kernel
theorem dX3_takeToken_190 : decode cX3_takeToken 190 = .ok (.putfield 32, 3) := by decide +kernel
theorem dX3_takeToken_193 : decode cX3_takeToken 193 = .ok (.aload_n 0, 1) := by decide +kernel
theorem dX3_takeToken_194 : decode cX3_takeToken 194 = .ok (.aload_n 0, 1) := by decide +kernel
theorem dX3_takeToken_195 : decode cX3_takeToken 195 = .ok (.getfield 41, 3) := by decide +kernel
theorem dX3_takeToken_198 : decode cX3_takeToken 198 = .ok (.bipush 58, 2) := by decide +kernel
theorem dX3_takeToken_200 : decode cX3_takeToken 200 = .ok (.if_icmp .lt 16, 3) := by decide +kernel
theorem dX3_takeToken_203 : decode cX3_takeToken 203 = .ok (.aload_n 0, 1) := by decide +kernel
theorem dX3_takeToken_204 : decode cX3_takeToken 204 = .ok (.getfield 41, 3) := by decide +kernel
theorem dX3_takeToken_207 : decode cX3_takeToken 207 = .ok (.bipush 62, 2) := by decide +kernel
theorem dX3_takeToken_209 : decode cX3_takeToken 209 = .ok (.if_icmp .gt 7, 3) := by decide +kernel
theorem dX3_takeToken_212 : decode cX3_takeToken 212 = .ok (.iconst 3, 1) := by decide +kernel
theorem dX3_takeToken_213 : decode cX3_takeToken 213 = .ok (.goto 4, 3) := by decide +kernel
theorem dX3_takeToken_216 : decode cX3_takeToken 216 = .ok (.iconst 4, 1) := by decide +kernel
theorem dX3_takeToken_217 : decode cX3_takeToken 217 = .ok (.putfield 35, 3) := by decide +kernel
theorem dX3_takeToken_220 : decode cX3_takeToken 220 = .ok (.return_, 1) := by decide +kernel
theorem dX3_passRow_0 : decode cX3_passRow 0 = .ok (.aload_n 0, 1) := by decide +kernel
theorem dX3_passRow_1 : decode cX3_passRow 1 = .ok (.getfield 32, 3) := by decide +kernel
theorem dX3_passRow_4 : decode cX3_passRow 4 = .ok (.aload_n 0, 1) := by decide +kernel
theorem dX3_passRow_5 : decode cX3_passRow 5 = .ok (.getfield 29, 3) := by decide +kernel
theorem dX3_passRow_8 : decode cX3_passRow 8 = .ok (.if_icmp .ge 42, 3) := by decide +kernel
theorem dX3_passRow_11 : decode cX3_passRow 11 = .ok (.aload_n 0, 1) := by decide +kernel
theorem dX3_passRow_12 : decode cX3_passRow 12 = .ok (.getfield 25, 3) := by decide +kernel
theorem dX3_passRow_15 : decode cX3_passRow 15 = .ok (.aload_n 0, 1) := by decide +kernel
theorem dX3_passRow_16 : decode cX3_passRow 16 = .ok (.getfield 32, 3) := by decide +kernel
theorem dX3_passRow_19 : decode cX3_passRow 19 = .ok (.iaload, 1) := by decide +kernel
theorem dX3_passRow_20 : decode cX3_passRow 20 = .ok (.iload_n 1, 1) := by decide +kernel
theorem dX3_passRow_21 : decode cX3_passRow 21 = .ok (.if_icmp .lt 29, 3) := by decide +kernel
theorem dX3_passRow_24 : decode cX3_passRow 24 = .ok (.aload_n 0, 1) := by decide +kernel
theorem dX3_passRow_25 : decode cX3_passRow 25 = .ok (.getfield 25, 3) := by decide +kernel
theorem dX3_passRow_28 : decode cX3_passRow 28 = .ok (.aload_n 0, 1) := by decide +kernel
theorem dX3_passRow_29 : decode cX3_passRow 29 = .ok (.getfield 32, 3) := by decide +kernel
theorem dX3_passRow_32 : decode cX3_passRow 32 = .ok (.iaload, 1) := by decide +kernel
theorem dX3_passRow_33 : decode cX3_passRow 33 = .ok (.iload_n 2, 1) := by decide +kernel
theorem dX3_passRow_34 : decode cX3_passRow 34 = .ok (.if_icmp .gt 16, 3) := by decide +kernel
theorem dX3_passRow_37 : decode cX3_passRow 37 = .ok (.aload_n 0, 1) := by decide +kernel
theorem dX3_passRow_38 : decode cX3_passRow 38 = .ok (.dup, 1) := by decide +kernel
theorem dX3_passRow_39 : decode cX3_passRow 39 = .ok (.getfield 32, 3) := by decide +kernel
theorem dX3_passRow_42 : decode cX3_passRow 42 = .ok (.iconst 1, 1) := by decide +kernel
theorem dX3_passRow_43 : decode cX3_passRow 43 = .ok (.iadd, 1) := by decide +kernel
theorem dX3_passRow_44 : decode cX3_passRow 44 = .ok (.putfield 32, 3) := by decide +kernel
theorem dX3_passRow_47 : decode cX3_passRow 47 = .ok (.goto (-47), 3) := by decide +kernel
theorem dX3_passRow_50 : decode cX3_passRow 50 = .ok (.return_, 1) := by decide +kernel
theorem dX3_readDigits_0 : decode cX3_readDigits 0 = .ok (.iconst 0, 1) := by decide +kernel
theorem dX3_readDigits_1 : decode cX3_readDigits 1 = .ok (.istore_n 1, 1) := by decide +kernel
theorem dX3_readDigits_2 : decode cX3_readDigits 2 = .ok (.aload_n 0, 1) := by decide +kernel
theorem dX3_readDigits_3 : decode cX3_readDigits 3 = .ok (.getfield 38, 3) := by decide +kernel
theorem dX3_readDigits_6 : decode cX3_readDigits 6 = .ok (.istore_n 2, 1) := by decide +kernel
theorem dX3_readDigits_7 : decode cX3_readDigits 7 = .ok (.iload_n 2, 1) := by decide +kernel
theorem dX3_readDigits_8 : decode cX3_readDigits 8 = .ok (.aload_n 0, 1) := by decide +kernel
theorem dX3_readDigits_9 : decode cX3_readDigits 9 = .ok (.getfield 32, 3) := by decide +kernel
theorem dX3_readDigits_12 : decode cX3_readDigits 12 = .ok (.if_icmp .ge 24, 3) := by decide +kernel
theorem dX3_readDigits_15 : decode cX3_readDigits 15 = .ok (.iload_n 1, 1) := by decide +kernel
theorem dX3_readDigits_16 : decode cX3_readDigits 16 = .ok (.bipush 10, 2) := by decide +kernel
theorem dX3_readDigits_18 : decode cX3_readDigits 18 = .ok (.imul, 1) := by decide +kernel
theorem dX3_readDigits_19 : decode cX3_readDigits 19 = .ok (.aload_n 0, 1) := by decide +kernel
theorem dX3_readDigits_20 : decode cX3_readDigits 20 = .ok (.getfield 25, 3) := by decide +kernel
theorem dX3_readDigits_23 : decode cX3_readDigits 23 = .ok (.iload_n 2, 1) := by decide +kernel
theorem dX3_readDigits_24 : decode cX3_readDigits 24 = .ok (.iaload, 1) := by decide +kernel
theorem dX3_readDigits_25 : decode cX3_readDigits 25 = .ok (.iadd, 1) := by decide +kernel
theorem dX3_readDigits_26 : decode cX3_readDigits 26 = .ok (.bipush 48, 2) := by decide +kernel
theorem dX3_readDigits_28 : decode cX3_readDigits 28 = .ok (.isub, 1) := by decide +kernel
theorem dX3_readDigits_29 : decode cX3_readDigits 29 = .ok (.istore_n 1, 1) := by decide +kernel
theorem dX3_readDigits_30 : decode cX3_readDigits 30 = .ok (.iinc 2 1, 3) := by decide +kernel
theorem dX3_readDigits_33 : decode cX3_readDigits 33 = .ok (.goto (-26), 3) := by decide +kernel
theorem dX3_readDigits_36 : decode cX3_readDigits 36 = .ok (.iload_n 1, 1) := by decide +kernel
theorem dX3_readDigits_37 : decode cX3_readDigits 37 = .ok (.ireturn, 1) := by decide +kernel
theorem dX4_init_0 : decode cX4_init 0 = .ok (.aload_n 0, 1) := by decide +kernel
theorem dX4_init_1 : decode cX4_init 1 = .ok (.invokespecial 3, 3) := by decide +kernel
theorem dX4_init_4 : decode cX4_init 4 = .ok (.aload_n 0, 1) := by decide +kernel
theorem dX4_init_5 : decode cX4_init 5 = .ok (.iconst 0, 1) := by decide +kernel
theorem dX4_init_6 : decode cX4_init 6 = .ok (.putfield 9, 3) := by decide +kernel
theorem dX4_init_9 : decode cX4_init 9 = .ok (.aload_n 0, 1) := by decide +kernel
theorem dX4_init_10 : decode cX4_init 10 = .ok (.bipush 12, 2) := by decide +kernel
theorem dX4_init_12 : decode cX4_init 12 = .ok (.newarray .int, 2) := by decide +kernel
theorem dX4_init_14 : decode cX4_init 14 = .ok (.putfield 15, 3) := by decide +kernel
theorem dX4_init_17 : decode cX4_init 17 = .ok (.aload_n 0, 1) := by decide +kernel
theorem dX4_init_18 : decode cX4_init 18 = .ok (.bipush 12, 2) := by decide +kernel
theorem dX4_init_20 : decode cX4_init 20 = .ok (.newarray .int, 2) := by decide +kernel
theorem dX4_init_22 : decode cX4_init 22 = .ok (.putfield 19, 3) := by decide +kernel
theorem dX4_init_25 : decode cX4_init 25 = .ok (.return_, 1) := by decide +kernel
theorem dX4_hasReader_0 : decode cX4_hasReader 0 = .ok (.iload_n 1, 1) := by decide +kernel
theorem dX4_hasReader_1 : decode cX4_hasReader 1 = .ok (.ifCond .lt 15, 3) := by decide +kernel
theorem dX4_hasReader_4 : decode cX4_hasReader 4 = .ok (.iload_n 1, 1) := by decide +kernel
theorem dX4_hasReader_5 : decode cX4_hasReader 5 = .ok (.aload_n 0, 1) := by decide +kernel
theorem dX4_hasReader_6 : decode cX4_hasReader 6 = .ok (.getfield 9, 3) := by decide +kernel
theorem dX4_hasReader_9 : decode cX4_hasReader 9 = .ok (.if_icmp .ge 7, 3) := by decide +kernel
theorem dX4_hasReader_12 : decode cX4_hasReader 12 = .ok (.iconst 1, 1) := by decide +kernel
theorem dX4_hasReader_13 : decode cX4_hasReader 13 = .ok (.goto 4, 3) := by decide +kernel
theorem dX4_hasReader_16 : decode cX4_hasReader 16 = .ok (.iconst 0, 1) := by decide +kernel
theorem dX4_hasReader_17 : decode cX4_hasReader 17 = .ok (.ireturn, 1) := by decide +kernel
theorem dX4_hasRead_0 : decode cX4_hasRead 0 = .ok (.aload_n 0, 1) := by decide +kernel
theorem dX4_hasRead_1 : decode cX4_hasRead 1 = .ok (.getfield 19, 3) := by decide +kernel
theorem dX4_hasRead_4 : decode cX4_hasRead 4 = .ok (.iload_n 1, 1) := by decide +kernel
theorem dX4_hasRead_5 : decode cX4_hasRead 5 = .ok (.iaload, 1) := by decide +kernel
theorem dX4_hasRead_6 : decode cX4_hasRead 6 = .ok (.iload_n 2, 1) := by decide +kernel
theorem dX4_hasRead_7 : decode cX4_hasRead 7 = .ok (.ishr, 1) := by decide +kernel
theorem dX4_hasRead_8 : decode cX4_hasRead 8 = .ok (.iconst 1, 1) := by decide +kernel
theorem dX4_hasRead_9 : decode cX4_hasRead 9 = .ok (.iand, 1) := by decide +kernel
theorem dX4_hasRead_10 : decode cX4_hasRead 10 = .ok (.iconst 1, 1) := by decide +kernel
theorem dX4_hasRead_11 : decode cX4_hasRead 11 = .ok (.if_icmp .ne 7, 3) := by decide +kernel
theorem dX4_hasRead_14 : decode cX4_hasRead 14 = .ok (.iconst 1, 1) := by decide +kernel
theorem dX4_hasRead_15 : decode cX4_hasRead 15 = .ok (.goto 4, 3) := by decide +kernel
theorem dX4_hasRead_18 : decode cX4_hasRead 18 = .ok (.iconst 0, 1) := by decide +kernel
theorem dX4_hasRead_19 : decode cX4_hasRead 19 = .ok (.ireturn, 1) := by decide +kernel
theorem dX4_addReader_0 : decode cX4_addReader 0 = .ok (.aload_n 0, 1) := by decide +kernel
theorem dX4_addReader_1 : decode cX4_addReader 1 = .ok (.getfield 9, 3) := by decide +kernel
theorem dX4_addReader_4 : decode cX4_addReader 4 = .ok (.bipush 12, 2) := by decide +kernel
theorem dX4_addReader_6 : decode cX4_addReader 6 = .ok (.if_icmp .lt 5, 3) := by decide +kernel
theorem dX4_addReader_9 : decode cX4_addReader 9 = .ok (.iconst (-1), 1) := by decide +kernel
theorem dX4_addReader_10 : decode cX4_addReader 10 = .ok (.ireturn, 1) := by decide +kernel
theorem dX4_addReader_11 : decode cX4_addReader 11 = .ok (.aload_n 0, 1) := by decide +kernel
theorem dX4_addReader_12 : decode cX4_addReader 12 = .ok (.getfield 15, 3) := by decide +kernel
theorem dX4_addReader_15 : decode cX4_addReader 15 = .ok (.aload_n 0, 1) := by decide +kernel
theorem dX4_addReader_16 : decode cX4_addReader 16 = .ok (.getfield 9, 3) := by decide +kernel
theorem dX4_addReader_19 : decode cX4_addReader 19 = .ok (.iload_n 1, 1) := by decide +kernel
theorem dX4_addReader_20 : decode cX4_addReader 20 = .ok (.iastore, 1) := by decide +kernel
theorem dX4_addReader_21 : decode cX4_addReader 21 = .ok (.aload_n 0, 1) := by decide +kernel
theorem dX4_addReader_22 : decode cX4_addReader 22 = .ok (.getfield 19, 3) := by decide +kernel
theorem dX4_addReader_25 : decode cX4_addReader 25 = .ok (.aload_n 0, 1) := by decide +kernel
theorem dX4_addReader_26 : decode cX4_addReader 26 = .ok (.getfield 9, 3) := by decide +kernel
theorem dX4_addReader_29 : decode cX4_addReader 29 = .ok (.iconst 0, 1) := by decide +kernel
theorem dX4_addReader_30 : decode cX4_addReader 30 = .ok (.iastore, 1) := by decide +kernel
theorem dX4_addReader_31 : decode cX4_addReader 31 = .ok (.aload_n 0, 1) := by decide +kernel
theorem dX4_addReader_32 : decode cX4_addReader 32 = .ok (.dup, 1) := by decide +kernel
theorem dX4_addReader_33 : decode cX4_addReader 33 = .ok (.getfield 9, 3) := by decide +kernel
theorem dX4_addReader_36 : decode cX4_addReader 36 = .ok (.iconst 1, 1) := by decide +kernel
theorem dX4_addReader_37 : decode cX4_addReader 37 = .ok (.iadd, 1) := by decide +kernel
theorem dX4_addReader_38 : decode cX4_addReader 38 = .ok (.putfield 9, 3) := by decide +kernel
theorem dX4_addReader_41 : decode cX4_addReader 41 = .ok (.aload_n 0, 1) := by decide +kernel
theorem dX4_addReader_42 : decode cX4_addReader 42 = .ok (.getfield 9, 3) := by decide +kernel
theorem dX4_addReader_45 : decode cX4_addReader 45 = .ok (.iconst 1, 1) := by decide +kernel
theorem dX4_addReader_46 : decode cX4_addReader 46 = .ok (.isub, 1) := by decide +kernel
theorem dX4_addReader_47 : decode cX4_addReader 47 = .ok (.ireturn, 1) := by decide +kernel
theorem dX4_levelOf_0 : decode cX4_levelOf 0 = .ok (.bipush 9, 2) := by decide +kernel
theorem dX4_levelOf_2 : decode cX4_levelOf 2 = .ok (.istore_n 3, 1) := by decide +kernel
theorem dX4_levelOf_3 : decode cX4_levelOf 3 = .ok (.iload_n 3, 1) := by decide +kernel
theorem dX4_levelOf_4 : decode cX4_levelOf 4 = .ok (.ifCond .le 22, 3) := by decide +kernel
theorem dX4_levelOf_7 : decode cX4_levelOf 7 = .ok (.aload_n 0, 1) := by decide +kernel
theorem dX4_levelOf_8 : decode cX4_levelOf 8 = .ok (.iload_n 1, 1) := by decide +kernel
theorem dX4_levelOf_9 : decode cX4_levelOf 9 = .ok (.aload_n 2, 1) := by decide +kernel
theorem dX4_levelOf_10 : decode cX4_levelOf 10 = .ok (.iload_n 3, 1) := by decide +kernel
theorem dX4_levelOf_11 : decode cX4_levelOf 11 = .ok (.invokevirtual 22, 3) := by decide +kernel
theorem dX4_levelOf_14 : decode cX4_levelOf 14 = .ok (.iload_n 3, 1) := by decide +kernel
theorem dX4_levelOf_15 : decode cX4_levelOf 15 = .ok (.if_icmp .lt 5, 3) := by decide +kernel
theorem dX4_levelOf_18 : decode cX4_levelOf 18 = .ok (.iload_n 3, 1) := by decide +kernel
theorem dX4_levelOf_19 : decode cX4_levelOf 19 = .ok (.ireturn, 1) := by decide +kernel
theorem dX4_levelOf_20 : decode cX4_levelOf 20 = .ok (.iinc 3 (-1), 3) := by decide +kernel
theorem dX4_levelOf_23 : decode cX4_levelOf 23 = .ok (.goto (-20), 3) := by decide +kernel
theorem dX4_levelOf_26 : decode cX4_levelOf 26 = .ok (.iconst 0, 1) := by decide +kernel
theorem dX4_levelOf_27 : decode cX4_levelOf 27 = .ok (.ireturn, 1) := by decide +kernel
theorem dX4_booksFrom_0 : decode cX4_booksFrom 0 = .ok (.iconst 0, 1) := by decide +kernel
theorem dX4_booksFrom_1 : decode cX4_booksFrom 1 = .ok (.istore 4, 2) := by decide +kernel
theorem dX4_booksFrom_3 : decode cX4_booksFrom 3 = .ok (.iconst 0, 1) := by decide +kernel
theorem dX4_booksFrom_4 : decode cX4_booksFrom 4 = .ok (.istore 5, 2) := by decide +kernel
theorem dX4_booksFrom_6 : decode cX4_booksFrom 6 = .ok (.iload 5, 2) := by decide +kernel
theorem dX4_booksFrom_8 : decode cX4_booksFrom 8 = .ok (.aload_n 2, 1) := by decide +kernel
theorem dX4_booksFrom_9 : decode cX4_booksFrom 9 = .ok (.getfield 26, 3) := by decide +kernel
theorem dX4_booksFrom_12 : decode cX4_booksFrom 12 = .ok (.if_icmp .ge 33, 3) := by decide +kernel
theorem dX4_booksFrom_15 : decode cX4_booksFrom 15 = .ok (.aload_n 0, 1) := by decide +kernel
theorem dX4_booksFrom_16 : decode cX4_booksFrom 16 = .ok (.iload_n 1, 1) := by decide +kernel
theorem dX4_booksFrom_17 : decode cX4_booksFrom 17 = .ok (.iload 5, 2) := by decide +kernel
theorem dX4_booksFrom_19 : decode cX4_booksFrom 19 = .ok (.invokevirtual 30, 3) := by decide +kernel
theorem dX4_booksFrom_22 : decode cX4_booksFrom 22 = .ok (.ifCond .eq 17, 3) := by decide +kernel
theorem dX4_booksFrom_25 : decode cX4_booksFrom 25 = .ok (.aload_n 2, 1) := by decide +kernel
theorem dX4_booksFrom_26 : decode cX4_booksFrom 26 = .ok (.getfield 34, 3) := by decide +kernel
theorem dX4_booksFrom_29 : decode cX4_booksFrom 29 = .ok (.iload 5, 2) := by decide +kernel
theorem dX4_booksFrom_31 : decode cX4_booksFrom 31 = .ok (.iaload, 1) := by decide +kernel
theorem dX4_booksFrom_32 : decode cX4_booksFrom 32 = .ok (.iload_n 3, 1) := by decide +kernel
theorem dX4_booksFrom_33 : decode cX4_booksFrom 33 = .ok (.if_icmp .lt 6, 3) := by decide +kernel
theorem dX4_booksFrom_36 : decode cX4_booksFrom 36 = .ok (.iinc 4 1, 3) := by decide +kernel
theorem dX4_booksFrom_39 : decode cX4_booksFrom 39 = .ok (.iinc 5 1, 3) := by decide +kernel
theorem dX4_booksFrom_42 : decode cX4_booksFrom 42 = .ok (.goto (-36), 3) := by decide +kernel
theorem dX4_booksFrom_45 : decode cX4_booksFrom 45 = .ok (.iload 4, 2) := by decide +kernel
theorem dX4_booksFrom_47 : decode cX4_booksFrom 47 = .ok (.ireturn, 1) := by decide +kernel
theorem dX4_readersOf_0 : decode cX4_readersOf 0 = .ok (.iconst 0, 1) := by decide +kernel
theorem dX4_readersOf_1 : decode cX4_readersOf 1 = .ok (.istore_n 3, 1) := by decide +kernel
theorem dX4_readersOf_2 : decode cX4_readersOf 2 = .ok (.iconst 0, 1) := by decide +kernel
theorem dX4_readersOf_3 : decode cX4_readersOf 3 = .ok (.istore 4, 2) := by decide +kernel
theorem dX4_readersOf_5 : decode cX4_readersOf 5 = .ok (.iload 4, 2) := by decide +kernel
theorem dX4_readersOf_7 : decode cX4_readersOf 7 = .ok (.aload_n 2, 1) := by decide +kernel
theorem dX4_readersOf_8 : decode cX4_readersOf 8 = .ok (.getfield 26, 3) := by decide +kernel
theorem dX4_readersOf_11 : decode cX4_readersOf 11 = .ok (.if_icmp .ge 27, 3) := by decide +kernel
theorem dX4_readersOf_14 : decode cX4_readersOf 14 = .ok (.aload_n 2, 1) := by decide +kernel
theorem dX4_readersOf_15 : decode cX4_readersOf 15 = .ok (.getfield 37, 3) := by decide +kernel
theorem dX4_readersOf_18 : decode cX4_readersOf 18 = .ok (.iload 4, 2) := by decide +kernel
theorem dX4_readersOf_20 : decode cX4_readersOf 20 = .ok (.iaload, 1) := by decide +kernel
theorem dX4_readersOf_21 : decode cX4_readersOf 21 = .ok (.iload_n 1, 1) := by decide +kernel
theorem dX4_readersOf_22 : decode cX4_readersOf 22 = .ok (.if_icmp .ne 10, 3) := by decide +kernel
theorem dX4_readersOf_25 : decode cX4_readersOf 25 = .ok (.iload_n 3, 1) := by decide +kernel
theorem dX4_readersOf_26 : decode cX4_readersOf 26 = .ok (.iconst 1, 1) := by decide +kernel
theorem dX4_readersOf_27 : decode cX4_readersOf 27 = .ok (.iload 4, 2) := by decide +kernel
theorem dX4_readersOf_29 : decode cX4_readersOf 29 = .ok (.ishl, 1) := by decide +kernel
theorem dX4_readersOf_30 : decode cX4_readersOf 30 = .ok (.ior, 1) := by decide +kernel
theorem dX4_readersOf_31 : decode cX4_readersOf 31 = .ok (.istore_n 3, 1) := by decide +kernel
theorem dX4_readersOf_32 : decode cX4_readersOf 32 = .ok (.iinc 4 1, 3) := by decide +kernel
theorem dX4_readersOf_35 : decode cX4_readersOf 35 = .ok (.goto (-30), 3) := by decide +kernel
theorem dX4_readersOf_38 : decode cX4_readersOf 38 = .ok (.iconst 0, 1) := by decide +kernel
theorem dX4_readersOf_39 : decode cX4_readersOf 39 = .ok (.istore 4, 2) := by decide +kernel
theorem dX4_readersOf_41 : decode cX4_readersOf 41 = .ok (.iconst 0, 1) := by decide +kernel
theorem dX4_readersOf_42 : decode cX4_readersOf 42 = .ok (.istore 5, 2) := by decide +kernel
theorem dX4_readersOf_44 : decode cX4_readersOf 44 = .ok (.iload 5, 2) := by decide +kernel
theorem dX4_readersOf_46 : decode cX4_readersOf 46 = .ok (.aload_n 0, 1) := by decide +kernel
theorem dX4_readersOf_47 : decode cX4_readersOf 47 = .ok (.getfield 9, 3) := by decide +kernel
theorem dX4_readersOf_50 : decode cX4_readersOf 50 = .ok (.if_icmp .ge 24, 3) := by decide +kernel
theorem dX4_readersOf_53 : decode cX4_readersOf 53 = .ok (.aload_n 0, 1) := by decide +kernel
theorem dX4_readersOf_54 : decode cX4_readersOf 54 = .ok (.getfield 19, 3) := by decide +kernel
theorem dX4_readersOf_57 : decode cX4_readersOf 57 = .ok (.iload 5, 2) := by decide +kernel
theorem dX4_readersOf_59 : decode cX4_readersOf 59 = .ok (.iaload, 1) := by decide +kernel
theorem dX4_readersOf_60 : decode cX4_readersOf 60 = .ok (.iload_n 3, 1) := by decide +kernel
theorem dX4_readersOf_61 : decode cX4_readersOf 61 = .ok (.iand, 1) := by decide +kernel
theorem dX4_readersOf_62 : decode cX4_readersOf 62 = .ok (.ifCond .eq 6, 3) := by decide +kernel
theorem dX4_readersOf_65 : decode cX4_readersOf 65 = .ok (.iinc 4 1, 3) := by decide +kernel
theorem dX4_readersOf_68 : decode cX4_readersOf 68 = .ok (.iinc 5 1, 3) := by decide +kernel
theorem dX4_readersOf_71 : decode cX4_readersOf 71 = .ok (.goto (-27), 3) := by decide +kernel
theorem dX4_readersOf_74 : decode cX4_readersOf 74 = .ok (.iload 4, 2) := by decide +kernel
theorem dX4_readersOf_76 : decode cX4_readersOf 76 = .ok (.ireturn, 1) := by decide +kernel
theorem dX4_copyFrom_0 : decode cX4_copyFrom 0 = .ok (.aload_n 0, 1) := by decide +kernel
theorem dX4_copyFrom_1 : decode cX4_copyFrom 1 = .ok (.aload_n 1, 1) := by decide +kernel
theorem dX4_copyFrom_2 : decode cX4_copyFrom 2 = .ok (.getfield 9, 3) := by decide +kernel
theorem dX4_copyFrom_5 : decode cX4_copyFrom 5 = .ok (.putfield 9, 3) := by decide +kernel
theorem dX4_copyFrom_8 : decode cX4_copyFrom 8 = .ok (.aload_n 1, 1) := by decide +kernel
theorem dX4_copyFrom_9 : decode cX4_copyFrom 9 = .ok (.getfield 15, 3) := by decide +kernel
theorem dX4_copyFrom_12 : decode cX4_copyFrom 12 = .ok (.aload_n 0, 1) := by decide +kernel
theorem dX4_copyFrom_13 : decode cX4_copyFrom 13 = .ok (.getfield 15, 3) := by decide +kernel
theorem dX4_copyFrom_16 : decode cX4_copyFrom 16 = .ok (.invokestatic 40, 3) := by decide +kernel
theorem dX4_copyFrom_19 : decode cX4_copyFrom 19 = .ok (.aload_n 1, 1) := by decide +kernel
theorem dX4_copyFrom_20 : decode cX4_copyFrom 20 = .ok (.getfield 19, 3) := by decide +kernel
theorem dX4_copyFrom_23 : decode cX4_copyFrom 23 = .ok (.aload_n 0, 1) := by decide +kernel
theorem dX4_copyFrom_24 : decode cX4_copyFrom 24 = .ok (.getfield 19, 3) := by decide +kernel
theorem dX4_copyFrom_27 : decode cX4_copyFrom 27 = .ok (.invokestatic 40, 3) := by decide +kernel
theorem dX4_copyFrom_30 : decode cX4_copyFrom 30 = .ok (.return_, 1) := by decide +kernel
theorem dX5_init_0 : decode cX5_init 0 = .ok (.aload_n 0, 1) := by decide +kernel
theorem dX5_init_1 : decode cX5_init 1 = .ok (.invokespecial 3, 3) := by decide +kernel
theorem dX5_init_4 : decode cX5_init 4 = .ok (.aload_n 0, 1) := by decide +kernel
theorem dX5_init_5 : decode cX5_init 5 = .ok (.iconst 0, 1) := by decide +kernel
theorem dX5_init_6 : decode cX5_init 6 = .ok (.putfield 9, 3) := by decide +kernel
theorem dX5_init_9 : decode cX5_init 9 = .ok (.aload_n 0, 1) := by decide +kernel
theorem dX5_init_10 : decode cX5_init 10 = .ok (.bipush 16, 2) := by decide +kernel
theorem dX5_init_12 : decode cX5_init 12 = .ok (.newarray .int, 2) := by decide +kernel
theorem dX5_init_14 : decode cX5_init 14 = .ok (.putfield 15, 3) := by decide +kernel
theorem dX5_init_17 : decode cX5_init 17 = .ok (.aload_n 0, 1) := by decide +kernel
theorem dX5_init_18 : decode cX5_init 18 = .ok (.bipush 16, 2) := by decide +kernel
theorem dX5_init_20 : decode cX5_init 20 = .ok (.newarray .int, 2) := by decide +kernel
theorem dX5_init_22 : decode cX5_init 22 = .ok (.putfield 19, 3) := by decide +kernel
theorem dX5_init_25 : decode cX5_init 25 = .ok (.aload_n 0, 1) := by decide +kernel
theorem dX5_init_26 : decode cX5_init 26 = .ok (.bipush 16, 2) := by decide +kernel
theorem dX5_init_28 : decode cX5_init 28 = .ok (.newarray .int, 2) := by decide +kernel
theorem dX5_init_30 : decode cX5_init 30 = .ok (.putfield 22, 3) := by decide +kernel
theorem dX5_init_33 : decode cX5_init 33 = .ok (.aload_n 0, 1) := by decide +kernel
theorem dX5_init_34 : decode cX5_init 34 = .ok (.bipush 64, 2) := by decide +kernel
theorem dX5_init_36 : decode cX5_init 36 = .ok (.newarray .int, 2) := by decide +kernel
theorem dX5_init_38 : decode cX5_init 38 = .ok (.putfield 25, 3) := by decide +kernel
theorem dX5_init_41 : decode cX5_init 41 = .ok (.aload_n 0, 1) := by decide +kernel
theorem dX5_init_42 : decode cX5_init 42 = .ok (.bipush 64, 2) := by decide +kernel
theorem dX5_init_44 : decode cX5_init 44 = .ok (.newarray .int, 2) := by decide +kernel
theorem dX5_init_46 : decode cX5_init 46 = .ok (.putfield 28, 3) := by decide +kernel
theorem dX5_init_49 : decode cX5_init 49 = .ok (.aload_n 0, 1) := by decide +kernel
theorem dX5_init_50 : decode cX5_init 50 = .ok (.bipush 64, 2) := by decide +kernel
theorem dX5_init_52 : decode cX5_init 52 = .ok (.newarray .int, 2) := by decide +kernel
theorem dX5_init_54 : decode cX5_init 54 = .ok (.putfield 31, 3) := by decide +kernel
theorem dX5_init_57 : decode cX5_init 57 = .ok (.aload_n 0, 1) := by decide +kernel
theorem dX5_init_58 : decode cX5_init 58 = .ok (.bipush 64, 2) := by decide +kernel
theorem dX5_init_60 : decode cX5_init 60 = .ok (.newarray .int, 2) := by decide +kernel
theorem dX5_init_62 : decode cX5_init 62 = .ok (.putfield 34, 3) := by decide +kernel
theorem dX5_init_65 : decode cX5_init 65 = .ok (.return_, 1) := by decide +kernel
theorem dX5_firstThatHolds_0 : decode cX5_firstThatHolds 0 = .ok (.iconst 0, 1) := by decide +kernel
theorem dX5_firstThatHolds_1 : decode cX5_firstThatHolds 1 = .ok (.istore_n 3, 1) := by decide +kernel
theorem dX5_firstThatHolds_2 : decode cX5_firstThatHolds 2 = .ok (.iload_n 3, 1) := by decide +kernel
theorem dX5_firstThatHolds_3 : decode cX5_firstThatHolds 3 = .ok (.aload_n 0, 1) := by decide +kernel
theorem dX5_firstThatHolds_4 : decode cX5_firstThatHolds 4 = .ok (.getfield 9, 3) := by decide +kernel
theorem dX5_firstThatHolds_7 : decode cX5_firstThatHolds 7 = .ok (.if_icmp .ge 30, 3) := by decide +kernel
theorem dX5_firstThatHolds_10 : decode cX5_firstThatHolds 10 = .ok (.aload_n 0, 1) := by decide +kernel
theorem dX5_firstThatHolds_11 : decode cX5_firstThatHolds 11 = .ok (.getfield 15, 3) := by decide +kernel
theorem dX5_firstThatHolds_14 : decode cX5_firstThatHolds 14 = .ok (.iload_n 3, 1) := by decide +kernel
theorem dX5_firstThatHolds_15 : decode cX5_firstThatHolds 15 = .ok (.iaload, 1) := by decide +kernel
theorem dX5_firstThatHolds_16 : decode cX5_firstThatHolds 16 = .ok (.iload_n 1, 1) := by decide +kernel
theorem dX5_firstThatHolds_17 : decode cX5_firstThatHolds 17 = .ok (.if_icmp .ne 14, 3) := by decide +kernel
theorem dX5_firstThatHolds_20 : decode cX5_firstThatHolds 20 = .ok (.aload_n 0, 1) := by decide +kernel
theorem dX5_firstThatHolds_21 : decode cX5_firstThatHolds 21 = .ok (.iload_n 3, 1) := by decide +kernel
theorem dX5_firstThatHolds_22 : decode cX5_firstThatHolds 22 = .ok (.aload_n 2, 1) := by decide +kernel
theorem dX5_firstThatHolds_23 : decode cX5_firstThatHolds 23 = .ok (.invokevirtual 37, 3) := by decide +kernel
theorem dX5_firstThatHolds_26 : decode cX5_firstThatHolds 26 = .ok (.ifCond .eq 5, 3) := by decide +kernel
theorem dX5_firstThatHolds_29 : decode cX5_firstThatHolds 29 = .ok (.iload_n 3, 1) := by decide +kernel
theorem dX5_firstThatHolds_30 : decode cX5_firstThatHolds 30 = .ok (.ireturn, 1) := by decide +kernel
theorem dX5_firstThatHolds_31 : decode cX5_firstThatHolds 31 = .ok (.iinc 3 1, 3) := by decide +kernel
theorem dX5_firstThatHolds_34 : decode cX5_firstThatHolds 34 = .ok (.goto (-32), 3) := by decide +kernel
theorem dX5_firstThatHolds_37 : decode cX5_firstThatHolds 37 = .ok (.iconst (-1), 1) := by decide +kernel
theorem dX5_firstThatHolds_38 : decode cX5_firstThatHolds 38 = .ok (.ireturn, 1) := by decide +kernel
theorem dX5_numberBy_0 : decode cX5_numberBy 0 = .ok (.aload_n 0, 1) := by decide +kernel
theorem dX5_numberBy_1 : decode cX5_numberBy 1 = .ok (.iload_n 1, 1) := by decide +kernel
theorem dX5_numberBy_2 : decode cX5_numberBy 2 = .ok (.aload_n 2, 1) := by decide +kernel
theorem dX5_numberBy_3 : decode cX5_numberBy 3 = .ok (.invokevirtual 41, 3) := by decide +kernel
theorem dX5_numberBy_6 : decode cX5_numberBy 6 = .ok (.istore 4, 2) := by decide +kernel
theorem dX5_numberBy_8 : decode cX5_numberBy 8 = .ok (.iload 4, 2) := by decide +kernel
theorem dX5_numberBy_10 : decode cX5_numberBy 10 = .ok (.iconst (-1), 1) := by decide +kernel
theorem dX5_numberBy_11 : decode cX5_numberBy 11 = .ok (.if_icmp .ne 7, 3) := by decide +kernel
theorem dX5_numberBy_14 : decode cX5_numberBy 14 = .ok (.iload_n 3, 1) := by decide +kernel
theorem dX5_numberBy_15 : decode cX5_numberBy 15 = .ok (.goto 10, 3) := by decide +kernel
theorem dX5_numberBy_18 : decode cX5_numberBy 18 = .ok (.aload_n 0, 1) := by decide +kernel
theorem dX5_numberBy_19 : decode cX5_numberBy 19 = .ok (.getfield 19, 3) := by decide +kernel
theorem dX5_numberBy_22 : decode cX5_numberBy 22 = .ok (.iload 4, 2) := by decide +kernel
theorem dX5_numberBy_24 : decode cX5_numberBy 24 = .ok (.iaload, 1) := by decide +kernel
theorem dX5_numberBy_25 : decode cX5_numberBy 25 = .ok (.ireturn, 1) := by decide +kernel
theorem dX5_holds_0 : decode cX5_holds 0 = .ok (.iconst 0, 1) := by decide +kernel
theorem dX5_holds_1 : decode cX5_holds 1 = .ok (.istore_n 3, 1) := by decide +kernel
theorem dX5_holds_2 : decode cX5_holds 2 = .ok (.iload_n 3, 1) := by decide +kernel
theorem dX5_holds_3 : decode cX5_holds 3 = .ok (.aload_n 0, 1) := by decide +kernel
theorem dX5_holds_4 : decode cX5_holds 4 = .ok (.getfield 22, 3) := by decide +kernel
theorem dX5_holds_7 : decode cX5_holds 7 = .ok (.iload_n 1, 1) := by decide +kernel
theorem dX5_holds_8 : decode cX5_holds 8 = .ok (.iaload, 1) := by decide +kernel
theorem dX5_holds_9 : decode cX5_holds 9 = .ok (.if_icmp .ge 52, 3) := by decide +kernel
theorem dX5_holds_12 : decode cX5_holds 12 = .ok (.iload_n 1, 1) := by decide +kernel
theorem dX5_holds_13 : decode cX5_holds 13 = .ok (.iconst 4, 1) := by decide +kernel
theorem dX5_holds_14 : decode cX5_holds 14 = .ok (.imul, 1) := by decide +kernel
theorem dX5_holds_15 : decode cX5_holds 15 = .ok (.iload_n 3, 1) := by decide +kernel
theorem dX5_holds_16 : decode cX5_holds 16 = .ok (.iadd, 1) := by decide +kernel
theorem dX5_holds_17 : decode cX5_holds 17 = .ok (.istore 4, 2) := by decide +kernel
theorem dX5_holds_19 : decode cX5_holds 19 = .ok (.aload_n 0, 1) := by decide +kernel
theorem dX5_holds_20 : decode cX5_holds 20 = .ok (.iload 4, 2) := by decide +kernel
theorem dX5_holds_22 : decode cX5_holds 22 = .ok (.aload_n 2, 1) := by decide +kernel
theorem dX5_holds_23 : decode cX5_holds 23 = .ok (.aload_n 0, 1) := by decide +kernel
theorem dX5_holds_24 : decode cX5_holds 24 = .ok (.getfield 28, 3) := by decide +kernel
theorem dX5_holds_27 : decode cX5_holds 27 = .ok (.iload 4, 2) := by decide +kernel
theorem dX5_holds_29 : decode cX5_holds 29 = .ok (.iaload, 1) := by decide +kernel
theorem dX5_holds_30 : decode cX5_holds 30 = .ok (.iaload, 1) := by decide +kernel
theorem dX5_holds_31 : decode cX5_holds 31 = .ok (.invokevirtual 45, 3) := by decide +kernel
theorem dX5_holds_34 : decode cX5_holds 34 = .ok (.aload_n 0, 1) := by decide +kernel
theorem dX5_holds_35 : decode cX5_holds 35 = .ok (.getfield 25, 3) := by decide +kernel
theorem dX5_holds_38 : decode cX5_holds 38 = .ok (.iload 4, 2) := by decide +kernel
theorem dX5_holds_40 : decode cX5_holds 40 = .ok (.iaload, 1) := by decide +kernel
theorem dX5_holds_41 : decode cX5_holds 41 = .ok (.iconst 1, 1) := by decide +kernel
theorem dX5_holds_42 : decode cX5_holds 42 = .ok (.if_icmp .ne 7, 3) := by decide +kernel
theorem dX5_holds_45 : decode cX5_holds 45 = .ok (.iconst 1, 1) := by decide +kernel
theorem dX5_holds_46 : decode cX5_holds 46 = .ok (.goto 4, 3) := by decide +kernel
theorem dX5_holds_49 : decode cX5_holds 49 = .ok (.iconst 0, 1) := by decide +kernel
theorem dX5_holds_50 : decode cX5_holds 50 = .ok (.if_icmp .ne 5, 3) := by decide +kernel
theorem dX5_holds_53 : decode cX5_holds 53 = .ok (.iconst 0, 1) := by decide +kernel
theorem dX5_holds_54 : decode cX5_holds 54 = .ok (.ireturn, 1) := by decide +kernel
theorem dX5_holds_55 : decode cX5_holds 55 = .ok (.iinc 3 1, 3) := by decide +kernel
theorem dX5_holds_58 : decode cX5_holds 58 = .ok (.goto (-56), 3) := by decide +kernel
theorem dX5_holds_61 : decode cX5_holds 61 = .ok (.iconst 1, 1) := by decide +kernel
theorem dX5_holds_62 : decode cX5_holds 62 = .ok (.ireturn, 1) := by decide +kernel
theorem dX5_meetsTest_0 : decode cX5_meetsTest 0 = .ok (.aload_n 0, 1) := by decide +kernel
theorem dX5_meetsTest_1 : decode cX5_meetsTest 1 = .ok (.getfield 31, 3) := by decide +kernel
theorem dX5_meetsTest_4 : decode cX5_meetsTest 4 = .ok (.iload_n 1, 1) := by decide +kernel
theorem dX5_meetsTest_5 : decode cX5_meetsTest 5 = .ok (.iaload, 1) := by decide +kernel
theorem dX5_meetsTest_6 : decode cX5_meetsTest 6 = .ok (.lookupswitch 58 #[(60, 26), (62, 42)], 26) := by decide +kernel
theorem dX5_meetsTest_32 : decode cX5_meetsTest 32 = .ok (.iload_n 2, 1) := by decide +kernel
theorem dX5_meetsTest_33 : decode cX5_meetsTest 33 = .ok (.aload_n 0, 1) := by decide +kernel
theorem dX5_meetsTest_34 : decode cX5_meetsTest 34 = .ok (.getfield 34, 3) := by decide +kernel
theorem dX5_meetsTest_37 : decode cX5_meetsTest 37 = .ok (.iload_n 1, 1) := by decide +kernel
theorem dX5_meetsTest_38 : decode cX5_meetsTest 38 = .ok (.iaload, 1) := by decide +kernel
theorem dX5_meetsTest_39 : decode cX5_meetsTest 39 = .ok (.if_icmp .ge 7, 3) := by decide +kernel
theorem dX5_meetsTest_42 : decode cX5_meetsTest 42 = .ok (.iconst 1, 1) := by decide +kernel
theorem dX5_meetsTest_43 : decode cX5_meetsTest 43 = .ok (.goto 4, 3) := by decide +kernel
theorem dX5_meetsTest_46 : decode cX5_meetsTest 46 = .ok (.iconst 0, 1) := by decide +kernel
theorem dX5_meetsTest_47 : decode cX5_meetsTest 47 = .ok (.ireturn, 1) := by decide +kernel
theorem dX5_meetsTest_48 : decode cX5_meetsTest 48 = .ok (.iload_n 2, 1) := by decide +kernel
theorem dX5_meetsTest_49 : decode cX5_meetsTest 49 = .ok (.aload_n 0, 1) := by decide +kernel
theorem dX5_meetsTest_50 : decode cX5_meetsTest 50 = .ok (.getfield 34, 3) := by decide +kernel
theorem dX5_meetsTest_53 : decode cX5_meetsTest 53 = .ok (.iload_n 1, 1) := by decide +kernel
theorem dX5_meetsTest_54 : decode cX5_meetsTest 54 = .ok (.iaload, 1) := by decide +kernel
theorem dX5_meetsTest_55 : decode cX5_meetsTest 55 = .ok (.if_icmp .le 7, 3) := by decide +kernel
theorem dX5_meetsTest_58 : decode cX5_meetsTest 58 = .ok (.iconst 1, 1) := by decide +kernel
theorem dX5_meetsTest_59 : decode cX5_meetsTest 59 = .ok (.goto 4, 3) := by decide +kernel
theorem dX5_meetsTest_62 : decode cX5_meetsTest 62 = .ok (.iconst 0, 1) := by decide +kernel
theorem dX5_meetsTest_63 : decode cX5_meetsTest 63 = .ok (.ireturn, 1) := by decide +kernel
theorem dX5_meetsTest_64 : decode cX5_meetsTest 64 = .ok (.iload_n 2, 1) := by decide +kernel
theorem dX5_meetsTest_65 : decode cX5_meetsTest 65 = .ok (.aload_n 0, 1) := by decide +kernel
theorem dX5_meetsTest_66 : decode cX5_meetsTest 66 = .ok (.getfield 34, 3) := by decide +kernel
theorem dX5_meetsTest_69 : decode cX5_meetsTest 69 = .ok (.iload_n 1, 1) := by decide +kernel
theorem dX5_meetsTest_70 : decode cX5_meetsTest 70 = .ok (.iaload, 1) := by decide +kernel
theorem dX5_meetsTest_71 : decode cX5_meetsTest 71 = .ok (.if_icmp .ne 7, 3) := by decide +kernel
theorem dX5_meetsTest_74 : decode cX5_meetsTest 74 = .ok (.iconst 1, 1) := by decide +kernel
theorem dX5_meetsTest_75 : decode cX5_meetsTest 75 = .ok (.goto 4, 3) := by decide +kernel
theorem dX5_meetsTest_78 : decode cX5_meetsTest 78 = .ok (.iconst 0, 1) := by decide +kernel
theorem dX5_meetsTest_79 : decode cX5_meetsTest 79 = .ok (.ireturn, 1) := by decide +kernel
theorem dX5_keepLine_0 : decode cX5_keepLine 0 = .ok (.iload_n 1, 1) := by decide +kernel
theorem dX5_keepLine_1 : decode cX5_keepLine 1 = .ok (.bipush 16, 2) := by decide +kernel
theorem dX5_keepLine_3 : decode cX5_keepLine 3 = .ok (.if_icmp .ge 17, 3) := by decide +kernel
theorem dX5_keepLine_6 : decode cX5_keepLine 6 = .ok (.aload_n 0, 1) := by decide +kernel
theorem dX5_keepLine_7 : decode cX5_keepLine 7 = .ok (.getfield 15, 3) := by decide +kernel
theorem dX5_keepLine_10 : decode cX5_keepLine 10 = .ok (.iload_n 1, 1) := by decide +kernel
theorem dX5_keepLine_11 : decode cX5_keepLine 11 = .ok (.iload_n 2, 1) := by decide +kernel
theorem dX5_keepLine_12 : decode cX5_keepLine 12 = .ok (.iastore, 1) := by decide +kernel
theorem dX5_keepLine_13 : decode cX5_keepLine 13 = .ok (.aload_n 0, 1) := by decide +kernel
theorem dX5_keepLine_14 : decode cX5_keepLine 14 = .ok (.getfield 19, 3) := by decide +kernel
theorem dX5_keepLine_17 : decode cX5_keepLine 17 = .ok (.iload_n 1, 1) := by decide +kernel
theorem dX5_keepLine_18 : decode cX5_keepLine 18 = .ok (.iload_n 3, 1) := by decide +kernel
theorem dX5_keepLine_19 : decode cX5_keepLine 19 = .ok (.iastore, 1) := by decide +kernel
theorem dX5_keepLine_20 : decode cX5_keepLine 20 = .ok (.return_, 1) := by decide +kernel
theorem dX5_keepTests_0 : decode cX5_keepTests 0 = .ok (.iload_n 1, 1) := by decide +kernel
theorem dX5_keepTests_1 : decode cX5_keepTests 1 = .ok (.bipush 16, 2) := by decide +kernel
theorem dX5_keepTests_3 : decode cX5_keepTests 3 = .ok (.if_icmp .ge 14, 3) := by decide +kernel
theorem dX5_keepTests_6 : decode cX5_keepTests 6 = .ok (.aload_n 0, 1) := by decide +kernel
theorem dX5_keepTests_7 : decode cX5_keepTests 7 = .ok (.getfield 22, 3) := by decide +kernel
theorem dX5_keepTests_10 : decode cX5_keepTests 10 = .ok (.iload_n 1, 1) := by decide +kernel
theorem dX5_keepTests_11 : decode cX5_keepTests 11 = .ok (.iload_n 2, 1) := by decide +kernel
theorem dX5_keepTests_12 : decode cX5_keepTests 12 = .ok (.iconst 4, 1) := by decide +kernel
theorem dX5_keepTests_13 : decode cX5_keepTests 13 = .ok (.invokestatic 49, 3) := by decide +kernel
theorem dX5_keepTests_16 : decode cX5_keepTests 16 = .ok (.iastore, 1) := by decide +kernel
theorem dX5_keepTests_17 : decode cX5_keepTests 17 = .ok (.return_, 1) := by decide +kernel
theorem dX5_keepTest_0 : decode cX5_keepTest 0 = .ok (.iload_n 1, 1) := by decide +kernel
theorem dX5_keepTest_1 : decode cX5_keepTest 1 = .ok (.bipush 16, 2) := by decide +kernel
theorem dX5_keepTest_3 : decode cX5_keepTest 3 = .ok (.if_icmp .ge 50, 3) := by decide +kernel
theorem dX5_keepTest_6 : decode cX5_keepTest 6 = .ok (.iload_n 2, 1) := by decide +kernel
theorem dX5_keepTest_7 : decode cX5_keepTest 7 = .ok (.iconst 4, 1) := by decide +kernel
theorem dX5_keepTest_8 : decode cX5_keepTest 8 = .ok (.if_icmp .ge 45, 3) := by decide +kernel
theorem dX5_keepTest_11 : decode cX5_keepTest 11 = .ok (.iload_n 1, 1) := by decide +kernel
theorem dX5_keepTest_12 : decode cX5_keepTest 12 = .ok (.iconst 4, 1) := by decide +kernel
theorem dX5_keepTest_13 : decode cX5_keepTest 13 = .ok (.imul, 1) := by decide +kernel
theorem dX5_keepTest_14 : decode cX5_keepTest 14 = .ok (.iload_n 2, 1) := by decide +kernel
theorem dX5_keepTest_15 : decode cX5_keepTest 15 = .ok (.iadd, 1) := by decide +kernel
theorem dX5_keepTest_16 : decode cX5_keepTest 16 = .ok (.istore 7, 2) := by decide +kernel
theorem dX5_keepTest_18 : decode cX5_keepTest 18 = .ok (.aload_n 0, 1) := by decide +kernel
theorem dX5_keepTest_19 : decode cX5_keepTest 19 = .ok (.getfield 25, 3) := by decide +kernel
theorem dX5_keepTest_22 : decode cX5_keepTest 22 = .ok (.iload 7, 2) := by decide +kernel
theorem dX5_keepTest_24 : decode cX5_keepTest 24 = .ok (.iload_n 3, 1) := by decide +kernel
theorem dX5_keepTest_25 : decode cX5_keepTest 25 = .ok (.iastore, 1) := by decide +kernel
theorem dX5_keepTest_26 : decode cX5_keepTest 26 = .ok (.aload_n 0, 1) := by decide +kernel
theorem dX5_keepTest_27 : decode cX5_keepTest 27 = .ok (.getfield 28, 3) := by decide +kernel
theorem dX5_keepTest_30 : decode cX5_keepTest 30 = .ok (.iload 7, 2) := by decide +kernel
theorem dX5_keepTest_32 : decode cX5_keepTest 32 = .ok (.iload 4, 2) := by decide +kernel
theorem dX5_keepTest_34 : decode cX5_keepTest 34 = .ok (.iastore, 1) := by decide +kernel
theorem dX5_keepTest_35 : decode cX5_keepTest 35 = .ok (.aload_n 0, 1) := by decide +kernel
theorem dX5_keepTest_36 : decode cX5_keepTest 36 = .ok (.getfield 31, 3) := by decide +kernel
theorem dX5_keepTest_39 : decode cX5_keepTest 39 = .ok (.iload 7, 2) := by decide +kernel
theorem dX5_keepTest_41 : decode cX5_keepTest 41 = .ok (.iload 5, 2) := by decide +kernel
theorem dX5_keepTest_43 : decode cX5_keepTest 43 = .ok (.iastore, 1) := by decide +kernel
theorem dX5_keepTest_44 : decode cX5_keepTest 44 = .ok (.aload_n 0, 1) := by decide +kernel
theorem dX5_keepTest_45 : decode cX5_keepTest 45 = .ok (.getfield 34, 3) := by decide +kernel
theorem dX5_keepTest_48 : decode cX5_keepTest 48 = .ok (.iload 7, 2) := by decide +kernel
theorem dX5_keepTest_50 : decode cX5_keepTest 50 = .ok (.iload 6, 2) := by decide +kernel
theorem dX5_keepTest_52 : decode cX5_keepTest 52 = .ok (.iastore, 1) := by decide +kernel
theorem dX5_keepTest_53 : decode cX5_keepTest 53 = .ok (.return_, 1) := by decide +kernel
theorem dX5_copyFrom_0 : decode cX5_copyFrom 0 = .ok (.aload_n 0, 1) := by decide +kernel
theorem dX5_copyFrom_1 : decode cX5_copyFrom 1 = .ok (.aload_n 1, 1) := by decide +kernel
theorem dX5_copyFrom_2 : decode cX5_copyFrom 2 = .ok (.getfield 9, 3) := by decide +kernel
theorem dX5_copyFrom_5 : decode cX5_copyFrom 5 = .ok (.putfield 9, 3) := by decide +kernel
theorem dX5_copyFrom_8 : decode cX5_copyFrom 8 = .ok (.aload_n 1, 1) := by decide +kernel
theorem dX5_copyFrom_9 : decode cX5_copyFrom 9 = .ok (.getfield 15, 3) := by decide +kernel
theorem dX5_copyFrom_12 : decode cX5_copyFrom 12 = .ok (.aload_n 0, 1) := by decide +kernel
theorem dX5_copyFrom_13 : decode cX5_copyFrom 13 = .ok (.getfield 15, 3) := by decide +kernel
theorem dX5_copyFrom_16 : decode cX5_copyFrom 16 = .ok (.invokestatic 55, 3) := by decide +kernel
theorem dX5_copyFrom_19 : decode cX5_copyFrom 19 = .ok (.aload_n 1, 1) := by decide +kernel
theorem dX5_copyFrom_20 : decode cX5_copyFrom 20 = .ok (.getfield 19, 3) := by decide +kernel
theorem dX5_copyFrom_23 : decode cX5_copyFrom 23 = .ok (.aload_n 0, 1) := by decide +kernel
theorem dX5_copyFrom_24 : decode cX5_copyFrom 24 = .ok (.getfield 19, 3) := by decide +kernel
theorem dX5_copyFrom_27 : decode cX5_copyFrom 27 = .ok (.invokestatic 55, 3) := by decide +kernel
theorem dX5_copyFrom_30 : decode cX5_copyFrom 30 = .ok (.aload_n 1, 1) := by decide +kernel
theorem dX5_copyFrom_31 : decode cX5_copyFrom 31 = .ok (.getfield 22, 3) := by decide +kernel
theorem dX5_copyFrom_34 : decode cX5_copyFrom 34 = .ok (.aload_n 0, 1) := by decide +kernel
theorem dX5_copyFrom_35 : decode cX5_copyFrom 35 = .ok (.getfield 22, 3) := by decide +kernel
theorem dX5_copyFrom_38 : decode cX5_copyFrom 38 = .ok (.invokestatic 55, 3) := by decide +kernel
theorem dX5_copyFrom_41 : decode cX5_copyFrom 41 = .ok (.aload_n 1, 1) := by decide +kernel
theorem dX5_copyFrom_42 : decode cX5_copyFrom 42 = .ok (.getfield 25, 3) := by decide +kernel
theorem dX5_copyFrom_45 : decode cX5_copyFrom 45 = .ok (.aload_n 0, 1) := by decide +kernel
theorem dX5_copyFrom_46 : decode cX5_copyFrom 46 = .ok (.getfield 25, 3) := by decide +kernel
theorem dX5_copyFrom_49 : decode cX5_copyFrom 49 = .ok (.invokestatic 55, 3) := by decide +kernel
theorem dX5_copyFrom_52 : decode cX5_copyFrom 52 = .ok (.aload_n 1, 1) := by decide +kernel
theorem dX5_copyFrom_53 : decode cX5_copyFrom 53 = .ok (.getfield 28, 3) := by decide +kernel
theorem dX5_copyFrom_56 : decode cX5_copyFrom 56 = .ok (.aload_n 0, 1) := by decide +kernel
theorem dX5_copyFrom_57 : decode cX5_copyFrom 57 = .ok (.getfield 28, 3) := by decide +kernel
theorem dX5_copyFrom_60 : decode cX5_copyFrom 60 = .ok (.invokestatic 55, 3) := by decide +kernel
theorem dX5_copyFrom_63 : decode cX5_copyFrom 63 = .ok (.aload_n 1, 1) := by decide +kernel
theorem dX5_copyFrom_64 : decode cX5_copyFrom 64 = .ok (.getfield 31, 3) := by decide +kernel
theorem dX5_copyFrom_67 : decode cX5_copyFrom 67 = .ok (.aload_n 0, 1) := by decide +kernel
theorem dX5_copyFrom_68 : decode cX5_copyFrom 68 = .ok (.getfield 31, 3) := by decide +kernel
theorem dX5_copyFrom_71 : decode cX5_copyFrom 71 = .ok (.invokestatic 55, 3) := by decide +kernel
theorem dX5_copyFrom_74 : decode cX5_copyFrom 74 = .ok (.aload_n 1, 1) := by decide +kernel
theorem dX5_copyFrom_75 : decode cX5_copyFrom 75 = .ok (.getfield 34, 3) := by decide +kernel
theorem dX5_copyFrom_78 : decode cX5_copyFrom 78 = .ok (.aload_n 0, 1) := by decide +kernel
theorem dX5_copyFrom_79 : decode cX5_copyFrom 79 = .ok (.getfield 34, 3) := by decide +kernel
theorem dX5_copyFrom_82 : decode cX5_copyFrom 82 = .ok (.invokestatic 55, 3) := by decide +kernel
theorem dX5_copyFrom_85 : decode cX5_copyFrom 85 = .ok (.return_, 1) := by decide +kernel
theorem dX6_init_0 : decode cX6_init 0 = .ok (.aload_n 0, 1) := by decide +kernel
theorem dX6_init_1 : decode cX6_init 1 = .ok (.invokespecial 3, 3) := by decide +kernel
theorem dX6_init_4 : decode cX6_init 4 = .ok (.aload_n 0, 1) := by decide +kernel
theorem dX6_init_5 : decode cX6_init 5 = .ok (.iconst 0, 1) := by decide +kernel
theorem dX6_init_6 : decode cX6_init 6 = .ok (.putfield 9, 3) := by decide +kernel
theorem dX6_init_9 : decode cX6_init 9 = .ok (.aload_n 0, 1) := by decide +kernel
theorem dX6_init_10 : decode cX6_init 10 = .ok (.bipush 24, 2) := by decide +kernel
theorem dX6_init_12 : decode cX6_init 12 = .ok (.newarray .int, 2) := by decide +kernel
theorem dX6_init_14 : decode cX6_init 14 = .ok (.putfield 15, 3) := by decide +kernel
theorem dX6_init_17 : decode cX6_init 17 = .ok (.aload_n 0, 1) := by decide +kernel
theorem dX6_init_18 : decode cX6_init 18 = .ok (.bipush 24, 2) := by decide +kernel
theorem dX6_init_20 : decode cX6_init 20 = .ok (.newarray .int, 2) := by decide +kernel
theorem dX6_init_22 : decode cX6_init 22 = .ok (.putfield 19, 3) := by decide +kernel
theorem dX6_init_25 : decode cX6_init 25 = .ok (.aload_n 0, 1) := by decide +kernel
theorem dX6_init_26 : decode cX6_init 26 = .ok (.bipush 24, 2) := by decide +kernel
theorem dX6_init_28 : decode cX6_init 28 = .ok (.newarray .int, 2) := by decide +kernel
theorem dX6_init_30 : decode cX6_init 30 = .ok (.putfield 22, 3) := by decide +kernel
theorem dX6_init_33 : decode cX6_init 33 = .ok (.aload_n 0, 1) := by decide +kernel
theorem dX6_init_34 : decode cX6_init 34 = .ok (.bipush 24, 2) := by decide +kernel
theorem dX6_init_36 : decode cX6_init 36 = .ok (.newarray .int, 2) := by decide +kernel
theorem dX6_init_38 : decode cX6_init 38 = .ok (.putfield 25, 3) := by decide +kernel
theorem dX6_init_41 : decode cX6_init 41 = .ok (.aload_n 0, 1) := by decide +kernel
theorem dX6_init_42 : decode cX6_init 42 = .ok (.bipush 24, 2) := by decide +kernel
theorem dX6_init_44 : decode cX6_init 44 = .ok (.newarray .int, 2) := by decide +kernel
theorem dX6_init_46 : decode cX6_init 46 = .ok (.putfield 28, 3) := by decide +kernel
theorem dX6_init_49 : decode cX6_init 49 = .ok (.aload_n 0, 1) := by decide +kernel
theorem dX6_init_50 : decode cX6_init 50 = .ok (.iconst 0, 1) := by decide +kernel
theorem dX6_init_51 : decode cX6_init 51 = .ok (.putfield 31, 3) := by decide +kernel
theorem dX6_init_54 : decode cX6_init 54 = .ok (.aload_n 0, 1) := by decide +kernel
theorem dX6_init_55 : decode cX6_init 55 = .ok (.sipush 150, 3) := by decide +kernel
theorem dX6_init_58 : decode cX6_init 58 = .ok (.newarray .int, 2) := by decide +kernel
theorem dX6_init_60 : decode cX6_init 60 = .ok (.putfield 34, 3) := by decide +kernel
theorem dX6_init_63 : decode cX6_init 63 = .ok (.aload_n 0, 1) := by decide +kernel
theorem dX6_init_64 : decode cX6_init 64 = .ok (.sipush 150, 3) := by decide +kernel
theorem dX6_init_67 : decode cX6_init 67 = .ok (.newarray .int, 2) := by decide +kernel
theorem dX6_init_69 : decode cX6_init 69 = .ok (.putfield 37, 3) := by decide +kernel
theorem dX6_init_72 : decode cX6_init 72 = .ok (.aload_n 0, 1) := by decide +kernel
theorem dX6_init_73 : decode cX6_init 73 = .ok (.sipush 150, 3) := by decide +kernel
theorem dX6_init_76 : decode cX6_init 76 = .ok (.newarray .int, 2) := by decide +kernel
theorem dX6_init_78 : decode cX6_init 78 = .ok (.putfield 40, 3) := by decide +kernel
theorem dX6_init_81 : decode cX6_init 81 = .ok (.aload_n 0, 1) := by decide +kernel
theorem dX6_init_82 : decode cX6_init 82 = .ok (.sipush 150, 3) := by decide +kernel
theorem dX6_init_85 : decode cX6_init 85 = .ok (.newarray .int, 2) := by decide +kernel
theorem dX6_init_87 : decode cX6_init 87 = .ok (.putfield 43, 3) := by decide +kernel
theorem dX6_init_90 : decode cX6_init 90 = .ok (.aload_n 0, 1) := by decide +kernel
theorem dX6_init_91 : decode cX6_init 91 = .ok (.sipush 150, 3) := by decide +kernel
theorem dX6_init_94 : decode cX6_init 94 = .ok (.newarray .int, 2) := by decide +kernel
theorem dX6_init_96 : decode cX6_init 96 = .ok (.putfield 46, 3) := by decide +kernel
theorem dX6_init_99 : decode cX6_init 99 = .ok (.aload_n 0, 1) := by decide +kernel
theorem dX6_init_100 : decode cX6_init 100 = .ok (.sipush 150, 3) := by decide +kernel
theorem dX6_init_103 : decode cX6_init 103 = .ok (.newarray .int, 2) := by decide +kernel
theorem dX6_init_105 : decode cX6_init 105 = .ok (.putfield 49, 3) := by decide +kernel
theorem dX6_init_108 : decode cX6_init 108 = .ok (.aload_n 0, 1) := by decide +kernel
theorem dX6_init_109 : decode cX6_init 109 = .ok (.sipush 150, 3) := by decide +kernel
theorem dX6_init_112 : decode cX6_init 112 = .ok (.newarray .int, 2) := by decide +kernel
theorem dX6_init_114 : decode cX6_init 114 = .ok (.putfield 52, 3) := by decide +kernel
theorem dX6_init_117 : decode cX6_init 117 = .ok (.return_, 1) := by decide +kernel
theorem dX6_hasBook_0 : decode cX6_hasBook 0 = .ok (.iload_n 1, 1) := by decide +kernel
theorem dX6_hasBook_1 : decode cX6_hasBook 1 = .ok (.ifCond .lt 15, 3) := by decide +kernel
theorem dX6_hasBook_4 : decode cX6_hasBook 4 = .ok (.iload_n 1, 1) := by decide +kernel
theorem dX6_hasBook_5 : decode cX6_hasBook 5 = .ok (.aload_n 0, 1) := by decide +kernel
theorem dX6_hasBook_6 : decode cX6_hasBook 6 = .ok (.getfield 9, 3) := by decide +kernel
theorem dX6_hasBook_9 : decode cX6_hasBook 9 = .ok (.if_icmp .ge 7, 3) := by decide +kernel
theorem dX6_hasBook_12 : decode cX6_hasBook 12 = .ok (.iconst 1, 1) := by decide +kernel
theorem dX6_hasBook_13 : decode cX6_hasBook 13 = .ok (.goto 4, 3) := by decide +kernel
theorem dX6_hasBook_16 : decode cX6_hasBook 16 = .ok (.iconst 0, 1) := by decide +kernel
theorem dX6_hasBook_17 : decode cX6_hasBook 17 = .ok (.ireturn, 1) := by decide +kernel
theorem dX6_hasRoom_0 : decode cX6_hasRoom 0 = .ok (.aload_n 0, 1) := by decide +kernel
theorem dX6_hasRoom_1 : decode cX6_hasRoom 1 = .ok (.getfield 31, 3) := by decide +kernel
theorem dX6_hasRoom_4 : decode cX6_hasRoom 4 = .ok (.sipush 150, 3) := by decide +kernel
theorem dX6_hasRoom_7 : decode cX6_hasRoom 7 = .ok (.if_icmp .ge 7, 3) := by decide +kernel
theorem dX6_hasRoom_10 : decode cX6_hasRoom 10 = .ok (.iconst 1, 1) := by decide +kernel
theorem dX6_hasRoom_11 : decode cX6_hasRoom 11 = .ok (.goto 4, 3) := by decide +kernel
theorem dX6_hasRoom_14 : decode cX6_hasRoom 14 = .ok (.iconst 0, 1) := by decide +kernel
theorem dX6_hasRoom_15 : decode cX6_hasRoom 15 = .ok (.ireturn, 1) := by decide +kernel
theorem dX6_addBook_0 : decode cX6_addBook 0 = .ok (.aload_n 0, 1) := by decide +kernel
theorem dX6_addBook_1 : decode cX6_addBook 1 = .ok (.getfield 9, 3) := by decide +kernel
theorem dX6_addBook_4 : decode cX6_addBook 4 = .ok (.bipush 24, 2) := by decide +kernel
theorem dX6_addBook_6 : decode cX6_addBook 6 = .ok (.if_icmp .lt 5, 3) := by decide +kernel
theorem dX6_addBook_9 : decode cX6_addBook 9 = .ok (.iconst (-1), 1) := by decide +kernel
theorem dX6_addBook_10 : decode cX6_addBook 10 = .ok (.ireturn, 1) := by decide +kernel
theorem dX6_addBook_11 : decode cX6_addBook 11 = .ok (.aload_n 0, 1) := by decide +kernel
theorem dX6_addBook_12 : decode cX6_addBook 12 = .ok (.getfield 15, 3) := by decide +kernel
theorem dX6_addBook_15 : decode cX6_addBook 15 = .ok (.aload_n 0, 1) := by decide +kernel
theorem dX6_addBook_16 : decode cX6_addBook 16 = .ok (.getfield 9, 3) := by decide +kernel
theorem dX6_addBook_19 : decode cX6_addBook 19 = .ok (.iload_n 1, 1) := by decide +kernel
theorem dX6_addBook_20 : decode cX6_addBook 20 = .ok (.iastore, 1) := by decide +kernel
theorem dX6_addBook_21 : decode cX6_addBook 21 = .ok (.aload_n 0, 1) := by decide +kernel
theorem dX6_addBook_22 : decode cX6_addBook 22 = .ok (.getfield 19, 3) := by decide +kernel
theorem dX6_addBook_25 : decode cX6_addBook 25 = .ok (.aload_n 0, 1) := by decide +kernel
theorem dX6_addBook_26 : decode cX6_addBook 26 = .ok (.getfield 9, 3) := by decide +kernel
theorem dX6_addBook_29 : decode cX6_addBook 29 = .ok (.iload_n 2, 1) := by decide +kernel
theorem dX6_addBook_30 : decode cX6_addBook 30 = .ok (.iastore, 1) := by decide +kernel
theorem dX6_addBook_31 : decode cX6_addBook 31 = .ok (.aload_n 0, 1) := by decide +kernel
theorem dX6_addBook_32 : decode cX6_addBook 32 = .ok (.getfield 22, 3) := by decide +kernel
theorem dX6_addBook_35 : decode cX6_addBook 35 = .ok (.aload_n 0, 1) := by decide +kernel
theorem dX6_addBook_36 : decode cX6_addBook 36 = .ok (.getfield 9, 3) := by decide +kernel
theorem dX6_addBook_39 : decode cX6_addBook 39 = .ok (.iload_n 3, 1) := by decide +kernel
theorem dX6_addBook_40 : decode cX6_addBook 40 = .ok (.iastore, 1) := by decide +kernel
theorem dX6_addBook_41 : decode cX6_addBook 41 = .ok (.aload_n 0, 1) := by decide +kernel
theorem dX6_addBook_42 : decode cX6_addBook 42 = .ok (.getfield 25, 3) := by decide +kernel
theorem dX6_addBook_45 : decode cX6_addBook 45 = .ok (.aload_n 0, 1) := by decide +kernel
theorem dX6_addBook_46 : decode cX6_addBook 46 = .ok (.getfield 9, 3) := by decide +kernel
theorem dX6_addBook_49 : decode cX6_addBook 49 = .ok (.iload 4, 2) := by decide +kernel
theorem dX6_addBook_51 : decode cX6_addBook 51 = .ok (.iastore, 1) := by decide +kernel
theorem dX6_addBook_52 : decode cX6_addBook 52 = .ok (.aload_n 0, 1) := by decide +kernel
theorem dX6_addBook_53 : decode cX6_addBook 53 = .ok (.getfield 28, 3) := by decide +kernel
theorem dX6_addBook_56 : decode cX6_addBook 56 = .ok (.aload_n 0, 1) := by decide +kernel
theorem dX6_addBook_57 : decode cX6_addBook 57 = .ok (.getfield 9, 3) := by decide +kernel
theorem dX6_addBook_60 : decode cX6_addBook 60 = .ok (.iload 5, 2) := by decide +kernel
theorem dX6_addBook_62 : decode cX6_addBook 62 = .ok (.iastore, 1) := by decide +kernel
theorem dX6_addBook_63 : decode cX6_addBook 63 = .ok (.aload_n 0, 1) := by decide +kernel
theorem dX6_addBook_64 : decode cX6_addBook 64 = .ok (.dup, 1) := by decide +kernel
theorem dX6_addBook_65 : decode cX6_addBook 65 = .ok (.getfield 9, 3) := by decide +kernel
theorem dX6_addBook_68 : decode cX6_addBook 68 = .ok (.iconst 1, 1) := by decide +kernel
theorem dX6_addBook_69 : decode cX6_addBook 69 = .ok (.iadd, 1) := by decide +kernel
theorem dX6_addBook_70 : decode cX6_addBook 70 = .ok (.putfield 9, 3) := by decide +kernel
theorem dX6_addBook_73 : decode cX6_addBook 73 = .ok (.aload_n 0, 1) := by decide +kernel
theorem dX6_addBook_74 : decode cX6_addBook 74 = .ok (.getfield 9, 3) := by decide +kernel
theorem dX6_addBook_77 : decode cX6_addBook 77 = .ok (.iconst 1, 1) := by decide +kernel
theorem dX6_addBook_78 : decode cX6_addBook 78 = .ok (.isub, 1) := by decide +kernel
theorem dX6_addBook_79 : decode cX6_addBook 79 = .ok (.ireturn, 1) := by decide +kernel
theorem dX6_addAct_0 : decode cX6_addAct 0 = .ok (.aload_n 0, 1) := by decide +kernel
theorem dX6_addAct_1 : decode cX6_addAct 1 = .ok (.getfield 31, 3) := by decide +kernel
theorem dX6_addAct_4 : decode cX6_addAct 4 = .ok (.sipush 150, 3) := by decide +kernel
theorem dX6_addAct_7 : decode cX6_addAct 7 = .ok (.if_icmp .lt 5, 3) := by decide +kernel
theorem dX6_addAct_10 : decode cX6_addAct 10 = .ok (.iconst (-1), 1) := by decide +kernel
theorem dX6_addAct_11 : decode cX6_addAct 11 = .ok (.ireturn, 1) := by decide +kernel
theorem dX6_addAct_12 : decode cX6_addAct 12 = .ok (.aload_n 0, 1) := by decide +kernel
theorem dX6_addAct_13 : decode cX6_addAct 13 = .ok (.getfield 34, 3) := by decide +kernel
theorem dX6_addAct_16 : decode cX6_addAct 16 = .ok (.aload_n 0, 1) := by decide +kernel
theorem dX6_addAct_17 : decode cX6_addAct 17 = .ok (.getfield 31, 3) := by decide +kernel
theorem dX6_addAct_20 : decode cX6_addAct 20 = .ok (.iload_n 1, 1) := by decide +kernel
theorem dX6_addAct_21 : decode cX6_addAct 21 = .ok (.iastore, 1) := by decide +kernel
theorem dX6_addAct_22 : decode cX6_addAct 22 = .ok (.aload_n 0, 1) := by decide +kernel
theorem dX6_addAct_23 : decode cX6_addAct 23 = .ok (.getfield 37, 3) := by decide +kernel
theorem dX6_addAct_26 : decode cX6_addAct 26 = .ok (.aload_n 0, 1) := by decide +kernel
theorem dX6_addAct_27 : decode cX6_addAct 27 = .ok (.getfield 31, 3) := by decide +kernel
theorem dX6_addAct_30 : decode cX6_addAct 30 = .ok (.iload_n 2, 1) := by decide +kernel
theorem dX6_addAct_31 : decode cX6_addAct 31 = .ok (.iastore, 1) := by decide +kernel
theorem dX6_addAct_32 : decode cX6_addAct 32 = .ok (.aload_n 0, 1) := by decide +kernel
theorem dX6_addAct_33 : decode cX6_addAct 33 = .ok (.getfield 40, 3) := by decide +kernel
theorem dX6_addAct_36 : decode cX6_addAct 36 = .ok (.aload_n 0, 1) := by decide +kernel
theorem dX6_addAct_37 : decode cX6_addAct 37 = .ok (.getfield 31, 3) := by decide +kernel
theorem dX6_addAct_40 : decode cX6_addAct 40 = .ok (.iload_n 3, 1) := by decide +kernel
theorem dX6_addAct_41 : decode cX6_addAct 41 = .ok (.iastore, 1) := by decide +kernel
theorem dX6_addAct_42 : decode cX6_addAct 42 = .ok (.aload_n 0, 1) := by decide +kernel
theorem dX6_addAct_43 : decode cX6_addAct 43 = .ok (.getfield 43, 3) := by decide +kernel
theorem dX6_addAct_46 : decode cX6_addAct 46 = .ok (.aload_n 0, 1) := by decide +kernel
theorem dX6_addAct_47 : decode cX6_addAct 47 = .ok (.getfield 31, 3) := by decide +kernel
theorem dX6_addAct_50 : decode cX6_addAct 50 = .ok (.iload 4, 2) := by decide +kernel
theorem dX6_addAct_52 : decode cX6_addAct 52 = .ok (.iastore, 1) := by decide +kernel
theorem dX6_addAct_53 : decode cX6_addAct 53 = .ok (.aload_n 0, 1) := by decide +kernel
theorem dX6_addAct_54 : decode cX6_addAct 54 = .ok (.getfield 46, 3) := by decide +kernel
theorem dX6_addAct_57 : decode cX6_addAct 57 = .ok (.aload_n 0, 1) := by decide +kernel
theorem dX6_addAct_58 : decode cX6_addAct 58 = .ok (.getfield 31, 3) := by decide +kernel
theorem dX6_addAct_61 : decode cX6_addAct 61 = .ok (.iload 5, 2) := by decide +kernel
theorem dX6_addAct_63 : decode cX6_addAct 63 = .ok (.iastore, 1) := by decide +kernel
theorem dX6_addAct_64 : decode cX6_addAct 64 = .ok (.aload_n 0, 1) := by decide +kernel
theorem dX6_addAct_65 : decode cX6_addAct 65 = .ok (.getfield 49, 3) := by decide +kernel
theorem dX6_addAct_68 : decode cX6_addAct 68 = .ok (.aload_n 0, 1) := by decide +kernel
theorem dX6_addAct_69 : decode cX6_addAct 69 = .ok (.getfield 31, 3) := by decide +kernel
theorem dX6_addAct_72 : decode cX6_addAct 72 = .ok (.iload 6, 2) := by decide +kernel
theorem dX6_addAct_74 : decode cX6_addAct 74 = .ok (.iastore, 1) := by decide +kernel
theorem dX6_addAct_75 : decode cX6_addAct 75 = .ok (.aload_n 0, 1) := by decide +kernel
theorem dX6_addAct_76 : decode cX6_addAct 76 = .ok (.getfield 52, 3) := by decide +kernel
theorem dX6_addAct_79 : decode cX6_addAct 79 = .ok (.aload_n 0, 1) := by decide +kernel
theorem dX6_addAct_80 : decode cX6_addAct 80 = .ok (.getfield 31, 3) := by decide +kernel
theorem dX6_addAct_83 : decode cX6_addAct 83 = .ok (.iload 7, 2) := by decide +kernel
theorem dX6_addAct_85 : decode cX6_addAct 85 = .ok (.iastore, 1) := by decide +kernel
theorem dX6_addAct_86 : decode cX6_addAct 86 = .ok (.aload_n 0, 1) := by decide +kernel
theorem dX6_addAct_87 : decode cX6_addAct 87 = .ok (.dup, 1) := by decide +kernel
theorem dX6_addAct_88 : decode cX6_addAct 88 = .ok (.getfield 31, 3) := by decide +kernel
theorem dX6_addAct_91 : decode cX6_addAct 91 = .ok (.iconst 1, 1) := by decide +kernel
theorem dX6_addAct_92 : decode cX6_addAct 92 = .ok (.iadd, 1) := by decide +kernel
theorem dX6_addAct_93 : decode cX6_addAct 93 = .ok (.putfield 31, 3) := by decide +kernel
theorem dX6_addAct_96 : decode cX6_addAct 96 = .ok (.aload_n 0, 1) := by decide +kernel
theorem dX6_addAct_97 : decode cX6_addAct 97 = .ok (.getfield 31, 3) := by decide +kernel
theorem dX6_addAct_100 : decode cX6_addAct 100 = .ok (.iconst 1, 1) := by decide +kernel
theorem dX6_addAct_101 : decode cX6_addAct 101 = .ok (.isub, 1) := by decide +kernel
theorem dX6_addAct_102 : decode cX6_addAct 102 = .ok (.ireturn, 1) := by decide +kernel
theorem dX6_lastAct_0 : decode cX6_lastAct 0 = .ok (.iconst (-1), 1) := by decide +kernel
theorem dX6_lastAct_1 : decode cX6_lastAct 1 = .ok (.istore 5, 2) := by decide +kernel
theorem dX6_lastAct_3 : decode cX6_lastAct 3 = .ok (.iconst 0, 1) := by decide +kernel
theorem dX6_lastAct_4 : decode cX6_lastAct 4 = .ok (.istore 6, 2) := by decide +kernel
theorem dX6_lastAct_6 : decode cX6_lastAct 6 = .ok (.iconst 0, 1) := by decide +kernel
theorem dX6_lastAct_7 : decode cX6_lastAct 7 = .ok (.istore 7, 2) := by decide +kernel
theorem dX6_lastAct_9 : decode cX6_lastAct 9 = .ok (.iload 7, 2) := by decide +kernel
theorem dX6_lastAct_11 : decode cX6_lastAct 11 = .ok (.aload_n 0, 1) := by decide +kernel
theorem dX6_lastAct_12 : decode cX6_lastAct 12 = .ok (.getfield 31, 3) := by decide +kernel
theorem dX6_lastAct_15 : decode cX6_lastAct 15 = .ok (.if_icmp .ge 79, 3) := by decide +kernel
theorem dX6_lastAct_18 : decode cX6_lastAct 18 = .ok (.aload_n 0, 1) := by decide +kernel
theorem dX6_lastAct_19 : decode cX6_lastAct 19 = .ok (.getfield 34, 3) := by decide +kernel
theorem dX6_lastAct_22 : decode cX6_lastAct 22 = .ok (.iload 7, 2) := by decide +kernel
theorem dX6_lastAct_24 : decode cX6_lastAct 24 = .ok (.iaload, 1) := by decide +kernel
theorem dX6_lastAct_25 : decode cX6_lastAct 25 = .ok (.iload_n 1, 1) := by decide +kernel
theorem dX6_lastAct_26 : decode cX6_lastAct 26 = .ok (.if_icmp .ne 62, 3) := by decide +kernel
theorem dX6_lastAct_29 : decode cX6_lastAct 29 = .ok (.aload_n 0, 1) := by decide +kernel
theorem dX6_lastAct_30 : decode cX6_lastAct 30 = .ok (.getfield 37, 3) := by decide +kernel
theorem dX6_lastAct_33 : decode cX6_lastAct 33 = .ok (.iload 7, 2) := by decide +kernel
theorem dX6_lastAct_35 : decode cX6_lastAct 35 = .ok (.iaload, 1) := by decide +kernel
theorem dX6_lastAct_36 : decode cX6_lastAct 36 = .ok (.iload_n 2, 1) := by decide +kernel
theorem dX6_lastAct_37 : decode cX6_lastAct 37 = .ok (.if_icmp .gt 51, 3) := by decide +kernel
theorem dX6_lastAct_40 : decode cX6_lastAct 40 = .ok (.aload_n 0, 1) := by decide +kernel
theorem dX6_lastAct_41 : decode cX6_lastAct 41 = .ok (.getfield 46, 3) := by decide +kernel
theorem dX6_lastAct_44 : decode cX6_lastAct 44 = .ok (.iload 7, 2) := by decide +kernel
theorem dX6_lastAct_46 : decode cX6_lastAct 46 = .ok (.iaload, 1) := by decide +kernel
theorem dX6_lastAct_47 : decode cX6_lastAct 47 = .ok (.iload 4, 2) := by decide +kernel
theorem dX6_lastAct_49 : decode cX6_lastAct 49 = .ok (.if_icmp .gt 39, 3) := by decide +kernel
theorem dX6_lastAct_52 : decode cX6_lastAct 52 = .ok (.aload_n 0, 1) := by decide +kernel
theorem dX6_lastAct_53 : decode cX6_lastAct 53 = .ok (.getfield 43, 3) := by decide +kernel
theorem dX6_lastAct_56 : decode cX6_lastAct 56 = .ok (.iload 7, 2) := by decide +kernel
theorem dX6_lastAct_58 : decode cX6_lastAct 58 = .ok (.iaload, 1) := by decide +kernel
theorem dX6_lastAct_59 : decode cX6_lastAct 59 = .ok (.iload_n 3, 1) := by decide +kernel
theorem dX6_lastAct_60 : decode cX6_lastAct 60 = .ok (.if_icmp .gt 28, 3) := by decide +kernel
theorem dX6_lastAct_63 : decode cX6_lastAct 63 = .ok (.aload_n 0, 1) := by decide +kernel
theorem dX6_lastAct_64 : decode cX6_lastAct 64 = .ok (.getfield 43, 3) := by decide +kernel
theorem dX6_lastAct_67 : decode cX6_lastAct 67 = .ok (.iload 7, 2) := by decide +kernel
theorem dX6_lastAct_69 : decode cX6_lastAct 69 = .ok (.iaload, 1) := by decide +kernel
theorem dX6_lastAct_70 : decode cX6_lastAct 70 = .ok (.iload 6, 2) := by decide +kernel
theorem dX6_lastAct_72 : decode cX6_lastAct 72 = .ok (.if_icmp .lt 16, 3) := by decide +kernel
theorem dX6_lastAct_75 : decode cX6_lastAct 75 = .ok (.iload 7, 2) := by decide +kernel
theorem dX6_lastAct_77 : decode cX6_lastAct 77 = .ok (.istore 5, 2) := by decide +kernel
theorem dX6_lastAct_79 : decode cX6_lastAct 79 = .ok (.aload_n 0, 1) := by decide +kernel
theorem dX6_lastAct_80 : decode cX6_lastAct 80 = .ok (.getfield 43, 3) := by decide +kernel
theorem dX6_lastAct_83 : decode cX6_lastAct 83 = .ok (.iload 7, 2) := by decide +kernel
theorem dX6_lastAct_85 : decode cX6_lastAct 85 = .ok (.iaload, 1) := by decide +kernel
theorem dX6_lastAct_86 : decode cX6_lastAct 86 = .ok (.istore 6, 2) := by decide +kernel
theorem dX6_lastAct_88 : decode cX6_lastAct 88 = .ok (.iinc 7 1, 3) := by decide +kernel
theorem dX6_lastAct_91 : decode cX6_lastAct 91 = .ok (.goto (-82), 3) := by decide +kernel
theorem dX6_lastAct_94 : decode cX6_lastAct 94 = .ok (.iload 5, 2) := by decide +kernel
theorem dX6_lastAct_96 : decode cX6_lastAct 96 = .ok (.ireturn, 1) := by decide +kernel
theorem dX6_holder_0 : decode cX6_holder 0 = .ok (.aload_n 0, 1) := by decide +kernel
theorem dX6_holder_1 : decode cX6_holder 1 = .ok (.iload_n 1, 1) := by decide +kernel
theorem dX6_holder_2 : decode cX6_holder 2 = .ok (.iconst 2, 1) := by decide +kernel
theorem dX6_holder_3 : decode cX6_holder 3 = .ok (.iload_n 2, 1) := by decide +kernel
theorem dX6_holder_4 : decode cX6_holder 4 = .ok (.iload_n 3, 1) := by decide +kernel
theorem dX6_holder_5 : decode cX6_holder 5 = .ok (.invokevirtual 55, 3) := by decide +kernel
theorem dX6_holder_8 : decode cX6_holder 8 = .ok (.istore 4, 2) := by decide +kernel
theorem dX6_holder_10 : decode cX6_holder 10 = .ok (.iload 4, 2) := by decide +kernel
theorem dX6_holder_12 : decode cX6_holder 12 = .ok (.iconst (-1), 1) := by decide +kernel
theorem dX6_holder_13 : decode cX6_holder 13 = .ok (.if_icmp .ne 7, 3) := by decide +kernel
theorem dX6_holder_16 : decode cX6_holder 16 = .ok (.iconst (-1), 1) := by decide +kernel
theorem dX6_holder_17 : decode cX6_holder 17 = .ok (.goto 10, 3) := by decide +kernel
theorem dX6_holder_20 : decode cX6_holder 20 = .ok (.aload_n 0, 1) := by decide +kernel
theorem dX6_holder_21 : decode cX6_holder 21 = .ok (.getfield 40, 3) := by decide +kernel
theorem dX6_holder_24 : decode cX6_holder 24 = .ok (.iload 4, 2) := by decide +kernel
theorem dX6_holder_26 : decode cX6_holder 26 = .ok (.iaload, 1) := by decide +kernel
theorem dX6_holder_27 : decode cX6_holder 27 = .ok (.ireturn, 1) := by decide +kernel
theorem dX6_holderInRow_0 : decode cX6_holderInRow 0 = .ok (.iconst 0, 1) := by decide +kernel
theorem dX6_holderInRow_1 : decode cX6_holderInRow 1 = .ok (.istore 4, 2) := by decide +kernel
theorem dX6_holderInRow_3 : decode cX6_holderInRow 3 = .ok (.iconst 0, 1) := by decide +kernel
theorem dX6_holderInRow_4 : decode cX6_holderInRow 4 = .ok (.istore 5, 2) := by decide +kernel
theorem dX6_holderInRow_6 : decode cX6_holderInRow 6 = .ok (.iload 5, 2) := by decide +kernel
theorem dX6_holderInRow_8 : decode cX6_holderInRow 8 = .ok (.bipush 100, 2) := by decide +kernel
theorem dX6_holderInRow_10 : decode cX6_holderInRow 10 = .ok (.if_icmp .ge 89, 3) := by decide +kernel
theorem dX6_holderInRow_13 : decode cX6_holderInRow 13 = .ok (.iconst 0, 1) := by decide +kernel
theorem dX6_holderInRow_14 : decode cX6_holderInRow 14 = .ok (.istore 6, 2) := by decide +kernel
theorem dX6_holderInRow_16 : decode cX6_holderInRow 16 = .ok (.iload 6, 2) := by decide +kernel
theorem dX6_holderInRow_18 : decode cX6_holderInRow 18 = .ok (.aload_n 0, 1) := by decide +kernel
theorem dX6_holderInRow_19 : decode cX6_holderInRow 19 = .ok (.getfield 31, 3) := by decide +kernel
theorem dX6_holderInRow_22 : decode cX6_holderInRow 22 = .ok (.if_icmp .ge 71, 3) := by decide +kernel
theorem dX6_holderInRow_25 : decode cX6_holderInRow 25 = .ok (.aload_n 0, 1) := by decide +kernel
theorem dX6_holderInRow_26 : decode cX6_holderInRow 26 = .ok (.getfield 43, 3) := by decide +kernel
theorem dX6_holderInRow_29 : decode cX6_holderInRow 29 = .ok (.iload 6, 2) := by decide +kernel
theorem dX6_holderInRow_31 : decode cX6_holderInRow 31 = .ok (.iaload, 1) := by decide +kernel
theorem dX6_holderInRow_32 : decode cX6_holderInRow 32 = .ok (.iload 5, 2) := by decide +kernel
theorem dX6_holderInRow_34 : decode cX6_holderInRow 34 = .ok (.if_icmp .ne 53, 3) := by decide +kernel
theorem dX6_holderInRow_37 : decode cX6_holderInRow 37 = .ok (.aload_n 0, 1) := by decide +kernel
theorem dX6_holderInRow_38 : decode cX6_holderInRow 38 = .ok (.getfield 34, 3) := by decide +kernel
theorem dX6_holderInRow_41 : decode cX6_holderInRow 41 = .ok (.iload 6, 2) := by decide +kernel
theorem dX6_holderInRow_43 : decode cX6_holderInRow 43 = .ok (.iaload, 1) := by decide +kernel
theorem dX6_holderInRow_44 : decode cX6_holderInRow 44 = .ok (.iload_n 1, 1) := by decide +kernel
theorem dX6_holderInRow_45 : decode cX6_holderInRow 45 = .ok (.if_icmp .ne 42, 3) := by decide +kernel
theorem dX6_holderInRow_48 : decode cX6_holderInRow 48 = .ok (.aload_n 0, 1) := by decide +kernel
theorem dX6_holderInRow_49 : decode cX6_holderInRow 49 = .ok (.getfield 37, 3) := by decide +kernel
theorem dX6_holderInRow_52 : decode cX6_holderInRow 52 = .ok (.iload 6, 2) := by decide +kernel
theorem dX6_holderInRow_54 : decode cX6_holderInRow 54 = .ok (.iaload, 1) := by decide +kernel
theorem dX6_holderInRow_55 : decode cX6_holderInRow 55 = .ok (.iconst 1, 1) := by decide +kernel
theorem dX6_holderInRow_56 : decode cX6_holderInRow 56 = .ok (.if_icmp .gt 31, 3) := by decide +kernel
theorem dX6_holderInRow_59 : decode cX6_holderInRow 59 = .ok (.aload_n 0, 1) := by decide +kernel
theorem dX6_holderInRow_60 : decode cX6_holderInRow 60 = .ok (.getfield 46, 3) := by decide +kernel
theorem dX6_holderInRow_63 : decode cX6_holderInRow 63 = .ok (.iload 6, 2) := by decide +kernel
theorem dX6_holderInRow_65 : decode cX6_holderInRow 65 = .ok (.iaload, 1) := by decide +kernel
theorem dX6_holderInRow_66 : decode cX6_holderInRow 66 = .ok (.iload_n 3, 1) := by decide +kernel
theorem dX6_holderInRow_67 : decode cX6_holderInRow 67 = .ok (.if_icmp .gt 20, 3) := by decide +kernel
theorem dX6_holderInRow_70 : decode cX6_holderInRow 70 = .ok (.iload 4, 2) := by decide +kernel
theorem dX6_holderInRow_72 : decode cX6_holderInRow 72 = .ok (.iload_n 2, 1) := by decide +kernel
theorem dX6_holderInRow_73 : decode cX6_holderInRow 73 = .ok (.if_icmp .ne 11, 3) := by decide +kernel
theorem dX6_holderInRow_76 : decode cX6_holderInRow 76 = .ok (.aload_n 0, 1) := by decide +kernel
theorem dX6_holderInRow_77 : decode cX6_holderInRow 77 = .ok (.getfield 40, 3) := by decide +kernel
theorem dX6_holderInRow_80 : decode cX6_holderInRow 80 = .ok (.iload 6, 2) := by decide +kernel
theorem dX6_holderInRow_82 : decode cX6_holderInRow 82 = .ok (.iaload, 1) := by decide +kernel
theorem dX6_holderInRow_83 : decode cX6_holderInRow 83 = .ok (.ireturn, 1) := by decide +kernel
theorem dX6_holderInRow_84 : decode cX6_holderInRow 84 = .ok (.iinc 4 1, 3) := by decide +kernel
theorem dX6_holderInRow_87 : decode cX6_holderInRow 87 = .ok (.iinc 6 1, 3) := by decide +kernel
theorem dX6_holderInRow_90 : decode cX6_holderInRow 90 = .ok (.goto (-74), 3) := by decide +kernel
theorem dX6_holderInRow_93 : decode cX6_holderInRow 93 = .ok (.iinc 5 1, 3) := by decide +kernel
theorem dX6_holderInRow_96 : decode cX6_holderInRow 96 = .ok (.goto (-90), 3) := by decide +kernel
theorem dX6_holderInRow_99 : decode cX6_holderInRow 99 = .ok (.iconst (-1), 1) := by decide +kernel
theorem dX6_holderInRow_100 : decode cX6_holderInRow 100 = .ok (.ireturn, 1) := by decide +kernel
theorem dX6_everHad_0 : decode cX6_everHad 0 = .ok (.iconst 0, 1) := by decide +kernel
theorem dX6_everHad_1 : decode cX6_everHad 1 = .ok (.istore 4, 2) := by decide +kernel
theorem dX6_everHad_3 : decode cX6_everHad 3 = .ok (.iload 4, 2) := by decide +kernel
theorem dX6_everHad_5 : decode cX6_everHad 5 = .ok (.aload_n 0, 1) := by decide +kernel
theorem dX6_everHad_6 : decode cX6_everHad 6 = .ok (.getfield 31, 3) := by decide +kernel
theorem dX6_everHad_9 : decode cX6_everHad 9 = .ok (.if_icmp .ge 55, 3) := by decide +kernel
theorem dX6_everHad_12 : decode cX6_everHad 12 = .ok (.aload_n 0, 1) := by decide +kernel
theorem dX6_everHad_13 : decode cX6_everHad 13 = .ok (.getfield 34, 3) := by decide +kernel
theorem dX6_everHad_16 : decode cX6_everHad 16 = .ok (.iload 4, 2) := by decide +kernel
theorem dX6_everHad_18 : decode cX6_everHad 18 = .ok (.iaload, 1) := by decide +kernel
theorem dX6_everHad_19 : decode cX6_everHad 19 = .ok (.iload_n 1, 1) := by decide +kernel
theorem dX6_everHad_20 : decode cX6_everHad 20 = .ok (.if_icmp .ne 38, 3) := by decide +kernel
theorem dX6_everHad_23 : decode cX6_everHad 23 = .ok (.aload_n 0, 1) := by decide +kernel
theorem dX6_everHad_24 : decode cX6_everHad 24 = .ok (.getfield 37, 3) := by decide +kernel
theorem dX6_everHad_27 : decode cX6_everHad 27 = .ok (.iload 4, 2) := by decide +kernel
theorem dX6_everHad_29 : decode cX6_everHad 29 = .ok (.iaload, 1) := by decide +kernel
theorem dX6_everHad_30 : decode cX6_everHad 30 = .ok (.iconst 1, 1) := by decide +kernel
theorem dX6_everHad_31 : decode cX6_everHad 31 = .ok (.if_icmp .gt 27, 3) := by decide +kernel
theorem dX6_everHad_34 : decode cX6_everHad 34 = .ok (.aload_n 0, 1) := by decide +kernel
theorem dX6_everHad_35 : decode cX6_everHad 35 = .ok (.getfield 40, 3) := by decide +kernel
theorem dX6_everHad_38 : decode cX6_everHad 38 = .ok (.iload 4, 2) := by decide +kernel
theorem dX6_everHad_40 : decode cX6_everHad 40 = .ok (.iaload, 1) := by decide +kernel
theorem dX6_everHad_41 : decode cX6_everHad 41 = .ok (.iload_n 2, 1) := by decide +kernel
theorem dX6_everHad_42 : decode cX6_everHad 42 = .ok (.if_icmp .ne 16, 3) := by decide +kernel
theorem dX6_everHad_45 : decode cX6_everHad 45 = .ok (.aload_n 0, 1) := by decide +kernel
theorem dX6_everHad_46 : decode cX6_everHad 46 = .ok (.getfield 46, 3) := by decide +kernel
theorem dX6_everHad_49 : decode cX6_everHad 49 = .ok (.iload 4, 2) := by decide +kernel
theorem dX6_everHad_51 : decode cX6_everHad 51 = .ok (.iaload, 1) := by decide +kernel
theorem dX6_everHad_52 : decode cX6_everHad 52 = .ok (.iload_n 3, 1) := by decide +kernel
theorem dX6_everHad_53 : decode cX6_everHad 53 = .ok (.if_icmp .gt 5, 3) := by decide +kernel
theorem dX6_everHad_56 : decode cX6_everHad 56 = .ok (.iconst 1, 1) := by decide +kernel
theorem dX6_everHad_57 : decode cX6_everHad 57 = .ok (.ireturn, 1) := by decide +kernel
theorem dX6_everHad_58 : decode cX6_everHad 58 = .ok (.iinc 4 1, 3) := by decide +kernel
theorem dX6_everHad_61 : decode cX6_everHad 61 = .ok (.goto (-58), 3) := by decide +kernel
theorem dX6_everHad_64 : decode cX6_everHad 64 = .ok (.iconst 0, 1) := by decide +kernel
theorem dX6_everHad_65 : decode cX6_everHad 65 = .ok (.ireturn, 1) := by decide +kernel
theorem dX6_dueWeek_0 : decode cX6_dueWeek 0 = .ok (.aload_n 0, 1) := by decide +kernel
theorem dX6_dueWeek_1 : decode cX6_dueWeek 1 = .ok (.iload_n 1, 1) := by decide +kernel
theorem dX6_dueWeek_2 : decode cX6_dueWeek 2 = .ok (.iconst 0, 1) := by decide +kernel
theorem dX6_dueWeek_3 : decode cX6_dueWeek 3 = .ok (.iload_n 2, 1) := by decide +kernel
theorem dX6_dueWeek_4 : decode cX6_dueWeek 4 = .ok (.iload_n 3, 1) := by decide +kernel
theorem dX6_dueWeek_5 : decode cX6_dueWeek 5 = .ok (.invokevirtual 55, 3) := by decide +kernel
theorem dX6_dueWeek_8 : decode cX6_dueWeek 8 = .ok (.istore 5, 2) := by decide +kernel
theorem dX6_dueWeek_10 : decode cX6_dueWeek 10 = .ok (.iload 5, 2) := by decide +kernel
theorem dX6_dueWeek_12 : decode cX6_dueWeek 12 = .ok (.iconst (-1), 1) := by decide +kernel
theorem dX6_dueWeek_13 : decode cX6_dueWeek 13 = .ok (.if_icmp .ne 5, 3) := by decide +kernel
theorem dX6_dueWeek_16 : decode cX6_dueWeek 16 = .ok (.iconst (-1), 1) := by decide +kernel
theorem dX6_dueWeek_17 : decode cX6_dueWeek 17 = .ok (.ireturn, 1) := by decide +kernel
theorem dX6_dueWeek_18 : decode cX6_dueWeek 18 = .ok (.aload_n 0, 1) := by decide +kernel
theorem dX6_dueWeek_19 : decode cX6_dueWeek 19 = .ok (.getfield 49, 3) := by decide +kernel
theorem dX6_dueWeek_22 : decode cX6_dueWeek 22 = .ok (.iload 5, 2) := by decide +kernel
theorem dX6_dueWeek_24 : decode cX6_dueWeek 24 = .ok (.iaload, 1) := by decide +kernel
theorem dX6_dueWeek_25 : decode cX6_dueWeek 25 = .ok (.istore 6, 2) := by decide +kernel
theorem dX6_dueWeek_27 : decode cX6_dueWeek 27 = .ok (.aload_n 0, 1) := by decide +kernel
theorem dX6_dueWeek_28 : decode cX6_dueWeek 28 = .ok (.getfield 43, 3) := by decide +kernel
theorem dX6_dueWeek_31 : decode cX6_dueWeek 31 = .ok (.iload 5, 2) := by decide +kernel
theorem dX6_dueWeek_33 : decode cX6_dueWeek 33 = .ok (.iaload, 1) := by decide +kernel
theorem dX6_dueWeek_34 : decode cX6_dueWeek 34 = .ok (.iconst 1, 1) := by decide +kernel
theorem dX6_dueWeek_35 : decode cX6_dueWeek 35 = .ok (.iadd, 1) := by decide +kernel
theorem dX6_dueWeek_36 : decode cX6_dueWeek 36 = .ok (.istore 7, 2) := by decide +kernel
theorem dX6_dueWeek_38 : decode cX6_dueWeek 38 = .ok (.iload 7, 2) := by decide +kernel
theorem dX6_dueWeek_40 : decode cX6_dueWeek 40 = .ok (.bipush 100, 2) := by decide +kernel
theorem dX6_dueWeek_42 : decode cX6_dueWeek 42 = .ok (.if_icmp .ge 29, 3) := by decide +kernel
theorem dX6_dueWeek_45 : decode cX6_dueWeek 45 = .ok (.iload 6, 2) := by decide +kernel
theorem dX6_dueWeek_47 : decode cX6_dueWeek 47 = .ok (.iconst 1, 1) := by decide +kernel
theorem dX6_dueWeek_48 : decode cX6_dueWeek 48 = .ok (.aload 4, 2) := by decide +kernel
theorem dX6_dueWeek_50 : decode cX6_dueWeek 50 = .ok (.iload 7, 2) := by decide +kernel
theorem dX6_dueWeek_52 : decode cX6_dueWeek 52 = .ok (.iaload, 1) := by decide +kernel
theorem dX6_dueWeek_53 : decode cX6_dueWeek 53 = .ok (.isub, 1) := by decide +kernel
theorem dX6_dueWeek_54 : decode cX6_dueWeek 54 = .ok (.isub, 1) := by decide +kernel
theorem dX6_dueWeek_55 : decode cX6_dueWeek 55 = .ok (.istore 6, 2) := by decide +kernel
theorem dX6_dueWeek_57 : decode cX6_dueWeek 57 = .ok (.iload 6, 2) := by decide +kernel
theorem dX6_dueWeek_59 : decode cX6_dueWeek 59 = .ok (.ifCond .ne 6, 3) := by decide +kernel
theorem dX6_dueWeek_62 : decode cX6_dueWeek 62 = .ok (.iload 7, 2) := by decide +kernel
theorem dX6_dueWeek_64 : decode cX6_dueWeek 64 = .ok (.ireturn, 1) := by decide +kernel
theorem dX6_dueWeek_65 : decode cX6_dueWeek 65 = .ok (.iinc 7 1, 3) := by decide +kernel
theorem dX6_dueWeek_68 : decode cX6_dueWeek 68 = .ok (.goto (-30), 3) := by decide +kernel
theorem dX6_dueWeek_71 : decode cX6_dueWeek 71 = .ok (.bipush 100, 2) := by decide +kernel
theorem dX6_dueWeek_73 : decode cX6_dueWeek 73 = .ok (.ireturn, 1) := by decide +kernel
theorem dX6_heldBy_0 : decode cX6_heldBy 0 = .ok (.iconst 0, 1) := by decide +kernel
theorem dX6_heldBy_1 : decode cX6_heldBy 1 = .ok (.istore 4, 2) := by decide +kernel
theorem dX6_heldBy_3 : decode cX6_heldBy 3 = .ok (.iconst 0, 1) := by decide +kernel
theorem dX6_heldBy_4 : decode cX6_heldBy 4 = .ok (.istore 5, 2) := by decide +kernel
theorem dX6_heldBy_6 : decode cX6_heldBy 6 = .ok (.iload 5, 2) := by decide +kernel
theorem dX6_heldBy_8 : decode cX6_heldBy 8 = .ok (.aload_n 0, 1) := by decide +kernel
theorem dX6_heldBy_9 : decode cX6_heldBy 9 = .ok (.getfield 9, 3) := by decide +kernel
theorem dX6_heldBy_12 : decode cX6_heldBy 12 = .ok (.if_icmp .ge 24, 3) := by decide +kernel
theorem dX6_heldBy_15 : decode cX6_heldBy 15 = .ok (.aload_n 0, 1) := by decide +kernel
theorem dX6_heldBy_16 : decode cX6_heldBy 16 = .ok (.iload 5, 2) := by decide +kernel
theorem dX6_heldBy_18 : decode cX6_heldBy 18 = .ok (.iload_n 2, 1) := by decide +kernel
theorem dX6_heldBy_19 : decode cX6_heldBy 19 = .ok (.iload_n 3, 1) := by decide +kernel
theorem dX6_heldBy_20 : decode cX6_heldBy 20 = .ok (.invokevirtual 59, 3) := by decide +kernel
theorem dX6_heldBy_23 : decode cX6_heldBy 23 = .ok (.iload_n 1, 1) := by decide +kernel
theorem dX6_heldBy_24 : decode cX6_heldBy 24 = .ok (.if_icmp .ne 6, 3) := by decide +kernel
theorem dX6_heldBy_27 : decode cX6_heldBy 27 = .ok (.iinc 4 1, 3) := by decide +kernel
theorem dX6_heldBy_30 : decode cX6_heldBy 30 = .ok (.iinc 5 1, 3) := by decide +kernel
theorem dX6_heldBy_33 : decode cX6_heldBy 33 = .ok (.goto (-27), 3) := by decide +kernel
theorem dX6_heldBy_36 : decode cX6_heldBy 36 = .ok (.iload 4, 2) := by decide +kernel
theorem dX6_heldBy_38 : decode cX6_heldBy 38 = .ok (.ireturn, 1) := by decide +kernel
theorem dX6_heldByAll_0 : decode cX6_heldByAll 0 = .ok (.aload_n 0, 1) := by decide +kernel
theorem dX6_heldByAll_1 : decode cX6_heldByAll 1 = .ok (.getfield 9, 3) := by decide +kernel
theorem dX6_heldByAll_4 : decode cX6_heldByAll 4 = .ok (.aload_n 0, 1) := by decide +kernel
theorem dX6_heldByAll_5 : decode cX6_heldByAll 5 = .ok (.iconst (-1), 1) := by decide +kernel
theorem dX6_heldByAll_6 : decode cX6_heldByAll 6 = .ok (.iload_n 1, 1) := by decide +kernel
theorem dX6_heldByAll_7 : decode cX6_heldByAll 7 = .ok (.iload_n 2, 1) := by decide +kernel
theorem dX6_heldByAll_8 : decode cX6_heldByAll 8 = .ok (.invokevirtual 63, 3) := by decide +kernel
theorem dX6_heldByAll_11 : decode cX6_heldByAll 11 = .ok (.isub, 1) := by decide +kernel
theorem dX6_heldByAll_12 : decode cX6_heldByAll 12 = .ok (.ireturn, 1) := by decide +kernel
theorem dX6_lateWith_0 : decode cX6_lateWith 0 = .ok (.iconst 0, 1) := by decide +kernel
theorem dX6_lateWith_1 : decode cX6_lateWith 1 = .ok (.istore 5, 2) := by decide +kernel
theorem dX6_lateWith_3 : decode cX6_lateWith 3 = .ok (.iconst 0, 1) := by decide +kernel
theorem dX6_lateWith_4 : decode cX6_lateWith 4 = .ok (.istore 6, 2) := by decide +kernel
theorem dX6_lateWith_6 : decode cX6_lateWith 6 = .ok (.iload 6, 2) := by decide +kernel
theorem dX6_lateWith_8 : decode cX6_lateWith 8 = .ok (.aload_n 0, 1) := by decide +kernel
theorem dX6_lateWith_9 : decode cX6_lateWith 9 = .ok (.getfield 9, 3) := by decide +kernel
theorem dX6_lateWith_12 : decode cX6_lateWith 12 = .ok (.if_icmp .ge 38, 3) := by decide +kernel
theorem dX6_lateWith_15 : decode cX6_lateWith 15 = .ok (.aload_n 0, 1) := by decide +kernel
theorem dX6_lateWith_16 : decode cX6_lateWith 16 = .ok (.iload 6, 2) := by decide +kernel
theorem dX6_lateWith_18 : decode cX6_lateWith 18 = .ok (.iload_n 2, 1) := by decide +kernel
theorem dX6_lateWith_19 : decode cX6_lateWith 19 = .ok (.iload_n 3, 1) := by decide +kernel
theorem dX6_lateWith_20 : decode cX6_lateWith 20 = .ok (.invokevirtual 59, 3) := by decide +kernel
theorem dX6_lateWith_23 : decode cX6_lateWith 23 = .ok (.iload_n 1, 1) := by decide +kernel
theorem dX6_lateWith_24 : decode cX6_lateWith 24 = .ok (.if_icmp .ne 20, 3) := by decide +kernel
theorem dX6_lateWith_27 : decode cX6_lateWith 27 = .ok (.iload_n 2, 1) := by decide +kernel
theorem dX6_lateWith_28 : decode cX6_lateWith 28 = .ok (.aload_n 0, 1) := by decide +kernel
theorem dX6_lateWith_29 : decode cX6_lateWith 29 = .ok (.iload 6, 2) := by decide +kernel
theorem dX6_lateWith_31 : decode cX6_lateWith 31 = .ok (.iload_n 2, 1) := by decide +kernel
theorem dX6_lateWith_32 : decode cX6_lateWith 32 = .ok (.iload_n 3, 1) := by decide +kernel
theorem dX6_lateWith_33 : decode cX6_lateWith 33 = .ok (.aload 4, 2) := by decide +kernel
theorem dX6_lateWith_35 : decode cX6_lateWith 35 = .ok (.invokevirtual 66, 3) := by decide +kernel
theorem dX6_lateWith_38 : decode cX6_lateWith 38 = .ok (.if_icmp .le 6, 3) := by decide +kernel
theorem dX6_lateWith_41 : decode cX6_lateWith 41 = .ok (.iinc 5 1, 3) := by decide +kernel
theorem dX6_lateWith_44 : decode cX6_lateWith 44 = .ok (.iinc 6 1, 3) := by decide +kernel
theorem dX6_lateWith_47 : decode cX6_lateWith 47 = .ok (.goto (-41), 3) := by decide +kernel
theorem dX6_lateWith_50 : decode cX6_lateWith 50 = .ok (.iload 5, 2) := by decide +kernel
theorem dX6_lateWith_52 : decode cX6_lateWith 52 = .ok (.ireturn, 1) := by decide +kernel
theorem dX6_isTorn_0 : decode cX6_isTorn 0 = .ok (.aload_n 0, 1) := by decide +kernel
theorem dX6_isTorn_1 : decode cX6_isTorn 1 = .ok (.getfield 37, 3) := by decide +kernel
theorem dX6_isTorn_4 : decode cX6_isTorn 4 = .ok (.iload_n 1, 1) := by decide +kernel
theorem dX6_isTorn_5 : decode cX6_isTorn 5 = .ok (.iaload, 1) := by decide +kernel
theorem dX6_isTorn_6 : decode cX6_isTorn 6 = .ok (.iconst 3, 1) := by decide +kernel
theorem dX6_isTorn_7 : decode cX6_isTorn 7 = .ok (.if_icmp .ne 27, 3) := by decide +kernel
theorem dX6_isTorn_10 : decode cX6_isTorn 10 = .ok (.aload_n 0, 1) := by decide +kernel
theorem dX6_isTorn_11 : decode cX6_isTorn 11 = .ok (.getfield 43, 3) := by decide +kernel
theorem dX6_isTorn_14 : decode cX6_isTorn 14 = .ok (.iload_n 1, 1) := by decide +kernel
theorem dX6_isTorn_15 : decode cX6_isTorn 15 = .ok (.iaload, 1) := by decide +kernel
theorem dX6_isTorn_16 : decode cX6_isTorn 16 = .ok (.iload_n 2, 1) := by decide +kernel
theorem dX6_isTorn_17 : decode cX6_isTorn 17 = .ok (.if_icmp .gt 17, 3) := by decide +kernel
theorem dX6_isTorn_20 : decode cX6_isTorn 20 = .ok (.aload_n 0, 1) := by decide +kernel
theorem dX6_isTorn_21 : decode cX6_isTorn 21 = .ok (.getfield 46, 3) := by decide +kernel
theorem dX6_isTorn_24 : decode cX6_isTorn 24 = .ok (.iload_n 1, 1) := by decide +kernel
theorem dX6_isTorn_25 : decode cX6_isTorn 25 = .ok (.iaload, 1) := by decide +kernel
theorem dX6_isTorn_26 : decode cX6_isTorn 26 = .ok (.iload_n 3, 1) := by decide +kernel
theorem dX6_isTorn_27 : decode cX6_isTorn 27 = .ok (.if_icmp .gt 7, 3) := by decide +kernel
theorem dX6_isTorn_30 : decode cX6_isTorn 30 = .ok (.iconst 1, 1) := by decide +kernel
theorem dX6_isTorn_31 : decode cX6_isTorn 31 = .ok (.goto 4, 3) := by decide +kernel
theorem dX6_isTorn_34 : decode cX6_isTorn 34 = .ok (.iconst 0, 1) := by decide +kernel
theorem dX6_isTorn_35 : decode cX6_isTorn 35 = .ok (.ireturn, 1) := by decide +kernel
theorem dX6_pagesLeft_0 : decode cX6_pagesLeft 0 = .ok (.aload_n 0, 1) := by decide +kernel
theorem dX6_pagesLeft_1 : decode cX6_pagesLeft 1 = .ok (.getfield 25, 3) := by decide +kernel
theorem dX6_pagesLeft_4 : decode cX6_pagesLeft 4 = .ok (.iload_n 1, 1) := by decide +kernel
theorem dX6_pagesLeft_5 : decode cX6_pagesLeft 5 = .ok (.iaload, 1) := by decide +kernel
theorem dX6_pagesLeft_6 : decode cX6_pagesLeft 6 = .ok (.istore 4, 2) := by decide +kernel
theorem dX6_pagesLeft_8 : decode cX6_pagesLeft 8 = .ok (.iconst 0, 1) := by decide +kernel
theorem dX6_pagesLeft_9 : decode cX6_pagesLeft 9 = .ok (.istore 5, 2) := by decide +kernel
theorem dX6_pagesLeft_11 : decode cX6_pagesLeft 11 = .ok (.iload 5, 2) := by decide +kernel
theorem dX6_pagesLeft_13 : decode cX6_pagesLeft 13 = .ok (.aload_n 0, 1) := by decide +kernel
theorem dX6_pagesLeft_14 : decode cX6_pagesLeft 14 = .ok (.getfield 31, 3) := by decide +kernel
theorem dX6_pagesLeft_17 : decode cX6_pagesLeft 17 = .ok (.if_icmp .ge 43, 3) := by decide +kernel
theorem dX6_pagesLeft_20 : decode cX6_pagesLeft 20 = .ok (.aload_n 0, 1) := by decide +kernel
theorem dX6_pagesLeft_21 : decode cX6_pagesLeft 21 = .ok (.getfield 34, 3) := by decide +kernel
theorem dX6_pagesLeft_24 : decode cX6_pagesLeft 24 = .ok (.iload 5, 2) := by decide +kernel
theorem dX6_pagesLeft_26 : decode cX6_pagesLeft 26 = .ok (.iaload, 1) := by decide +kernel
theorem dX6_pagesLeft_27 : decode cX6_pagesLeft 27 = .ok (.iload_n 1, 1) := by decide +kernel
theorem dX6_pagesLeft_28 : decode cX6_pagesLeft 28 = .ok (.if_icmp .ne 26, 3) := by decide +kernel
theorem dX6_pagesLeft_31 : decode cX6_pagesLeft 31 = .ok (.aload_n 0, 1) := by decide +kernel
theorem dX6_pagesLeft_32 : decode cX6_pagesLeft 32 = .ok (.iload 5, 2) := by decide +kernel
theorem dX6_pagesLeft_34 : decode cX6_pagesLeft 34 = .ok (.iload_n 2, 1) := by decide +kernel
theorem dX6_pagesLeft_35 : decode cX6_pagesLeft 35 = .ok (.iload_n 3, 1) := by decide +kernel
theorem dX6_pagesLeft_36 : decode cX6_pagesLeft 36 = .ok (.invokevirtual 70, 3) := by decide +kernel
theorem dX6_pagesLeft_39 : decode cX6_pagesLeft 39 = .ok (.ifCond .eq 15, 3) := by decide +kernel
theorem dX6_pagesLeft_42 : decode cX6_pagesLeft 42 = .ok (.iload 4, 2) := by decide +kernel
theorem dX6_pagesLeft_44 : decode cX6_pagesLeft 44 = .ok (.aload_n 0, 1) := by decide +kernel
theorem dX6_pagesLeft_45 : decode cX6_pagesLeft 45 = .ok (.getfield 49, 3) := by decide +kernel
theorem dX6_pagesLeft_48 : decode cX6_pagesLeft 48 = .ok (.iload 5, 2) := by decide +kernel
theorem dX6_pagesLeft_50 : decode cX6_pagesLeft 50 = .ok (.iaload, 1) := by decide +kernel
theorem dX6_pagesLeft_51 : decode cX6_pagesLeft 51 = .ok (.isub, 1) := by decide +kernel
theorem dX6_pagesLeft_52 : decode cX6_pagesLeft 52 = .ok (.istore 4, 2) := by decide +kernel
theorem dX6_pagesLeft_54 : decode cX6_pagesLeft 54 = .ok (.iinc 5 1, 3) := by decide +kernel
theorem dX6_pagesLeft_57 : decode cX6_pagesLeft 57 = .ok (.goto (-46), 3) := by decide +kernel
theorem dX6_pagesLeft_60 : decode cX6_pagesLeft 60 = .ok (.iload 4, 2) := by decide +kernel
theorem dX6_pagesLeft_62 : decode cX6_pagesLeft 62 = .ok (.ireturn, 1) := by decide +kernel
theorem dX6_tornBy_0 : decode cX6_tornBy 0 = .ok (.iconst 0, 1) := by decide +kernel
theorem dX6_tornBy_1 : decode cX6_tornBy 1 = .ok (.istore 4, 2) := by decide +kernel
theorem dX6_tornBy_3 : decode cX6_tornBy 3 = .ok (.iconst 0, 1) := by decide +kernel
theorem dX6_tornBy_4 : decode cX6_tornBy 4 = .ok (.istore 5, 2) := by decide +kernel
theorem dX6_tornBy_6 : decode cX6_tornBy 6 = .ok (.iload 5, 2) := by decide +kernel
theorem dX6_tornBy_8 : decode cX6_tornBy 8 = .ok (.aload_n 0, 1) := by decide +kernel
theorem dX6_tornBy_9 : decode cX6_tornBy 9 = .ok (.getfield 31, 3) := by decide +kernel
theorem dX6_tornBy_12 : decode cX6_tornBy 12 = .ok (.if_icmp .ge 43, 3) := by decide +kernel
theorem dX6_tornBy_15 : decode cX6_tornBy 15 = .ok (.aload_n 0, 1) := by decide +kernel
theorem dX6_tornBy_16 : decode cX6_tornBy 16 = .ok (.getfield 40, 3) := by decide +kernel
theorem dX6_tornBy_19 : decode cX6_tornBy 19 = .ok (.iload 5, 2) := by decide +kernel
