theorem dX6_tornBy_21 : decode cX6_tornBy 21 = .ok (.iaload, 1) := by decide +kernel
theorem dX6_tornBy_22 : decode cX6_tornBy 22 = .ok (.iload_n 1, 1) := by decide +kernel
theorem dX6_tornBy_23 : decode cX6_tornBy 23 = .ok (.if_icmp .ne 26, 3) := by decide +kernel
theorem dX6_tornBy_26 : decode cX6_tornBy 26 = .ok (.aload_n 0, 1) := by decide +kernel
theorem dX6_tornBy_27 : decode cX6_tornBy 27 = .ok (.iload 5, 2) := by decide +kernel
theorem dX6_tornBy_29 : decode cX6_tornBy 29 = .ok (.iload_n 2, 1) := by decide +kernel
theorem dX6_tornBy_30 : decode cX6_tornBy 30 = .ok (.iload_n 3, 1) := by decide +kernel
theorem dX6_tornBy_31 : decode cX6_tornBy 31 = .ok (.invokevirtual 70, 3) := by decide +kernel
theorem dX6_tornBy_34 : decode cX6_tornBy 34 = .ok (.ifCond .eq 15, 3) := by decide +kernel
theorem dX6_tornBy_37 : decode cX6_tornBy 37 = .ok (.iload 4, 2) := by decide +kernel
theorem dX6_tornBy_39 : decode cX6_tornBy 39 = .ok (.aload_n 0, 1) := by decide +kernel
theorem dX6_tornBy_40 : decode cX6_tornBy 40 = .ok (.getfield 49, 3) := by decide +kernel
theorem dX6_tornBy_43 : decode cX6_tornBy 43 = .ok (.iload 5, 2) := by decide +kernel
theorem dX6_tornBy_45 : decode cX6_tornBy 45 = .ok (.iaload, 1) := by decide +kernel
theorem dX6_tornBy_46 : decode cX6_tornBy 46 = .ok (.iadd, 1) := by decide +kernel
theorem dX6_tornBy_47 : decode cX6_tornBy 47 = .ok (.istore 4, 2) := by decide +kernel
theorem dX6_tornBy_49 : decode cX6_tornBy 49 = .ok (.iinc 5 1, 3) := by decide +kernel
theorem dX6_tornBy_52 : decode cX6_tornBy 52 = .ok (.goto (-46), 3) := by decide +kernel
theorem dX6_tornBy_55 : decode cX6_tornBy 55 = .ok (.iload 4, 2) := by decide +kernel
theorem dX6_tornBy_57 : decode cX6_tornBy 57 = .ok (.ireturn, 1) := by decide +kernel
theorem dX6_owedBy_0 : decode cX6_owedBy 0 = .ok (.iconst 0, 1) := by decide +kernel
theorem dX6_owedBy_1 : decode cX6_owedBy 1 = .ok (.istore 4, 2) := by decide +kernel
theorem dX6_owedBy_3 : decode cX6_owedBy 3 = .ok (.iconst 0, 1) := by decide +kernel
theorem dX6_owedBy_4 : decode cX6_owedBy 4 = .ok (.istore 5, 2) := by decide +kernel
theorem dX6_owedBy_6 : decode cX6_owedBy 6 = .ok (.iload 5, 2) := by decide +kernel
theorem dX6_owedBy_8 : decode cX6_owedBy 8 = .ok (.aload_n 0, 1) := by decide +kernel
theorem dX6_owedBy_9 : decode cX6_owedBy 9 = .ok (.getfield 31, 3) := by decide +kernel
theorem dX6_owedBy_12 : decode cX6_owedBy 12 = .ok (.if_icmp .ge 51, 3) := by decide +kernel
theorem dX6_owedBy_15 : decode cX6_owedBy 15 = .ok (.aload_n 0, 1) := by decide +kernel
theorem dX6_owedBy_16 : decode cX6_owedBy 16 = .ok (.getfield 40, 3) := by decide +kernel
theorem dX6_owedBy_19 : decode cX6_owedBy 19 = .ok (.iload 5, 2) := by decide +kernel
theorem dX6_owedBy_21 : decode cX6_owedBy 21 = .ok (.iaload, 1) := by decide +kernel
theorem dX6_owedBy_22 : decode cX6_owedBy 22 = .ok (.iload_n 1, 1) := by decide +kernel
theorem dX6_owedBy_23 : decode cX6_owedBy 23 = .ok (.if_icmp .ne 34, 3) := by decide +kernel
theorem dX6_owedBy_26 : decode cX6_owedBy 26 = .ok (.aload_n 0, 1) := by decide +kernel
theorem dX6_owedBy_27 : decode cX6_owedBy 27 = .ok (.iload 5, 2) := by decide +kernel
theorem dX6_owedBy_29 : decode cX6_owedBy 29 = .ok (.iload_n 2, 1) := by decide +kernel
theorem dX6_owedBy_30 : decode cX6_owedBy 30 = .ok (.iload_n 3, 1) := by decide +kernel
theorem dX6_owedBy_31 : decode cX6_owedBy 31 = .ok (.invokevirtual 70, 3) := by decide +kernel
theorem dX6_owedBy_34 : decode cX6_owedBy 34 = .ok (.ifCond .eq 23, 3) := by decide +kernel
theorem dX6_owedBy_37 : decode cX6_owedBy 37 = .ok (.iload 4, 2) := by decide +kernel
theorem dX6_owedBy_39 : decode cX6_owedBy 39 = .ok (.aload_n 0, 1) := by decide +kernel
theorem dX6_owedBy_40 : decode cX6_owedBy 40 = .ok (.getfield 49, 3) := by decide +kernel
theorem dX6_owedBy_43 : decode cX6_owedBy 43 = .ok (.iload 5, 2) := by decide +kernel
theorem dX6_owedBy_45 : decode cX6_owedBy 45 = .ok (.iaload, 1) := by decide +kernel
theorem dX6_owedBy_46 : decode cX6_owedBy 46 = .ok (.aload_n 0, 1) := by decide +kernel
theorem dX6_owedBy_47 : decode cX6_owedBy 47 = .ok (.getfield 52, 3) := by decide +kernel
theorem dX6_owedBy_50 : decode cX6_owedBy 50 = .ok (.iload 5, 2) := by decide +kernel
theorem dX6_owedBy_52 : decode cX6_owedBy 52 = .ok (.iaload, 1) := by decide +kernel
theorem dX6_owedBy_53 : decode cX6_owedBy 53 = .ok (.imul, 1) := by decide +kernel
theorem dX6_owedBy_54 : decode cX6_owedBy 54 = .ok (.iadd, 1) := by decide +kernel
theorem dX6_owedBy_55 : decode cX6_owedBy 55 = .ok (.istore 4, 2) := by decide +kernel
theorem dX6_owedBy_57 : decode cX6_owedBy 57 = .ok (.iinc 5 1, 3) := by decide +kernel
theorem dX6_owedBy_60 : decode cX6_owedBy 60 = .ok (.goto (-54), 3) := by decide +kernel
theorem dX6_owedBy_63 : decode cX6_owedBy 63 = .ok (.iload 4, 2) := by decide +kernel
theorem dX6_owedBy_65 : decode cX6_owedBy 65 = .ok (.ireturn, 1) := by decide +kernel
theorem dX6_copyFrom_0 : decode cX6_copyFrom 0 = .ok (.aload_n 0, 1) := by decide +kernel
theorem dX6_copyFrom_1 : decode cX6_copyFrom 1 = .ok (.aload_n 1, 1) := by decide +kernel
theorem dX6_copyFrom_2 : decode cX6_copyFrom 2 = .ok (.getfield 9, 3) := by decide +kernel
theorem dX6_copyFrom_5 : decode cX6_copyFrom 5 = .ok (.putfield 9, 3) := by decide +kernel
theorem dX6_copyFrom_8 : decode cX6_copyFrom 8 = .ok (.aload_n 0, 1) := by decide +kernel
theorem dX6_copyFrom_9 : decode cX6_copyFrom 9 = .ok (.aload_n 1, 1) := by decide +kernel
theorem dX6_copyFrom_10 : decode cX6_copyFrom 10 = .ok (.getfield 31, 3) := by decide +kernel
theorem dX6_copyFrom_13 : decode cX6_copyFrom 13 = .ok (.putfield 31, 3) := by decide +kernel
theorem dX6_copyFrom_16 : decode cX6_copyFrom 16 = .ok (.aload_n 1, 1) := by decide +kernel
theorem dX6_copyFrom_17 : decode cX6_copyFrom 17 = .ok (.getfield 15, 3) := by decide +kernel
theorem dX6_copyFrom_20 : decode cX6_copyFrom 20 = .ok (.aload_n 0, 1) := by decide +kernel
theorem dX6_copyFrom_21 : decode cX6_copyFrom 21 = .ok (.getfield 15, 3) := by decide +kernel
theorem dX6_copyFrom_24 : decode cX6_copyFrom 24 = .ok (.invokestatic 74, 3) := by decide +kernel
theorem dX6_copyFrom_27 : decode cX6_copyFrom 27 = .ok (.aload_n 1, 1) := by decide +kernel
theorem dX6_copyFrom_28 : decode cX6_copyFrom 28 = .ok (.getfield 19, 3) := by decide +kernel
theorem dX6_copyFrom_31 : decode cX6_copyFrom 31 = .ok (.aload_n 0, 1) := by decide +kernel
theorem dX6_copyFrom_32 : decode cX6_copyFrom 32 = .ok (.getfield 19, 3) := by decide +kernel
theorem dX6_copyFrom_35 : decode cX6_copyFrom 35 = .ok (.invokestatic 74, 3) := by decide +kernel
theorem dX6_copyFrom_38 : decode cX6_copyFrom 38 = .ok (.aload_n 1, 1) := by decide +kernel
theorem dX6_copyFrom_39 : decode cX6_copyFrom 39 = .ok (.getfield 22, 3) := by decide +kernel
theorem dX6_copyFrom_42 : decode cX6_copyFrom 42 = .ok (.aload_n 0, 1) := by decide +kernel
theorem dX6_copyFrom_43 : decode cX6_copyFrom 43 = .ok (.getfield 22, 3) := by decide +kernel
theorem dX6_copyFrom_46 : decode cX6_copyFrom 46 = .ok (.invokestatic 74, 3) := by decide +kernel
theorem dX6_copyFrom_49 : decode cX6_copyFrom 49 = .ok (.aload_n 1, 1) := by decide +kernel
theorem dX6_copyFrom_50 : decode cX6_copyFrom 50 = .ok (.getfield 25, 3) := by decide +kernel
theorem dX6_copyFrom_53 : decode cX6_copyFrom 53 = .ok (.aload_n 0, 1) := by decide +kernel
theorem dX6_copyFrom_54 : decode cX6_copyFrom 54 = .ok (.getfield 25, 3) := by decide +kernel
theorem dX6_copyFrom_57 : decode cX6_copyFrom 57 = .ok (.invokestatic 74, 3) := by decide +kernel
theorem dX6_copyFrom_60 : decode cX6_copyFrom 60 = .ok (.aload_n 1, 1) := by decide +kernel
theorem dX6_copyFrom_61 : decode cX6_copyFrom 61 = .ok (.getfield 28, 3) := by decide +kernel
theorem dX6_copyFrom_64 : decode cX6_copyFrom 64 = .ok (.aload_n 0, 1) := by decide +kernel
theorem dX6_copyFrom_65 : decode cX6_copyFrom 65 = .ok (.getfield 28, 3) := by decide +kernel
theorem dX6_copyFrom_68 : decode cX6_copyFrom 68 = .ok (.invokestatic 74, 3) := by decide +kernel
theorem dX6_copyFrom_71 : decode cX6_copyFrom 71 = .ok (.aload_n 1, 1) := by decide +kernel
theorem dX6_copyFrom_72 : decode cX6_copyFrom 72 = .ok (.getfield 34, 3) := by decide +kernel
theorem dX6_copyFrom_75 : decode cX6_copyFrom 75 = .ok (.aload_n 0, 1) := by decide +kernel
theorem dX6_copyFrom_76 : decode cX6_copyFrom 76 = .ok (.getfield 34, 3) := by decide +kernel
theorem dX6_copyFrom_79 : decode cX6_copyFrom 79 = .ok (.invokestatic 74, 3) := by decide +kernel
theorem dX6_copyFrom_82 : decode cX6_copyFrom 82 = .ok (.aload_n 1, 1) := by decide +kernel
theorem dX6_copyFrom_83 : decode cX6_copyFrom 83 = .ok (.getfield 37, 3) := by decide +kernel
theorem dX6_copyFrom_86 : decode cX6_copyFrom 86 = .ok (.aload_n 0, 1) := by decide +kernel
theorem dX6_copyFrom_87 : decode cX6_copyFrom 87 = .ok (.getfield 37, 3) := by decide +kernel
theorem dX6_copyFrom_90 : decode cX6_copyFrom 90 = .ok (.invokestatic 74, 3) := by decide +kernel
theorem dX6_copyFrom_93 : decode cX6_copyFrom 93 = .ok (.aload_n 1, 1) := by decide +kernel
theorem dX6_copyFrom_94 : decode cX6_copyFrom 94 = .ok (.getfield 40, 3) := by decide +kernel
theorem dX6_copyFrom_97 : decode cX6_copyFrom 97 = .ok (.aload_n 0, 1) := by decide +kernel
theorem dX6_copyFrom_98 : decode cX6_copyFrom 98 = .ok (.getfield 40, 3) := by decide +kernel
theorem dX6_copyFrom_101 : decode cX6_copyFrom 101 = .ok (.invokestatic 74, 3) := by decide +kernel
theorem dX6_copyFrom_104 : decode cX6_copyFrom 104 = .ok (.aload_n 1, 1) := by decide +kernel
theorem dX6_copyFrom_105 : decode cX6_copyFrom 105 = .ok (.getfield 43, 3) := by decide +kernel
theorem dX6_copyFrom_108 : decode cX6_copyFrom 108 = .ok (.aload_n 0, 1) := by decide +kernel
theorem dX6_copyFrom_109 : decode cX6_copyFrom 109 = .ok (.getfield 43, 3) := by decide +kernel
theorem dX6_copyFrom_112 : decode cX6_copyFrom 112 = .ok (.invokestatic 74, 3) := by decide +kernel
theorem dX6_copyFrom_115 : decode cX6_copyFrom 115 = .ok (.aload_n 1, 1) := by decide +kernel
theorem dX6_copyFrom_116 : decode cX6_copyFrom 116 = .ok (.getfield 46, 3) := by decide +kernel
theorem dX6_copyFrom_119 : decode cX6_copyFrom 119 = .ok (.aload_n 0, 1) := by decide +kernel
theorem dX6_copyFrom_120 : decode cX6_copyFrom 120 = .ok (.getfield 46, 3) := by decide +kernel
theorem dX6_copyFrom_123 : decode cX6_copyFrom 123 = .ok (.invokestatic 74, 3) := by decide +kernel
theorem dX6_copyFrom_126 : decode cX6_copyFrom 126 = .ok (.aload_n 1, 1) := by decide +kernel
theorem dX6_copyFrom_127 : decode cX6_copyFrom 127 = .ok (.getfield 49, 3) := by decide +kernel
theorem dX6_copyFrom_130 : decode cX6_copyFrom 130 = .ok (.aload_n 0, 1) := by decide +kernel
theorem dX6_copyFrom_131 : decode cX6_copyFrom 131 = .ok (.getfield 49, 3) := by decide +kernel
theorem dX6_copyFrom_134 : decode cX6_copyFrom 134 = .ok (.invokestatic 74, 3) := by decide +kernel
theorem dX6_copyFrom_137 : decode cX6_copyFrom 137 = .ok (.aload_n 1, 1) := by decide +kernel
theorem dX6_copyFrom_138 : decode cX6_copyFrom 138 = .ok (.getfield 52, 3) := by decide +kernel
theorem dX6_copyFrom_141 : decode cX6_copyFrom 141 = .ok (.aload_n 0, 1) := by decide +kernel
theorem dX6_copyFrom_142 : decode cX6_copyFrom 142 = .ok (.getfield 52, 3) := by decide +kernel
theorem dX6_copyFrom_145 : decode cX6_copyFrom 145 = .ok (.invokestatic 74, 3) := by decide +kernel
theorem dX6_copyFrom_148 : decode cX6_copyFrom 148 = .ok (.return_, 1) := by decide +kernel
theorem dX7_init_0 : decode cX7_init 0 = .ok (.aload_n 0, 1) := by decide +kernel
theorem dX7_init_1 : decode cX7_init 1 = .ok (.invokespecial 3, 3) := by decide +kernel
theorem dX7_init_4 : decode cX7_init 4 = .ok (.aload_n 0, 1) := by decide +kernel
theorem dX7_init_5 : decode cX7_init 5 = .ok (.new 9, 3) := by decide +kernel
theorem dX7_init_8 : decode cX7_init 8 = .ok (.dup, 1) := by decide +kernel
theorem dX7_init_9 : decode cX7_init 9 = .ok (.invokespecial 11, 3) := by decide +kernel
theorem dX7_init_12 : decode cX7_init 12 = .ok (.putfield 12, 3) := by decide +kernel
theorem dX7_init_15 : decode cX7_init 15 = .ok (.aload_n 0, 1) := by decide +kernel
theorem dX7_init_16 : decode cX7_init 16 = .ok (.new 18, 3) := by decide +kernel
theorem dX7_init_19 : decode cX7_init 19 = .ok (.dup, 1) := by decide +kernel
theorem dX7_init_20 : decode cX7_init 20 = .ok (.invokespecial 20, 3) := by decide +kernel
theorem dX7_init_23 : decode cX7_init 23 = .ok (.putfield 21, 3) := by decide +kernel
theorem dX7_init_26 : decode cX7_init 26 = .ok (.aload_n 0, 1) := by decide +kernel
theorem dX7_init_27 : decode cX7_init 27 = .ok (.new 25, 3) := by decide +kernel
theorem dX7_init_30 : decode cX7_init 30 = .ok (.dup, 1) := by decide +kernel
theorem dX7_init_31 : decode cX7_init 31 = .ok (.invokespecial 27, 3) := by decide +kernel
theorem dX7_init_34 : decode cX7_init 34 = .ok (.putfield 28, 3) := by decide +kernel
theorem dX7_init_37 : decode cX7_init 37 = .ok (.aload_n 0, 1) := by decide +kernel
theorem dX7_init_38 : decode cX7_init 38 = .ok (.new 32, 3) := by decide +kernel
theorem dX7_init_41 : decode cX7_init 41 = .ok (.dup, 1) := by decide +kernel
theorem dX7_init_42 : decode cX7_init 42 = .ok (.invokespecial 34, 3) := by decide +kernel
theorem dX7_init_45 : decode cX7_init 45 = .ok (.putfield 35, 3) := by decide +kernel
theorem dX7_init_48 : decode cX7_init 48 = .ok (.aload_n 0, 1) := by decide +kernel
theorem dX7_init_49 : decode cX7_init 49 = .ok (.new 39, 3) := by decide +kernel
theorem dX7_init_52 : decode cX7_init 52 = .ok (.dup, 1) := by decide +kernel
theorem dX7_init_53 : decode cX7_init 53 = .ok (.invokespecial 41, 3) := by decide +kernel
theorem dX7_init_56 : decode cX7_init 56 = .ok (.putfield 42, 3) := by decide +kernel
theorem dX7_init_59 : decode cX7_init 59 = .ok (.aload_n 0, 1) := by decide +kernel
theorem dX7_init_60 : decode cX7_init 60 = .ok (.sipush 500, 3) := by decide +kernel
theorem dX7_init_63 : decode cX7_init 63 = .ok (.newarray .int, 2) := by decide +kernel
theorem dX7_init_65 : decode cX7_init 65 = .ok (.putfield 46, 3) := by decide +kernel
theorem dX7_init_68 : decode cX7_init 68 = .ok (.aload_n 0, 1) := by decide +kernel
theorem dX7_init_69 : decode cX7_init 69 = .ok (.iconst 0, 1) := by decide +kernel
theorem dX7_init_70 : decode cX7_init 70 = .ok (.putfield 50, 3) := by decide +kernel
theorem dX7_init_73 : decode cX7_init 73 = .ok (.aload_n 0, 1) := by decide +kernel
theorem dX7_init_74 : decode cX7_init 74 = .ok (.iconst 0, 1) := by decide +kernel
theorem dX7_init_75 : decode cX7_init 75 = .ok (.putfield 54, 3) := by decide +kernel
theorem dX7_init_78 : decode cX7_init 78 = .ok (.aload_n 0, 1) := by decide +kernel
theorem dX7_init_79 : decode cX7_init 79 = .ok (.iconst (-1), 1) := by decide +kernel
theorem dX7_init_80 : decode cX7_init 80 = .ok (.putfield 57, 3) := by decide +kernel
theorem dX7_init_83 : decode cX7_init 83 = .ok (.aload_n 0, 1) := by decide +kernel
theorem dX7_init_84 : decode cX7_init 84 = .ok (.iconst 0, 1) := by decide +kernel
theorem dX7_init_85 : decode cX7_init 85 = .ok (.putfield 60, 3) := by decide +kernel
theorem dX7_init_88 : decode cX7_init 88 = .ok (.aload_n 0, 1) := by decide +kernel
theorem dX7_init_89 : decode cX7_init 89 = .ok (.iconst (-1), 1) := by decide +kernel
theorem dX7_init_90 : decode cX7_init 90 = .ok (.putfield 63, 3) := by decide +kernel
theorem dX7_init_93 : decode cX7_init 93 = .ok (.return_, 1) := by decide +kernel
theorem dX7_addBytes_0 : decode cX7_addBytes 0 = .ok (.bipush 24, 2) := by decide +kernel
theorem dX7_addBytes_2 : decode cX7_addBytes 2 = .ok (.istore_n 2, 1) := by decide +kernel
theorem dX7_addBytes_3 : decode cX7_addBytes 3 = .ok (.iload_n 2, 1) := by decide +kernel
theorem dX7_addBytes_4 : decode cX7_addBytes 4 = .ok (.ifCond .lt 45, 3) := by decide +kernel
theorem dX7_addBytes_7 : decode cX7_addBytes 7 = .ok (.aload_n 0, 1) := by decide +kernel
theorem dX7_addBytes_8 : decode cX7_addBytes 8 = .ok (.getfield 50, 3) := by decide +kernel
theorem dX7_addBytes_11 : decode cX7_addBytes 11 = .ok (.sipush 500, 3) := by decide +kernel
theorem dX7_addBytes_14 : decode cX7_addBytes 14 = .ok (.if_icmp .ge 35, 3) := by decide +kernel
theorem dX7_addBytes_17 : decode cX7_addBytes 17 = .ok (.aload_n 0, 1) := by decide +kernel
theorem dX7_addBytes_18 : decode cX7_addBytes 18 = .ok (.getfield 46, 3) := by decide +kernel
theorem dX7_addBytes_21 : decode cX7_addBytes 21 = .ok (.aload_n 0, 1) := by decide +kernel
theorem dX7_addBytes_22 : decode cX7_addBytes 22 = .ok (.getfield 50, 3) := by decide +kernel
theorem dX7_addBytes_25 : decode cX7_addBytes 25 = .ok (.iload_n 1, 1) := by decide +kernel
theorem dX7_addBytes_26 : decode cX7_addBytes 26 = .ok (.iload_n 2, 1) := by decide +kernel
theorem dX7_addBytes_27 : decode cX7_addBytes 27 = .ok (.ishr, 1) := by decide +kernel
theorem dX7_addBytes_28 : decode cX7_addBytes 28 = .ok (.sipush 255, 3) := by decide +kernel
theorem dX7_addBytes_31 : decode cX7_addBytes 31 = .ok (.iand, 1) := by decide +kernel
theorem dX7_addBytes_32 : decode cX7_addBytes 32 = .ok (.iastore, 1) := by decide +kernel
theorem dX7_addBytes_33 : decode cX7_addBytes 33 = .ok (.aload_n 0, 1) := by decide +kernel
theorem dX7_addBytes_34 : decode cX7_addBytes 34 = .ok (.dup, 1) := by decide +kernel
theorem dX7_addBytes_35 : decode cX7_addBytes 35 = .ok (.getfield 50, 3) := by decide +kernel
theorem dX7_addBytes_38 : decode cX7_addBytes 38 = .ok (.iconst 1, 1) := by decide +kernel
theorem dX7_addBytes_39 : decode cX7_addBytes 39 = .ok (.iadd, 1) := by decide +kernel
theorem dX7_addBytes_40 : decode cX7_addBytes 40 = .ok (.putfield 50, 3) := by decide +kernel
theorem dX7_addBytes_43 : decode cX7_addBytes 43 = .ok (.iinc 2 (-8), 3) := by decide +kernel
theorem dX7_addBytes_46 : decode cX7_addBytes 46 = .ok (.goto (-43), 3) := by decide +kernel
theorem dX7_addBytes_49 : decode cX7_addBytes 49 = .ok (.return_, 1) := by decide +kernel
theorem dX7_copyFrom_0 : decode cX7_copyFrom 0 = .ok (.aload_n 0, 1) := by decide +kernel
theorem dX7_copyFrom_1 : decode cX7_copyFrom 1 = .ok (.getfield 12, 3) := by decide +kernel
theorem dX7_copyFrom_4 : decode cX7_copyFrom 4 = .ok (.aload_n 1, 1) := by decide +kernel
theorem dX7_copyFrom_5 : decode cX7_copyFrom 5 = .ok (.getfield 12, 3) := by decide +kernel
theorem dX7_copyFrom_8 : decode cX7_copyFrom 8 = .ok (.invokevirtual 66, 3) := by decide +kernel
theorem dX7_copyFrom_11 : decode cX7_copyFrom 11 = .ok (.aload_n 0, 1) := by decide +kernel
theorem dX7_copyFrom_12 : decode cX7_copyFrom 12 = .ok (.getfield 21, 3) := by decide +kernel
theorem dX7_copyFrom_15 : decode cX7_copyFrom 15 = .ok (.aload_n 1, 1) := by decide +kernel
theorem dX7_copyFrom_16 : decode cX7_copyFrom 16 = .ok (.getfield 21, 3) := by decide +kernel
theorem dX7_copyFrom_19 : decode cX7_copyFrom 19 = .ok (.invokevirtual 70, 3) := by decide +kernel
theorem dX7_copyFrom_22 : decode cX7_copyFrom 22 = .ok (.aload_n 0, 1) := by decide +kernel
theorem dX7_copyFrom_23 : decode cX7_copyFrom 23 = .ok (.getfield 28, 3) := by decide +kernel
theorem dX7_copyFrom_26 : decode cX7_copyFrom 26 = .ok (.aload_n 1, 1) := by decide +kernel
theorem dX7_copyFrom_27 : decode cX7_copyFrom 27 = .ok (.getfield 28, 3) := by decide +kernel
theorem dX7_copyFrom_30 : decode cX7_copyFrom 30 = .ok (.invokevirtual 73, 3) := by decide +kernel
theorem dX7_copyFrom_33 : decode cX7_copyFrom 33 = .ok (.aload_n 0, 1) := by decide +kernel
theorem dX7_copyFrom_34 : decode cX7_copyFrom 34 = .ok (.getfield 35, 3) := by decide +kernel
theorem dX7_copyFrom_37 : decode cX7_copyFrom 37 = .ok (.aload_n 1, 1) := by decide +kernel
theorem dX7_copyFrom_38 : decode cX7_copyFrom 38 = .ok (.getfield 35, 3) := by decide +kernel
theorem dX7_copyFrom_41 : decode cX7_copyFrom 41 = .ok (.invokevirtual 76, 3) := by decide +kernel
theorem dX7_copyFrom_44 : decode cX7_copyFrom 44 = .ok (.aload_n 0, 1) := by decide +kernel
theorem dX7_copyFrom_45 : decode cX7_copyFrom 45 = .ok (.getfield 42, 3) := by decide +kernel
theorem dX7_copyFrom_48 : decode cX7_copyFrom 48 = .ok (.aload_n 1, 1) := by decide +kernel
theorem dX7_copyFrom_49 : decode cX7_copyFrom 49 = .ok (.getfield 42, 3) := by decide +kernel
theorem dX7_copyFrom_52 : decode cX7_copyFrom 52 = .ok (.invokevirtual 79, 3) := by decide +kernel
theorem dX7_copyFrom_55 : decode cX7_copyFrom 55 = .ok (.aload_n 1, 1) := by decide +kernel
theorem dX7_copyFrom_56 : decode cX7_copyFrom 56 = .ok (.getfield 46, 3) := by decide +kernel
theorem dX7_copyFrom_59 : decode cX7_copyFrom 59 = .ok (.aload_n 0, 1) := by decide +kernel
theorem dX7_copyFrom_60 : decode cX7_copyFrom 60 = .ok (.getfield 46, 3) := by decide +kernel
theorem dX7_copyFrom_63 : decode cX7_copyFrom 63 = .ok (.invokestatic 82, 3) := by decide +kernel
theorem dX7_copyFrom_66 : decode cX7_copyFrom 66 = .ok (.aload_n 0, 1) := by decide +kernel
theorem dX7_copyFrom_67 : decode cX7_copyFrom 67 = .ok (.aload_n 1, 1) := by decide +kernel
theorem dX7_copyFrom_68 : decode cX7_copyFrom 68 = .ok (.getfield 50, 3) := by decide +kernel
theorem dX7_copyFrom_71 : decode cX7_copyFrom 71 = .ok (.putfield 50, 3) := by decide +kernel
theorem dX7_copyFrom_74 : decode cX7_copyFrom 74 = .ok (.aload_n 0, 1) := by decide +kernel
theorem dX7_copyFrom_75 : decode cX7_copyFrom 75 = .ok (.aload_n 1, 1) := by decide +kernel
theorem dX7_copyFrom_76 : decode cX7_copyFrom 76 = .ok (.getfield 54, 3) := by decide +kernel
theorem dX7_copyFrom_79 : decode cX7_copyFrom 79 = .ok (.putfield 54, 3) := by decide +kernel
theorem dX7_copyFrom_82 : decode cX7_copyFrom 82 = .ok (.aload_n 0, 1) := by decide +kernel
theorem dX7_copyFrom_83 : decode cX7_copyFrom 83 = .ok (.aload_n 1, 1) := by decide +kernel
theorem dX7_copyFrom_84 : decode cX7_copyFrom 84 = .ok (.getfield 57, 3) := by decide +kernel
theorem dX7_copyFrom_87 : decode cX7_copyFrom 87 = .ok (.putfield 57, 3) := by decide +kernel
theorem dX7_copyFrom_90 : decode cX7_copyFrom 90 = .ok (.aload_n 0, 1) := by decide +kernel
theorem dX7_copyFrom_91 : decode cX7_copyFrom 91 = .ok (.aload_n 1, 1) := by decide +kernel
theorem dX7_copyFrom_92 : decode cX7_copyFrom 92 = .ok (.getfield 60, 3) := by decide +kernel
theorem dX7_copyFrom_95 : decode cX7_copyFrom 95 = .ok (.putfield 60, 3) := by decide +kernel
theorem dX7_copyFrom_98 : decode cX7_copyFrom 98 = .ok (.aload_n 0, 1) := by decide +kernel
theorem dX7_copyFrom_99 : decode cX7_copyFrom 99 = .ok (.aload_n 1, 1) := by decide +kernel
theorem dX7_copyFrom_100 : decode cX7_copyFrom 100 = .ok (.getfield 63, 3) := by decide +kernel
theorem dX7_copyFrom_103 : decode cX7_copyFrom 103 = .ok (.putfield 63, 3) := by decide +kernel
theorem dX7_copyFrom_106 : decode cX7_copyFrom 106 = .ok (.return_, 1) := by decide +kernel
theorem dX7_copyRow_0 : decode cX7_copyRow 0 = .ok (.aload_n 0, 1) := by decide +kernel
theorem dX7_copyRow_1 : decode cX7_copyRow 1 = .ok (.iconst 0, 1) := by decide +kernel
theorem dX7_copyRow_2 : decode cX7_copyRow 2 = .ok (.aload_n 1, 1) := by decide +kernel
theorem dX7_copyRow_3 : decode cX7_copyRow 3 = .ok (.iconst 0, 1) := by decide +kernel
theorem dX7_copyRow_4 : decode cX7_copyRow 4 = .ok (.aload_n 0, 1) := by decide +kernel
theorem dX7_copyRow_5 : decode cX7_copyRow 5 = .ok (.arraylength, 1) := by decide +kernel
theorem dX7_copyRow_6 : decode cX7_copyRow 6 = .ok (.aload_n 1, 1) := by decide +kernel
theorem dX7_copyRow_7 : decode cX7_copyRow 7 = .ok (.arraylength, 1) := by decide +kernel
theorem dX7_copyRow_8 : decode cX7_copyRow 8 = .ok (.invokestatic 86, 3) := by decide +kernel
theorem dX7_copyRow_11 : decode cX7_copyRow 11 = .ok (.invokestatic 92, 3) := by decide +kernel
theorem dX7_copyRow_14 : decode cX7_copyRow 14 = .ok (.return_, 1) := by decide +kernel
theorem dX8_init_0 : decode cX8_init 0 = .ok (.aload_n 0, 1) := by decide +kernel
theorem dX8_init_1 : decode cX8_init 1 = .ok (.invokespecial 3, 3) := by decide +kernel
theorem dX8_init_4 : decode cX8_init 4 = .ok (.aload_n 0, 1) := by decide +kernel
theorem dX8_init_5 : decode cX8_init 5 = .ok (.iconst 0, 1) := by decide +kernel
theorem dX8_init_6 : decode cX8_init 6 = .ok (.putfield 9, 3) := by decide +kernel
theorem dX8_init_9 : decode cX8_init 9 = .ok (.aload_n 0, 1) := by decide +kernel
theorem dX8_init_10 : decode cX8_init 10 = .ok (.iconst 0, 1) := by decide +kernel
theorem dX8_init_11 : decode cX8_init 11 = .ok (.putfield 15, 3) := by decide +kernel
theorem dX8_init_14 : decode cX8_init 14 = .ok (.aload_n 0, 1) := by decide +kernel
theorem dX8_init_15 : decode cX8_init 15 = .ok (.iconst 0, 1) := by decide +kernel
theorem dX8_init_16 : decode cX8_init 16 = .ok (.putfield 18, 3) := by decide +kernel
theorem dX8_init_19 : decode cX8_init 19 = .ok (.aload_n 0, 1) := by decide +kernel
theorem dX8_init_20 : decode cX8_init 20 = .ok (.bipush 100, 2) := by decide +kernel
theorem dX8_init_22 : decode cX8_init 22 = .ok (.newarray .int, 2) := by decide +kernel
theorem dX8_init_24 : decode cX8_init 24 = .ok (.putfield 21, 3) := by decide +kernel
theorem dX8_init_27 : decode cX8_init 27 = .ok (.aload_n 0, 1) := by decide +kernel
theorem dX8_init_28 : decode cX8_init 28 = .ok (.sipush 5120, 3) := by decide +kernel
theorem dX8_init_31 : decode cX8_init 31 = .ok (.newarray .int, 2) := by decide +kernel
theorem dX8_init_33 : decode cX8_init 33 = .ok (.putfield 25, 3) := by decide +kernel
theorem dX8_init_36 : decode cX8_init 36 = .ok (.aload_n 0, 1) := by decide +kernel
theorem dX8_init_37 : decode cX8_init 37 = .ok (.sipush 512, 3) := by decide +kernel
theorem dX8_init_40 : decode cX8_init 40 = .ok (.newarray .int, 2) := by decide +kernel
theorem dX8_init_42 : decode cX8_init 42 = .ok (.putfield 28, 3) := by decide +kernel
theorem dX8_init_45 : decode cX8_init 45 = .ok (.aload_n 0, 1) := by decide +kernel
theorem dX8_init_46 : decode cX8_init 46 = .ok (.iconst 0, 1) := by decide +kernel
theorem dX8_init_47 : decode cX8_init 47 = .ok (.putfield 31, 3) := by decide +kernel
theorem dX8_init_50 : decode cX8_init 50 = .ok (.return_, 1) := by decide +kernel
theorem dX8_forget_0 : decode cX8_forget 0 = .ok (.aload_n 0, 1) := by decide +kernel
theorem dX8_forget_1 : decode cX8_forget 1 = .ok (.iconst 0, 1) := by decide +kernel
theorem dX8_forget_2 : decode cX8_forget 2 = .ok (.putfield 31, 3) := by decide +kernel
theorem dX8_forget_5 : decode cX8_forget 5 = .ok (.return_, 1) := by decide +kernel
theorem dX8_choose_0 : decode cX8_choose 0 = .ok (.aload_n 0, 1) := by decide +kernel
theorem dX8_choose_1 : decode cX8_choose 1 = .ok (.getfield 31, 3) := by decide +kernel
theorem dX8_choose_4 : decode cX8_choose 4 = .ok (.ifCond .ne 18, 3) := by decide +kernel
theorem dX8_choose_7 : decode cX8_choose 7 = .ok (.aload_n 0, 1) := by decide +kernel
theorem dX8_choose_8 : decode cX8_choose 8 = .ok (.aload_n 1, 1) := by decide +kernel
theorem dX8_choose_9 : decode cX8_choose 9 = .ok (.invokevirtual 35, 3) := by decide +kernel
theorem dX8_choose_12 : decode cX8_choose 12 = .ok (.aload_n 0, 1) := by decide +kernel
theorem dX8_choose_13 : decode cX8_choose 13 = .ok (.aload_n 1, 1) := by decide +kernel
theorem dX8_choose_14 : decode cX8_choose 14 = .ok (.invokevirtual 39, 3) := by decide +kernel
theorem dX8_choose_17 : decode cX8_choose 17 = .ok (.aload_n 0, 1) := by decide +kernel
theorem dX8_choose_18 : decode cX8_choose 18 = .ok (.iconst 1, 1) := by decide +kernel
theorem dX8_choose_19 : decode cX8_choose 19 = .ok (.putfield 31, 3) := by decide +kernel
theorem dX8_choose_22 : decode cX8_choose 22 = .ok (.aload_n 0, 1) := by decide +kernel
theorem dX8_choose_23 : decode cX8_choose 23 = .ok (.aload_n 1, 1) := by decide +kernel
theorem dX8_choose_24 : decode cX8_choose 24 = .ok (.aload_n 2, 1) := by decide +kernel
theorem dX8_choose_25 : decode cX8_choose 25 = .ok (.invokevirtual 42, 3) := by decide +kernel
theorem dX8_choose_28 : decode cX8_choose 28 = .ok (.aload_n 0, 1) := by decide +kernel
theorem dX8_choose_29 : decode cX8_choose 29 = .ok (.iconst 0, 1) := by decide +kernel
theorem dX8_choose_30 : decode cX8_choose 30 = .ok (.putfield 9, 3) := by decide +kernel
theorem dX8_choose_33 : decode cX8_choose 33 = .ok (.iconst 1, 1) := by decide +kernel
theorem dX8_choose_34 : decode cX8_choose 34 = .ok (.istore 4, 2) := by decide +kernel
theorem dX8_choose_36 : decode cX8_choose 36 = .ok (.iload 4, 2) := by decide +kernel
theorem dX8_choose_38 : decode cX8_choose 38 = .ok (.sipush 512, 3) := by decide +kernel
theorem dX8_choose_41 : decode cX8_choose 41 = .ok (.if_icmp .ge 100, 3) := by decide +kernel
theorem dX8_choose_44 : decode cX8_choose 44 = .ok (.aload_n 0, 1) := by decide +kernel
theorem dX8_choose_45 : decode cX8_choose 45 = .ok (.getfield 25, 3) := by decide +kernel
theorem dX8_choose_48 : decode cX8_choose 48 = .ok (.iload 4, 2) := by decide +kernel
theorem dX8_choose_50 : decode cX8_choose 50 = .ok (.bipush 10, 2) := by decide +kernel
theorem dX8_choose_52 : decode cX8_choose 52 = .ok (.imul, 1) := by decide +kernel
theorem dX8_choose_53 : decode cX8_choose 53 = .ok (.iaload, 1) := by decide +kernel
theorem dX8_choose_54 : decode cX8_choose 54 = .ok (.istore 5, 2) := by decide +kernel
theorem dX8_choose_56 : decode cX8_choose 56 = .ok (.aload_n 0, 1) := by decide +kernel
theorem dX8_choose_57 : decode cX8_choose 57 = .ok (.getfield 28, 3) := by decide +kernel
theorem dX8_choose_60 : decode cX8_choose 60 = .ok (.iload 4, 2) := by decide +kernel
theorem dX8_choose_62 : decode cX8_choose 62 = .ok (.iaload, 1) := by decide +kernel
theorem dX8_choose_63 : decode cX8_choose 63 = .ok (.aload_n 0, 1) := by decide +kernel
theorem dX8_choose_64 : decode cX8_choose 64 = .ok (.getfield 28, 3) := by decide +kernel
theorem dX8_choose_67 : decode cX8_choose 67 = .ok (.aload_n 0, 1) := by decide +kernel
theorem dX8_choose_68 : decode cX8_choose 68 = .ok (.getfield 9, 3) := by decide +kernel
theorem dX8_choose_71 : decode cX8_choose 71 = .ok (.iaload, 1) := by decide +kernel
theorem dX8_choose_72 : decode cX8_choose 72 = .ok (.if_icmp .ne 24, 3) := by decide +kernel
theorem dX8_choose_75 : decode cX8_choose 75 = .ok (.iload 5, 2) := by decide +kernel
theorem dX8_choose_77 : decode cX8_choose 77 = .ok (.aload_n 0, 1) := by decide +kernel
theorem dX8_choose_78 : decode cX8_choose 78 = .ok (.getfield 25, 3) := by decide +kernel
theorem dX8_choose_81 : decode cX8_choose 81 = .ok (.aload_n 0, 1) := by decide +kernel
theorem dX8_choose_82 : decode cX8_choose 82 = .ok (.getfield 9, 3) := by decide +kernel
theorem dX8_choose_85 : decode cX8_choose 85 = .ok (.bipush 10, 2) := by decide +kernel
theorem dX8_choose_87 : decode cX8_choose 87 = .ok (.imul, 1) := by decide +kernel
theorem dX8_choose_88 : decode cX8_choose 88 = .ok (.iaload, 1) := by decide +kernel
theorem dX8_choose_89 : decode cX8_choose 89 = .ok (.if_icmp .ge 7, 3) := by decide +kernel
theorem dX8_choose_92 : decode cX8_choose 92 = .ok (.iconst 1, 1) := by decide +kernel
theorem dX8_choose_93 : decode cX8_choose 93 = .ok (.goto 4, 3) := by decide +kernel
theorem dX8_choose_96 : decode cX8_choose 96 = .ok (.iconst 0, 1) := by decide +kernel
theorem dX8_choose_97 : decode cX8_choose 97 = .ok (.istore 6, 2) := by decide +kernel
theorem dX8_choose_99 : decode cX8_choose 99 = .ok (.iload 5, 2) := by decide +kernel
theorem dX8_choose_101 : decode cX8_choose 101 = .ok (.iload_n 3, 1) := by decide +kernel
theorem dX8_choose_102 : decode cX8_choose 102 = .ok (.if_icmp .gt 33, 3) := by decide +kernel
theorem dX8_choose_105 : decode cX8_choose 105 = .ok (.aload_n 0, 1) := by decide +kernel
theorem dX8_choose_106 : decode cX8_choose 106 = .ok (.getfield 28, 3) := by decide +kernel
theorem dX8_choose_109 : decode cX8_choose 109 = .ok (.iload 4, 2) := by decide +kernel
theorem dX8_choose_111 : decode cX8_choose 111 = .ok (.iaload, 1) := by decide +kernel
theorem dX8_choose_112 : decode cX8_choose 112 = .ok (.aload_n 0, 1) := by decide +kernel
theorem dX8_choose_113 : decode cX8_choose 113 = .ok (.getfield 28, 3) := by decide +kernel
theorem dX8_choose_116 : decode cX8_choose 116 = .ok (.aload_n 0, 1) := by decide +kernel
theorem dX8_choose_117 : decode cX8_choose 117 = .ok (.getfield 9, 3) := by decide +kernel
theorem dX8_choose_120 : decode cX8_choose 120 = .ok (.iaload, 1) := by decide +kernel
theorem dX8_choose_121 : decode cX8_choose 121 = .ok (.if_icmp .gt 8, 3) := by decide +kernel
theorem dX8_choose_124 : decode cX8_choose 124 = .ok (.iload 6, 2) := by decide +kernel
theorem dX8_choose_126 : decode cX8_choose 126 = .ok (.ifCond .eq 9, 3) := by decide +kernel
theorem dX8_choose_129 : decode cX8_choose 129 = .ok (.aload_n 0, 1) := by decide +kernel
theorem dX8_choose_130 : decode cX8_choose 130 = .ok (.iload 4, 2) := by decide +kernel
theorem dX8_choose_132 : decode cX8_choose 132 = .ok (.putfield 9, 3) := by decide +kernel
theorem dX8_choose_135 : decode cX8_choose 135 = .ok (.iinc 4 1, 3) := by decide +kernel
theorem dX8_choose_138 : decode cX8_choose 138 = .ok (.goto (-102), 3) := by decide +kernel
theorem dX8_choose_141 : decode cX8_choose 141 = .ok (.aload_n 0, 1) := by decide +kernel
theorem dX8_choose_142 : decode cX8_choose 142 = .ok (.aload_n 0, 1) := by decide +kernel
theorem dX8_choose_143 : decode cX8_choose 143 = .ok (.getfield 25, 3) := by decide +kernel
theorem dX8_choose_146 : decode cX8_choose 146 = .ok (.aload_n 0, 1) := by decide +kernel
theorem dX8_choose_147 : decode cX8_choose 147 = .ok (.getfield 9, 3) := by decide +kernel
theorem dX8_choose_150 : decode cX8_choose 150 = .ok (.bipush 10, 2) := by decide +kernel
theorem dX8_choose_152 : decode cX8_choose 152 = .ok (.imul, 1) := by decide +kernel
theorem dX8_choose_153 : decode cX8_choose 153 = .ok (.iaload, 1) := by decide +kernel
theorem dX8_choose_154 : decode cX8_choose 154 = .ok (.putfield 15, 3) := by decide +kernel
theorem dX8_choose_157 : decode cX8_choose 157 = .ok (.aload_n 0, 1) := by decide +kernel
theorem dX8_choose_158 : decode cX8_choose 158 = .ok (.aload_n 0, 1) := by decide +kernel
theorem dX8_choose_159 : decode cX8_choose 159 = .ok (.getfield 28, 3) := by decide +kernel
theorem dX8_choose_162 : decode cX8_choose 162 = .ok (.aload_n 0, 1) := by decide +kernel
theorem dX8_choose_163 : decode cX8_choose 163 = .ok (.getfield 9, 3) := by decide +kernel
theorem dX8_choose_166 : decode cX8_choose 166 = .ok (.iaload, 1) := by decide +kernel
theorem dX8_choose_167 : decode cX8_choose 167 = .ok (.putfield 18, 3) := by decide +kernel
theorem dX8_choose_170 : decode cX8_choose 170 = .ok (.return_, 1) := by decide +kernel
theorem dX8_stopAt_0 : decode cX8_stopAt 0 = .ok (.iconst 0, 1) := by decide +kernel
theorem dX8_stopAt_1 : decode cX8_stopAt 1 = .ok (.istore_n 2, 1) := by decide +kernel
theorem dX8_stopAt_2 : decode cX8_stopAt 2 = .ok (.aload_n 0, 1) := by decide +kernel
theorem dX8_stopAt_3 : decode cX8_stopAt 3 = .ok (.getfield 9, 3) := by decide +kernel
theorem dX8_stopAt_6 : decode cX8_stopAt 6 = .ok (.istore_n 3, 1) := by decide +kernel
theorem dX8_stopAt_7 : decode cX8_stopAt 7 = .ok (.iconst 0, 1) := by decide +kernel
theorem dX8_stopAt_8 : decode cX8_stopAt 8 = .ok (.istore 4, 2) := by decide +kernel
theorem dX8_stopAt_10 : decode cX8_stopAt 10 = .ok (.iload 4, 2) := by decide +kernel
theorem dX8_stopAt_12 : decode cX8_stopAt 12 = .ok (.bipush 10, 2) := by decide +kernel
theorem dX8_stopAt_14 : decode cX8_stopAt 14 = .ok (.if_icmp .ge 40, 3) := by decide +kernel
theorem dX8_stopAt_17 : decode cX8_stopAt 17 = .ok (.iload_n 3, 1) := by decide +kernel
theorem dX8_stopAt_18 : decode cX8_stopAt 18 = .ok (.ifCond .eq 36, 3) := by decide +kernel
theorem dX8_stopAt_21 : decode cX8_stopAt 21 = .ok (.aload_n 0, 1) := by decide +kernel
theorem dX8_stopAt_22 : decode cX8_stopAt 22 = .ok (.iload_n 2, 1) := by decide +kernel
theorem dX8_stopAt_23 : decode cX8_stopAt 23 = .ok (.iload_n 3, 1) := by decide +kernel
theorem dX8_stopAt_24 : decode cX8_stopAt 24 = .ok (.invokevirtual 46, 3) := by decide +kernel
theorem dX8_stopAt_27 : decode cX8_stopAt 27 = .ok (.istore 5, 2) := by decide +kernel
theorem dX8_stopAt_29 : decode cX8_stopAt 29 = .ok (.iload 4, 2) := by decide +kernel
theorem dX8_stopAt_31 : decode cX8_stopAt 31 = .ok (.iload_n 1, 1) := by decide +kernel
theorem dX8_stopAt_32 : decode cX8_stopAt 32 = .ok (.if_icmp .ne 6, 3) := by decide +kernel
theorem dX8_stopAt_35 : decode cX8_stopAt 35 = .ok (.iload 5, 2) := by decide +kernel
theorem dX8_stopAt_37 : decode cX8_stopAt 37 = .ok (.ireturn, 1) := by decide +kernel
theorem dX8_stopAt_38 : decode cX8_stopAt 38 = .ok (.iload_n 3, 1) := by decide +kernel
theorem dX8_stopAt_39 : decode cX8_stopAt 39 = .ok (.iload 5, 2) := by decide +kernel
theorem dX8_stopAt_41 : decode cX8_stopAt 41 = .ok (.invokestatic 50, 3) := by decide +kernel
theorem dX8_stopAt_44 : decode cX8_stopAt 44 = .ok (.istore_n 3, 1) := by decide +kernel
theorem dX8_stopAt_45 : decode cX8_stopAt 45 = .ok (.iload 5, 2) := by decide +kernel
theorem dX8_stopAt_47 : decode cX8_stopAt 47 = .ok (.istore_n 2, 1) := by decide +kernel
theorem dX8_stopAt_48 : decode cX8_stopAt 48 = .ok (.iinc 4 1, 3) := by decide +kernel
theorem dX8_stopAt_51 : decode cX8_stopAt 51 = .ok (.goto (-41), 3) := by decide +kernel
theorem dX8_stopAt_54 : decode cX8_stopAt 54 = .ok (.iconst (-1), 1) := by decide +kernel
theorem dX8_stopAt_55 : decode cX8_stopAt 55 = .ok (.ireturn, 1) := by decide +kernel
theorem dX8_leastStop_0 : decode cX8_leastStop 0 = .ok (.iconst 1, 1) := by decide +kernel
theorem dX8_leastStop_1 : decode cX8_leastStop 1 = .ok (.istore_n 3, 1) := by decide +kernel
theorem dX8_leastStop_2 : decode cX8_leastStop 2 = .ok (.iload_n 3, 1) := by decide +kernel
theorem dX8_leastStop_3 : decode cX8_leastStop 3 = .ok (.bipush 9, 2) := by decide +kernel
theorem dX8_leastStop_5 : decode cX8_leastStop 5 = .ok (.if_icmp .ge 38, 3) := by decide +kernel
theorem dX8_leastStop_8 : decode cX8_leastStop 8 = .ok (.iload_n 2, 1) := by decide +kernel
theorem dX8_leastStop_9 : decode cX8_leastStop 9 = .ok (.iload_n 3, 1) := by decide +kernel
theorem dX8_leastStop_10 : decode cX8_leastStop 10 = .ok (.invokestatic 53, 3) := by decide +kernel
theorem dX8_leastStop_13 : decode cX8_leastStop 13 = .ok (.ifCond .eq 24, 3) := by decide +kernel
theorem dX8_leastStop_16 : decode cX8_leastStop 16 = .ok (.aload_n 0, 1) := by decide +kernel
theorem dX8_leastStop_17 : decode cX8_leastStop 17 = .ok (.iload_n 1, 1) := by decide +kernel
theorem dX8_leastStop_18 : decode cX8_leastStop 18 = .ok (.iload_n 3, 1) := by decide +kernel
theorem dX8_leastStop_19 : decode cX8_leastStop 19 = .ok (.iload_n 2, 1) := by decide +kernel
theorem dX8_leastStop_20 : decode cX8_leastStop 20 = .ok (.invokevirtual 57, 3) := by decide +kernel
theorem dX8_leastStop_23 : decode cX8_leastStop 23 = .ok (.aload_n 0, 1) := by decide +kernel
theorem dX8_leastStop_24 : decode cX8_leastStop 24 = .ok (.getfield 25, 3) := by decide +kernel
theorem dX8_leastStop_27 : decode cX8_leastStop 27 = .ok (.iload_n 2, 1) := by decide +kernel
theorem dX8_leastStop_28 : decode cX8_leastStop 28 = .ok (.bipush 10, 2) := by decide +kernel
theorem dX8_leastStop_30 : decode cX8_leastStop 30 = .ok (.imul, 1) := by decide +kernel
theorem dX8_leastStop_31 : decode cX8_leastStop 31 = .ok (.iload_n 1, 1) := by decide +kernel
theorem dX8_leastStop_32 : decode cX8_leastStop 32 = .ok (.iadd, 1) := by decide +kernel
theorem dX8_leastStop_33 : decode cX8_leastStop 33 = .ok (.iaload, 1) := by decide +kernel
theorem dX8_leastStop_34 : decode cX8_leastStop 34 = .ok (.if_icmp .eq 9, 3) := by decide +kernel
theorem dX8_leastStop_37 : decode cX8_leastStop 37 = .ok (.iinc 3 1, 3) := by decide +kernel
theorem dX8_leastStop_40 : decode cX8_leastStop 40 = .ok (.goto (-38), 3) := by decide +kernel
theorem dX8_leastStop_43 : decode cX8_leastStop 43 = .ok (.iload_n 3, 1) := by decide +kernel
theorem dX8_leastStop_44 : decode cX8_leastStop 44 = .ok (.ireturn, 1) := by decide +kernel
theorem dX8_hasStop_0 : decode cX8_hasStop 0 = .ok (.iload_n 0, 1) := by decide +kernel
theorem dX8_hasStop_1 : decode cX8_hasStop 1 = .ok (.iload_n 1, 1) := by decide +kernel
theorem dX8_hasStop_2 : decode cX8_hasStop 2 = .ok (.iconst 1, 1) := by decide +kernel
theorem dX8_hasStop_3 : decode cX8_hasStop 3 = .ok (.isub, 1) := by decide +kernel
theorem dX8_hasStop_4 : decode cX8_hasStop 4 = .ok (.ishr, 1) := by decide +kernel
theorem dX8_hasStop_5 : decode cX8_hasStop 5 = .ok (.iconst 1, 1) := by decide +kernel
theorem dX8_hasStop_6 : decode cX8_hasStop 6 = .ok (.iand, 1) := by decide +kernel
theorem dX8_hasStop_7 : decode cX8_hasStop 7 = .ok (.iconst 1, 1) := by decide +kernel
theorem dX8_hasStop_8 : decode cX8_hasStop 8 = .ok (.if_icmp .ne 7, 3) := by decide +kernel
theorem dX8_hasStop_11 : decode cX8_hasStop 11 = .ok (.iconst 1, 1) := by decide +kernel
theorem dX8_hasStop_12 : decode cX8_hasStop 12 = .ok (.goto 4, 3) := by decide +kernel
theorem dX8_hasStop_15 : decode cX8_hasStop 15 = .ok (.iconst 0, 1) := by decide +kernel
theorem dX8_hasStop_16 : decode cX8_hasStop 16 = .ok (.ireturn, 1) := by decide +kernel
theorem dX8_without_0 : decode cX8_without 0 = .ok (.iload_n 0, 1) := by decide +kernel
theorem dX8_without_1 : decode cX8_without 1 = .ok (.iconst 1, 1) := by decide +kernel
theorem dX8_without_2 : decode cX8_without 2 = .ok (.iload_n 1, 1) := by decide +kernel
theorem dX8_without_3 : decode cX8_without 3 = .ok (.iconst 1, 1) := by decide +kernel
theorem dX8_without_4 : decode cX8_without 4 = .ok (.isub, 1) := by decide +kernel
theorem dX8_without_5 : decode cX8_without 5 = .ok (.ishl, 1) := by decide +kernel
theorem dX8_without_6 : decode cX8_without 6 = .ok (.iconst (-1), 1) := by decide +kernel
theorem dX8_without_7 : decode cX8_without 7 = .ok (.ixor, 1) := by decide +kernel
theorem dX8_without_8 : decode cX8_without 8 = .ok (.iand, 1) := by decide +kernel
theorem dX8_without_9 : decode cX8_without 9 = .ok (.ireturn, 1) := by decide +kernel
theorem dX8_lengthBy_0 : decode cX8_lengthBy 0 = .ok (.aload_n 0, 1) := by decide +kernel
theorem dX8_lengthBy_1 : decode cX8_lengthBy 1 = .ok (.getfield 21, 3) := by decide +kernel
theorem dX8_lengthBy_4 : decode cX8_lengthBy 4 = .ok (.iload_n 1, 1) := by decide +kernel
theorem dX8_lengthBy_5 : decode cX8_lengthBy 5 = .ok (.bipush 10, 2) := by decide +kernel
theorem dX8_lengthBy_7 : decode cX8_lengthBy 7 = .ok (.imul, 1) := by decide +kernel
theorem dX8_lengthBy_8 : decode cX8_lengthBy 8 = .ok (.iload_n 2, 1) := by decide +kernel
theorem dX8_lengthBy_9 : decode cX8_lengthBy 9 = .ok (.iadd, 1) := by decide +kernel
theorem dX8_lengthBy_10 : decode cX8_lengthBy 10 = .ok (.iaload, 1) := by decide +kernel
theorem dX8_lengthBy_11 : decode cX8_lengthBy 11 = .ok (.aload_n 0, 1) := by decide +kernel
theorem dX8_lengthBy_12 : decode cX8_lengthBy 12 = .ok (.getfield 25, 3) := by decide +kernel
theorem dX8_lengthBy_15 : decode cX8_lengthBy 15 = .ok (.iload_n 3, 1) := by decide +kernel
theorem dX8_lengthBy_16 : decode cX8_lengthBy 16 = .ok (.iload_n 2, 1) := by decide +kernel
theorem dX8_lengthBy_17 : decode cX8_lengthBy 17 = .ok (.invokestatic 50, 3) := by decide +kernel
theorem dX8_lengthBy_20 : decode cX8_lengthBy 20 = .ok (.bipush 10, 2) := by decide +kernel
theorem dX8_lengthBy_22 : decode cX8_lengthBy 22 = .ok (.imul, 1) := by decide +kernel
theorem dX8_lengthBy_23 : decode cX8_lengthBy 23 = .ok (.iload_n 2, 1) := by decide +kernel
theorem dX8_lengthBy_24 : decode cX8_lengthBy 24 = .ok (.iadd, 1) := by decide +kernel
theorem dX8_lengthBy_25 : decode cX8_lengthBy 25 = .ok (.iaload, 1) := by decide +kernel
theorem dX8_lengthBy_26 : decode cX8_lengthBy 26 = .ok (.iadd, 1) := by decide +kernel
theorem dX8_lengthBy_27 : decode cX8_lengthBy 27 = .ok (.ireturn, 1) := by decide +kernel
theorem dX8_findDays_0 : decode cX8_findDays 0 = .ok (.iconst 0, 1) := by decide +kernel
theorem dX8_findDays_1 : decode cX8_findDays 1 = .ok (.istore_n 2, 1) := by decide +kernel
theorem dX8_findDays_2 : decode cX8_findDays 2 = .ok (.iload_n 2, 1) := by decide +kernel
theorem dX8_findDays_3 : decode cX8_findDays 3 = .ok (.aload_n 0, 1) := by decide +kernel
theorem dX8_findDays_4 : decode cX8_findDays 4 = .ok (.getfield 21, 3) := by decide +kernel
theorem dX8_findDays_7 : decode cX8_findDays 7 = .ok (.arraylength, 1) := by decide +kernel
theorem dX8_findDays_8 : decode cX8_findDays 8 = .ok (.if_icmp .ge 35, 3) := by decide +kernel
theorem dX8_findDays_11 : decode cX8_findDays 11 = .ok (.aload_n 0, 1) := by decide +kernel
theorem dX8_findDays_12 : decode cX8_findDays 12 = .ok (.getfield 21, 3) := by decide +kernel
theorem dX8_findDays_15 : decode cX8_findDays 15 = .ok (.iload_n 2, 1) := by decide +kernel
theorem dX8_findDays_16 : decode cX8_findDays 16 = .ok (.aload_n 1, 1) := by decide +kernel
theorem dX8_findDays_17 : decode cX8_findDays 17 = .ok (.getfield 61, 3) := by decide +kernel
theorem dX8_findDays_20 : decode cX8_findDays 20 = .ok (.iload_n 2, 1) := by decide +kernel
theorem dX8_findDays_21 : decode cX8_findDays 21 = .ok (.iaload, 1) := by decide +kernel
theorem dX8_findDays_22 : decode cX8_findDays 22 = .ok (.ifCond .le 12, 3) := by decide +kernel
theorem dX8_findDays_25 : decode cX8_findDays 25 = .ok (.aload_n 1, 1) := by decide +kernel
theorem dX8_findDays_26 : decode cX8_findDays 26 = .ok (.getfield 61, 3) := by decide +kernel
theorem dX8_findDays_29 : decode cX8_findDays 29 = .ok (.iload_n 2, 1) := by decide +kernel
theorem dX8_findDays_30 : decode cX8_findDays 30 = .ok (.iaload, 1) := by decide +kernel
theorem dX8_findDays_31 : decode cX8_findDays 31 = .ok (.goto 5, 3) := by decide +kernel
theorem dX8_findDays_34 : decode cX8_findDays 34 = .ok (.ldc 66, 2) := by decide +kernel
theorem dX8_findDays_36 : decode cX8_findDays 36 = .ok (.iastore, 1) := by decide +kernel
theorem dX8_findDays_37 : decode cX8_findDays 37 = .ok (.iinc 2 1, 3) := by decide +kernel
theorem dX8_findDays_40 : decode cX8_findDays 40 = .ok (.goto (-38), 3) := by decide +kernel
theorem dX8_findDays_43 : decode cX8_findDays 43 = .ok (.iconst 0, 1) := by decide +kernel
theorem dX8_findDays_44 : decode cX8_findDays 44 = .ok (.istore_n 2, 1) := by decide +kernel
theorem dX8_findDays_45 : decode cX8_findDays 45 = .ok (.iload_n 2, 1) := by decide +kernel
theorem dX8_findDays_46 : decode cX8_findDays 46 = .ok (.bipush 10, 2) := by decide +kernel
theorem dX8_findDays_48 : decode cX8_findDays 48 = .ok (.if_icmp .ge 21, 3) := by decide +kernel
theorem dX8_findDays_51 : decode cX8_findDays 51 = .ok (.aload_n 0, 1) := by decide +kernel
theorem dX8_findDays_52 : decode cX8_findDays 52 = .ok (.getfield 21, 3) := by decide +kernel
theorem dX8_findDays_55 : decode cX8_findDays 55 = .ok (.iload_n 2, 1) := by decide +kernel
theorem dX8_findDays_56 : decode cX8_findDays 56 = .ok (.bipush 10, 2) := by decide +kernel
theorem dX8_findDays_58 : decode cX8_findDays 58 = .ok (.imul, 1) := by decide +kernel
theorem dX8_findDays_59 : decode cX8_findDays 59 = .ok (.iload_n 2, 1) := by decide +kernel
theorem dX8_findDays_60 : decode cX8_findDays 60 = .ok (.iadd, 1) := by decide +kernel
theorem dX8_findDays_61 : decode cX8_findDays 61 = .ok (.iconst 0, 1) := by decide +kernel
theorem dX8_findDays_62 : decode cX8_findDays 62 = .ok (.iastore, 1) := by decide +kernel
theorem dX8_findDays_63 : decode cX8_findDays 63 = .ok (.iinc 2 1, 3) := by decide +kernel
theorem dX8_findDays_66 : decode cX8_findDays 66 = .ok (.goto (-21), 3) := by decide +kernel
theorem dX8_findDays_69 : decode cX8_findDays 69 = .ok (.iconst 0, 1) := by decide +kernel
theorem dX8_findDays_70 : decode cX8_findDays 70 = .ok (.istore_n 2, 1) := by decide +kernel
theorem dX8_findDays_71 : decode cX8_findDays 71 = .ok (.iload_n 2, 1) := by decide +kernel
theorem dX8_findDays_72 : decode cX8_findDays 72 = .ok (.bipush 10, 2) := by decide +kernel
theorem dX8_findDays_74 : decode cX8_findDays 74 = .ok (.if_icmp .ge 94, 3) := by decide +kernel
theorem dX8_findDays_77 : decode cX8_findDays 77 = .ok (.iconst 0, 1) := by decide +kernel
theorem dX8_findDays_78 : decode cX8_findDays 78 = .ok (.istore_n 3, 1) := by decide +kernel
theorem dX8_findDays_79 : decode cX8_findDays 79 = .ok (.iload_n 3, 1) := by decide +kernel
theorem dX8_findDays_80 : decode cX8_findDays 80 = .ok (.bipush 10, 2) := by decide +kernel
theorem dX8_findDays_82 : decode cX8_findDays 82 = .ok (.if_icmp .ge 80, 3) := by decide +kernel
theorem dX8_findDays_85 : decode cX8_findDays 85 = .ok (.iconst 0, 1) := by decide +kernel
theorem dX8_findDays_86 : decode cX8_findDays 86 = .ok (.istore 4, 2) := by decide +kernel
theorem dX8_findDays_88 : decode cX8_findDays 88 = .ok (.iload 4, 2) := by decide +kernel
theorem dX8_findDays_90 : decode cX8_findDays 90 = .ok (.bipush 10, 2) := by decide +kernel
theorem dX8_findDays_92 : decode cX8_findDays 92 = .ok (.if_icmp .ge 64, 3) := by decide +kernel
theorem dX8_findDays_95 : decode cX8_findDays 95 = .ok (.aload_n 0, 1) := by decide +kernel
theorem dX8_findDays_96 : decode cX8_findDays 96 = .ok (.getfield 21, 3) := by decide +kernel
theorem dX8_findDays_99 : decode cX8_findDays 99 = .ok (.iload_n 3, 1) := by decide +kernel
theorem dX8_findDays_100 : decode cX8_findDays 100 = .ok (.bipush 10, 2) := by decide +kernel
theorem dX8_findDays_102 : decode cX8_findDays 102 = .ok (.imul, 1) := by decide +kernel
theorem dX8_findDays_103 : decode cX8_findDays 103 = .ok (.iload_n 2, 1) := by decide +kernel
theorem dX8_findDays_104 : decode cX8_findDays 104 = .ok (.iadd, 1) := by decide +kernel
theorem dX8_findDays_105 : decode cX8_findDays 105 = .ok (.iaload, 1) := by decide +kernel
theorem dX8_findDays_106 : decode cX8_findDays 106 = .ok (.aload_n 0, 1) := by decide +kernel
theorem dX8_findDays_107 : decode cX8_findDays 107 = .ok (.getfield 21, 3) := by decide +kernel
theorem dX8_findDays_110 : decode cX8_findDays 110 = .ok (.iload_n 2, 1) := by decide +kernel
theorem dX8_findDays_111 : decode cX8_findDays 111 = .ok (.bipush 10, 2) := by decide +kernel
theorem dX8_findDays_113 : decode cX8_findDays 113 = .ok (.imul, 1) := by decide +kernel
theorem dX8_findDays_114 : decode cX8_findDays 114 = .ok (.iload 4, 2) := by decide +kernel
theorem dX8_findDays_116 : decode cX8_findDays 116 = .ok (.iadd, 1) := by decide +kernel
theorem dX8_findDays_117 : decode cX8_findDays 117 = .ok (.iaload, 1) := by decide +kernel
theorem dX8_findDays_118 : decode cX8_findDays 118 = .ok (.iadd, 1) := by decide +kernel
theorem dX8_findDays_119 : decode cX8_findDays 119 = .ok (.istore 5, 2) := by decide +kernel
theorem dX8_findDays_121 : decode cX8_findDays 121 = .ok (.aload_n 0, 1) := by decide +kernel
theorem dX8_findDays_122 : decode cX8_findDays 122 = .ok (.getfield 21, 3) := by decide +kernel
theorem dX8_findDays_125 : decode cX8_findDays 125 = .ok (.iload_n 3, 1) := by decide +kernel
theorem dX8_findDays_126 : decode cX8_findDays 126 = .ok (.bipush 10, 2) := by decide +kernel
theorem dX8_findDays_128 : decode cX8_findDays 128 = .ok (.imul, 1) := by decide +kernel
theorem dX8_findDays_129 : decode cX8_findDays 129 = .ok (.iload 4, 2) := by decide +kernel
theorem dX8_findDays_131 : decode cX8_findDays 131 = .ok (.iadd, 1) := by decide +kernel
theorem dX8_findDays_132 : decode cX8_findDays 132 = .ok (.aload_n 0, 1) := by decide +kernel
theorem dX8_findDays_133 : decode cX8_findDays 133 = .ok (.getfield 21, 3) := by decide +kernel
theorem dX8_findDays_136 : decode cX8_findDays 136 = .ok (.iload_n 3, 1) := by decide +kernel
theorem dX8_findDays_137 : decode cX8_findDays 137 = .ok (.bipush 10, 2) := by decide +kernel
theorem dX8_findDays_139 : decode cX8_findDays 139 = .ok (.imul, 1) := by decide +kernel
theorem dX8_findDays_140 : decode cX8_findDays 140 = .ok (.iload 4, 2) := by decide +kernel
theorem dX8_findDays_142 : decode cX8_findDays 142 = .ok (.iadd, 1) := by decide +kernel
theorem dX8_findDays_143 : decode cX8_findDays 143 = .ok (.iaload, 1) := by decide +kernel
theorem dX8_findDays_144 : decode cX8_findDays 144 = .ok (.iload 5, 2) := by decide +kernel
theorem dX8_findDays_146 : decode cX8_findDays 146 = .ok (.invokestatic 67, 3) := by decide +kernel
theorem dX8_findDays_149 : decode cX8_findDays 149 = .ok (.iastore, 1) := by decide +kernel
theorem dX8_findDays_150 : decode cX8_findDays 150 = .ok (.iinc 4 1, 3) := by decide +kernel
theorem dX8_findDays_153 : decode cX8_findDays 153 = .ok (.goto (-65), 3) := by decide +kernel
theorem dX8_findDays_156 : decode cX8_findDays 156 = .ok (.iinc 3 1, 3) := by decide +kernel
theorem dX8_findDays_159 : decode cX8_findDays 159 = .ok (.goto (-80), 3) := by decide +kernel
theorem dX8_findDays_162 : decode cX8_findDays 162 = .ok (.iinc 2 1, 3) := by decide +kernel
theorem dX8_findDays_165 : decode cX8_findDays 165 = .ok (.goto (-94), 3) := by decide +kernel
theorem dX8_findDays_168 : decode cX8_findDays 168 = .ok (.return_, 1) := by decide +kernel
theorem dX8_findHome_0 : decode cX8_findHome 0 = .ok (.iconst 0, 1) := by decide +kernel
theorem dX8_findHome_1 : decode cX8_findHome 1 = .ok (.istore_n 2, 1) := by decide +kernel
theorem dX8_findHome_2 : decode cX8_findHome 2 = .ok (.iload_n 2, 1) := by decide +kernel
theorem dX8_findHome_3 : decode cX8_findHome 3 = .ok (.sipush 512, 3) := by decide +kernel
theorem dX8_findHome_6 : decode cX8_findHome 6 = .ok (.if_icmp .ge 72, 3) := by decide +kernel
theorem dX8_findHome_9 : decode cX8_findHome 9 = .ok (.iload_n 2, 1) := by decide +kernel
theorem dX8_findHome_10 : decode cX8_findHome 10 = .ok (.iconst 1, 1) := by decide +kernel
theorem dX8_findHome_11 : decode cX8_findHome 11 = .ok (.ishl, 1) := by decide +kernel
theorem dX8_findHome_12 : decode cX8_findHome 12 = .ok (.aload_n 1, 1) := by decide +kernel
theorem dX8_findHome_13 : decode cX8_findHome 13 = .ok (.getfield 72, 3) := by decide +kernel
theorem dX8_findHome_16 : decode cX8_findHome 16 = .ok (.iconst (-1), 1) := by decide +kernel
theorem dX8_findHome_17 : decode cX8_findHome 17 = .ok (.ixor, 1) := by decide +kernel
theorem dX8_findHome_18 : decode cX8_findHome 18 = .ok (.iand, 1) := by decide +kernel
theorem dX8_findHome_19 : decode cX8_findHome 19 = .ok (.ifCond .ne 7, 3) := by decide +kernel
theorem dX8_findHome_22 : decode cX8_findHome 22 = .ok (.iconst 1, 1) := by decide +kernel
theorem dX8_findHome_23 : decode cX8_findHome 23 = .ok (.goto 4, 3) := by decide +kernel
theorem dX8_findHome_26 : decode cX8_findHome 26 = .ok (.iconst 0, 1) := by decide +kernel
theorem dX8_findHome_27 : decode cX8_findHome 27 = .ok (.istore_n 3, 1) := by decide +kernel
theorem dX8_findHome_28 : decode cX8_findHome 28 = .ok (.iconst 0, 1) := by decide +kernel
theorem dX8_findHome_29 : decode cX8_findHome 29 = .ok (.istore 4, 2) := by decide +kernel
theorem dX8_findHome_31 : decode cX8_findHome 31 = .ok (.iload 4, 2) := by decide +kernel
theorem dX8_findHome_33 : decode cX8_findHome 33 = .ok (.bipush 10, 2) := by decide +kernel
theorem dX8_findHome_35 : decode cX8_findHome 35 = .ok (.if_icmp .ge 37, 3) := by decide +kernel
theorem dX8_findHome_38 : decode cX8_findHome 38 = .ok (.aload_n 0, 1) := by decide +kernel
theorem dX8_findHome_39 : decode cX8_findHome 39 = .ok (.getfield 25, 3) := by decide +kernel
theorem dX8_findHome_42 : decode cX8_findHome 42 = .ok (.iload_n 2, 1) := by decide +kernel
theorem dX8_findHome_43 : decode cX8_findHome 43 = .ok (.bipush 10, 2) := by decide +kernel
theorem dX8_findHome_45 : decode cX8_findHome 45 = .ok (.imul, 1) := by decide +kernel
theorem dX8_findHome_46 : decode cX8_findHome 46 = .ok (.iload 4, 2) := by decide +kernel
theorem dX8_findHome_48 : decode cX8_findHome 48 = .ok (.iadd, 1) := by decide +kernel
theorem dX8_findHome_49 : decode cX8_findHome 49 = .ok (.iload_n 3, 1) := by decide +kernel
theorem dX8_findHome_50 : decode cX8_findHome 50 = .ok (.ifCond .eq 13, 3) := by decide +kernel
theorem dX8_findHome_53 : decode cX8_findHome 53 = .ok (.aload_n 0, 1) := by decide +kernel
theorem dX8_findHome_54 : decode cX8_findHome 54 = .ok (.iload 4, 2) := by decide +kernel
theorem dX8_findHome_56 : decode cX8_findHome 56 = .ok (.iload_n 2, 1) := by decide +kernel
theorem dX8_findHome_57 : decode cX8_findHome 57 = .ok (.invokevirtual 75, 3) := by decide +kernel
theorem dX8_findHome_60 : decode cX8_findHome 60 = .ok (.goto 5, 3) := by decide +kernel
theorem dX8_findHome_63 : decode cX8_findHome 63 = .ok (.ldc 66, 2) := by decide +kernel
theorem dX8_findHome_65 : decode cX8_findHome 65 = .ok (.iastore, 1) := by decide +kernel
theorem dX8_findHome_66 : decode cX8_findHome 66 = .ok (.iinc 4 1, 3) := by decide +kernel
theorem dX8_findHome_69 : decode cX8_findHome 69 = .ok (.goto (-38), 3) := by decide +kernel
theorem dX8_findHome_72 : decode cX8_findHome 72 = .ok (.iinc 2 1, 3) := by decide +kernel
theorem dX8_findHome_75 : decode cX8_findHome 75 = .ok (.goto (-73), 3) := by decide +kernel
theorem dX8_findHome_78 : decode cX8_findHome 78 = .ok (.return_, 1) := by decide +kernel
theorem dX8_fewestHome_0 : decode cX8_fewestHome 0 = .ok (.iload_n 2, 1) := by decide +kernel
theorem dX8_fewestHome_1 : decode cX8_fewestHome 1 = .ok (.ifCond .ne 13, 3) := by decide +kernel
theorem dX8_fewestHome_4 : decode cX8_fewestHome 4 = .ok (.aload_n 0, 1) := by decide +kernel
theorem dX8_fewestHome_5 : decode cX8_fewestHome 5 = .ok (.getfield 21, 3) := by decide +kernel
theorem dX8_fewestHome_8 : decode cX8_fewestHome 8 = .ok (.iload_n 1, 1) := by decide +kernel
theorem dX8_fewestHome_9 : decode cX8_fewestHome 9 = .ok (.bipush 10, 2) := by decide +kernel
theorem dX8_fewestHome_11 : decode cX8_fewestHome 11 = .ok (.imul, 1) := by decide +kernel
theorem dX8_fewestHome_12 : decode cX8_fewestHome 12 = .ok (.iaload, 1) := by decide +kernel
theorem dX8_fewestHome_13 : decode cX8_fewestHome 13 = .ok (.ireturn, 1) := by decide +kernel
theorem dX8_fewestHome_14 : decode cX8_fewestHome 14 = .ok (.ldc 66, 2) := by decide +kernel
theorem dX8_fewestHome_16 : decode cX8_fewestHome 16 = .ok (.istore_n 3, 1) := by decide +kernel
theorem dX8_fewestHome_17 : decode cX8_fewestHome 17 = .ok (.iconst 1, 1) := by decide +kernel
theorem dX8_fewestHome_18 : decode cX8_fewestHome 18 = .ok (.istore 4, 2) := by decide +kernel
theorem dX8_fewestHome_20 : decode cX8_fewestHome 20 = .ok (.iload 4, 2) := by decide +kernel
theorem dX8_fewestHome_22 : decode cX8_fewestHome 22 = .ok (.bipush 10, 2) := by decide +kernel
theorem dX8_fewestHome_24 : decode cX8_fewestHome 24 = .ok (.if_icmp .ge 31, 3) := by decide +kernel
theorem dX8_fewestHome_27 : decode cX8_fewestHome 27 = .ok (.iload_n 2, 1) := by decide +kernel
theorem dX8_fewestHome_28 : decode cX8_fewestHome 28 = .ok (.iload 4, 2) := by decide +kernel
theorem dX8_fewestHome_30 : decode cX8_fewestHome 30 = .ok (.invokestatic 53, 3) := by decide +kernel
theorem dX8_fewestHome_33 : decode cX8_fewestHome 33 = .ok (.ifCond .eq 16, 3) := by decide +kernel
theorem dX8_fewestHome_36 : decode cX8_fewestHome 36 = .ok (.iload_n 3, 1) := by decide +kernel
theorem dX8_fewestHome_37 : decode cX8_fewestHome 37 = .ok (.aload_n 0, 1) := by decide +kernel
theorem dX8_fewestHome_38 : decode cX8_fewestHome 38 = .ok (.iload_n 1, 1) := by decide +kernel
theorem dX8_fewestHome_39 : decode cX8_fewestHome 39 = .ok (.iload 4, 2) := by decide +kernel
theorem dX8_fewestHome_41 : decode cX8_fewestHome 41 = .ok (.iload_n 2, 1) := by decide +kernel
theorem dX8_fewestHome_42 : decode cX8_fewestHome 42 = .ok (.invokevirtual 57, 3) := by decide +kernel
theorem dX8_fewestHome_45 : decode cX8_fewestHome 45 = .ok (.invokestatic 67, 3) := by decide +kernel
theorem dX8_fewestHome_48 : decode cX8_fewestHome 48 = .ok (.istore_n 3, 1) := by decide +kernel
theorem dX8_fewestHome_49 : decode cX8_fewestHome 49 = .ok (.iinc 4 1, 3) := by decide +kernel
theorem dX8_fewestHome_52 : decode cX8_fewestHome 52 = .ok (.goto (-32), 3) := by decide +kernel
theorem dX8_fewestHome_55 : decode cX8_fewestHome 55 = .ok (.iload_n 3, 1) := by decide +kernel
theorem dX8_fewestHome_56 : decode cX8_fewestHome 56 = .ok (.ireturn, 1) := by decide +kernel
theorem dX8_addUp_0 : decode cX8_addUp 0 = .ok (.aload_n 0, 1) := by decide +kernel
theorem dX8_addUp_1 : decode cX8_addUp 1 = .ok (.getfield 28, 3) := by decide +kernel
theorem dX8_addUp_4 : decode cX8_addUp 4 = .ok (.iconst 0, 1) := by decide +kernel
theorem dX8_addUp_5 : decode cX8_addUp 5 = .ok (.aload_n 1, 1) := by decide +kernel
theorem dX8_addUp_6 : decode cX8_addUp 6 = .ok (.iconst 0, 1) := by decide +kernel
theorem dX8_addUp_7 : decode cX8_addUp 7 = .ok (.invokevirtual 78, 3) := by decide +kernel
theorem dX8_addUp_10 : decode cX8_addUp 10 = .ok (.ifCond .eq 9, 3) := by decide +kernel
theorem dX8_addUp_13 : decode cX8_addUp 13 = .ok (.aload_n 2, 1) := by decide +kernel
theorem dX8_addUp_14 : decode cX8_addUp 14 = .ok (.iconst 0, 1) := by decide +kernel
theorem dX8_addUp_15 : decode cX8_addUp 15 = .ok (.iaload, 1) := by decide +kernel
theorem dX8_addUp_16 : decode cX8_addUp 16 = .ok (.goto 4, 3) := by decide +kernel
theorem dX8_addUp_19 : decode cX8_addUp 19 = .ok (.iconst 0, 1) := by decide +kernel
theorem dX8_addUp_20 : decode cX8_addUp 20 = .ok (.iastore, 1) := by decide +kernel
theorem dX8_addUp_21 : decode cX8_addUp 21 = .ok (.iconst 1, 1) := by decide +kernel
theorem dX8_addUp_22 : decode cX8_addUp 22 = .ok (.istore_n 3, 1) := by decide +kernel
theorem dX8_addUp_23 : decode cX8_addUp 23 = .ok (.iload_n 3, 1) := by decide +kernel
theorem dX8_addUp_24 : decode cX8_addUp 24 = .ok (.sipush 512, 3) := by decide +kernel
theorem dX8_addUp_27 : decode cX8_addUp 27 = .ok (.if_icmp .ge 56, 3) := by decide +kernel
theorem dX8_addUp_30 : decode cX8_addUp 30 = .ok (.iconst 1, 1) := by decide +kernel
theorem dX8_addUp_31 : decode cX8_addUp 31 = .ok (.istore 4, 2) := by decide +kernel
theorem dX8_addUp_33 : decode cX8_addUp 33 = .ok (.iload 4, 2) := by decide +kernel
theorem dX8_addUp_35 : decode cX8_addUp 35 = .ok (.bipush 9, 2) := by decide +kernel
theorem dX8_addUp_37 : decode cX8_addUp 37 = .ok (.if_icmp .ge 18, 3) := by decide +kernel
theorem dX8_addUp_40 : decode cX8_addUp 40 = .ok (.iload_n 3, 1) := by decide +kernel
theorem dX8_addUp_41 : decode cX8_addUp 41 = .ok (.iload 4, 2) := by decide +kernel
theorem dX8_addUp_43 : decode cX8_addUp 43 = .ok (.invokestatic 53, 3) := by decide +kernel
theorem dX8_addUp_46 : decode cX8_addUp 46 = .ok (.ifCond .ne 9, 3) := by decide +kernel
theorem dX8_addUp_49 : decode cX8_addUp 49 = .ok (.iinc 4 1, 3) := by decide +kernel
theorem dX8_addUp_52 : decode cX8_addUp 52 = .ok (.goto (-19), 3) := by decide +kernel
theorem dX8_addUp_55 : decode cX8_addUp 55 = .ok (.aload_n 0, 1) := by decide +kernel
theorem dX8_addUp_56 : decode cX8_addUp 56 = .ok (.getfield 28, 3) := by decide +kernel
theorem dX8_addUp_59 : decode cX8_addUp 59 = .ok (.iload_n 3, 1) := by decide +kernel
theorem dX8_addUp_60 : decode cX8_addUp 60 = .ok (.aload_n 0, 1) := by decide +kernel
theorem dX8_addUp_61 : decode cX8_addUp 61 = .ok (.getfield 28, 3) := by decide +kernel
theorem dX8_addUp_64 : decode cX8_addUp 64 = .ok (.iload_n 3, 1) := by decide +kernel
theorem dX8_addUp_65 : decode cX8_addUp 65 = .ok (.iload 4, 2) := by decide +kernel
theorem dX8_addUp_67 : decode cX8_addUp 67 = .ok (.invokestatic 50, 3) := by decide +kernel
theorem dX8_addUp_70 : decode cX8_addUp 70 = .ok (.iaload, 1) := by decide +kernel
theorem dX8_addUp_71 : decode cX8_addUp 71 = .ok (.aload_n 2, 1) := by decide +kernel
theorem dX8_addUp_72 : decode cX8_addUp 72 = .ok (.iload 4, 2) := by decide +kernel
theorem dX8_addUp_74 : decode cX8_addUp 74 = .ok (.iaload, 1) := by decide +kernel
theorem dX8_addUp_75 : decode cX8_addUp 75 = .ok (.iadd, 1) := by decide +kernel
theorem dX8_addUp_76 : decode cX8_addUp 76 = .ok (.iastore, 1) := by decide +kernel
theorem dX8_addUp_77 : decode cX8_addUp 77 = .ok (.iinc 3 1, 3) := by decide +kernel
theorem dX8_addUp_80 : decode cX8_addUp 80 = .ok (.goto (-57), 3) := by decide +kernel
theorem dX8_addUp_83 : decode cX8_addUp 83 = .ok (.return_, 1) := by decide +kernel
theorem dX9_init_0 : decode cX9_init 0 = .ok (.aload_n 0, 1) := by decide +kernel
theorem dX9_init_1 : decode cX9_init 1 = .ok (.invokespecial 3, 3) := by decide +kernel
theorem dX9_init_4 : decode cX9_init 4 = .ok (.aload_n 0, 1) := by decide +kernel
theorem dX9_init_5 : decode cX9_init 5 = .ok (.sipush 6000, 3) := by decide +kernel
theorem dX9_init_8 : decode cX9_init 8 = .ok (.newarray .int, 2) := by decide +kernel
theorem dX9_init_10 : decode cX9_init 10 = .ok (.putfield 9, 3) := by decide +kernel
theorem dX9_init_13 : decode cX9_init 13 = .ok (.aload_n 0, 1) := by decide +kernel
theorem dX9_init_14 : decode cX9_init 14 = .ok (.bipush 6, 2) := by decide +kernel
theorem dX9_init_16 : decode cX9_init 16 = .ok (.newarray .int, 2) := by decide +kernel
theorem dX9_init_18 : decode cX9_init 18 = .ok (.putfield 15, 3) := by decide +kernel
theorem dX9_init_21 : decode cX9_init 21 = .ok (.aload_n 0, 1) := by decide +kernel
theorem dX9_init_22 : decode cX9_init 22 = .ok (.bipush 60, 2) := by decide +kernel
theorem dX9_init_24 : decode cX9_init 24 = .ok (.newarray .int, 2) := by decide +kernel
theorem dX9_init_26 : decode cX9_init 26 = .ok (.putfield 18, 3) := by decide +kernel
theorem dX9_init_29 : decode cX9_init 29 = .ok (.aload_n 0, 1) := by decide +kernel
theorem dX9_init_30 : decode cX9_init 30 = .ok (.bipush 10, 2) := by decide +kernel
theorem dX9_init_32 : decode cX9_init 32 = .ok (.newarray .int, 2) := by decide +kernel
theorem dX9_init_34 : decode cX9_init 34 = .ok (.putfield 21, 3) := by decide +kernel
theorem dX9_init_37 : decode cX9_init 37 = .ok (.aload_n 0, 1) := by decide +kernel
theorem dX9_init_38 : decode cX9_init 38 = .ok (.bipush 10, 2) := by decide +kernel
theorem dX9_init_40 : decode cX9_init 40 = .ok (.newarray .int, 2) := by decide +kernel
theorem dX9_init_42 : decode cX9_init 42 = .ok (.putfield 24, 3) := by decide +kernel
theorem dX9_init_45 : decode cX9_init 45 = .ok (.aload_n 0, 1) := by decide +kernel
theorem dX9_init_46 : decode cX9_init 46 = .ok (.bipush 10, 2) := by decide +kernel
theorem dX9_init_48 : decode cX9_init 48 = .ok (.newarray .int, 2) := by decide +kernel
theorem dX9_init_50 : decode cX9_init 50 = .ok (.putfield 27, 3) := by decide +kernel
theorem dX9_init_53 : decode cX9_init 53 = .ok (.aload_n 0, 1) := by decide +kernel
theorem dX9_init_54 : decode cX9_init 54 = .ok (.iload_n 1, 1) := by decide +kernel
theorem dX9_init_55 : decode cX9_init 55 = .ok (.putfield 30, 3) := by decide +kernel
theorem dX9_init_58 : decode cX9_init 58 = .ok (.aload_n 0, 1) := by decide +kernel
theorem dX9_init_59 : decode cX9_init 59 = .ok (.getfield 15, 3) := by decide +kernel
theorem dX9_init_62 : decode cX9_init 62 = .ok (.iconst (-1), 1) := by decide +kernel
theorem dX9_init_63 : decode cX9_init 63 = .ok (.invokestatic 34, 3) := by decide +kernel
theorem dX9_init_66 : decode cX9_init 66 = .ok (.return_, 1) := by decide +kernel
theorem dX9_forget_0 : decode cX9_forget 0 = .ok (.aload_n 0, 1) := by decide +kernel
theorem dX9_forget_1 : decode cX9_forget 1 = .ok (.getfield 15, 3) := by decide +kernel
theorem dX9_forget_4 : decode cX9_forget 4 = .ok (.iconst (-1), 1) := by decide +kernel
theorem dX9_forget_5 : decode cX9_forget 5 = .ok (.invokestatic 34, 3) := by decide +kernel
theorem dX9_forget_8 : decode cX9_forget 8 = .ok (.return_, 1) := by decide +kernel
theorem dX9_aim_0 : decode cX9_aim 0 = .ok (.iload_n 1, 1) := by decide +kernel
theorem dX9_aim_1 : decode cX9_aim 1 = .ok (.aload_n 0, 1) := by decide +kernel
theorem dX9_aim_2 : decode cX9_aim 2 = .ok (.getfield 30, 3) := by decide +kernel
theorem dX9_aim_5 : decode cX9_aim 5 = .ok (.if_icmp .eq 12, 3) := by decide +kernel
theorem dX9_aim_8 : decode cX9_aim 8 = .ok (.aload_n 0, 1) := by decide +kernel
theorem dX9_aim_9 : decode cX9_aim 9 = .ok (.iload_n 1, 1) := by decide +kernel
theorem dX9_aim_10 : decode cX9_aim 10 = .ok (.putfield 30, 3) := by decide +kernel
theorem dX9_aim_13 : decode cX9_aim 13 = .ok (.aload_n 0, 1) := by decide +kernel
theorem dX9_aim_14 : decode cX9_aim 14 = .ok (.invokevirtual 40, 3) := by decide +kernel
theorem dX9_aim_17 : decode cX9_aim 17 = .ok (.return_, 1) := by decide +kernel
theorem dX9_partsAt_0 : decode cX9_partsAt 0 = .ok (.aload_n 0, 1) := by decide +kernel
theorem dX9_partsAt_1 : decode cX9_partsAt 1 = .ok (.getfield 9, 3) := by decide +kernel
theorem dX9_partsAt_4 : decode cX9_partsAt 4 = .ok (.iload_n 1, 1) := by decide +kernel
theorem dX9_partsAt_5 : decode cX9_partsAt 5 = .ok (.iload_n 3, 1) := by decide +kernel
theorem dX9_partsAt_6 : decode cX9_partsAt 6 = .ok (.invokestatic 43, 3) := by decide +kernel
theorem dX9_partsAt_9 : decode cX9_partsAt 9 = .ok (.iload_n 2, 1) := by decide +kernel
theorem dX9_partsAt_10 : decode cX9_partsAt 10 = .ok (.iadd, 1) := by decide +kernel
theorem dX9_partsAt_11 : decode cX9_partsAt 11 = .ok (.iaload, 1) := by decide +kernel
theorem dX9_partsAt_12 : decode cX9_partsAt 12 = .ok (.ireturn, 1) := by decide +kernel
theorem dX9_likeliestOf_0 : decode cX9_likeliestOf 0 = .ok (.aload_n 0, 1) := by decide +kernel
theorem dX9_likeliestOf_1 : decode cX9_likeliestOf 1 = .ok (.aload_n 1, 1) := by decide +kernel
theorem dX9_likeliestOf_2 : decode cX9_likeliestOf 2 = .ok (.iload_n 2, 1) := by decide +kernel
theorem dX9_likeliestOf_3 : decode cX9_likeliestOf 3 = .ok (.iload_n 3, 1) := by decide +kernel
theorem dX9_likeliestOf_4 : decode cX9_likeliestOf 4 = .ok (.invokevirtual 47, 3) := by decide +kernel
theorem dX9_likeliestOf_7 : decode cX9_likeliestOf 7 = .ok (.iload_n 2, 1) := by decide +kernel
theorem dX9_likeliestOf_8 : decode cX9_likeliestOf 8 = .ok (.iload_n 3, 1) := by decide +kernel
theorem dX9_likeliestOf_9 : decode cX9_likeliestOf 9 = .ok (.invokestatic 43, 3) := by decide +kernel
theorem dX9_likeliestOf_12 : decode cX9_likeliestOf 12 = .ok (.istore 4, 2) := by decide +kernel
theorem dX9_likeliestOf_14 : decode cX9_likeliestOf 14 = .ok (.iconst 0, 1) := by decide +kernel
theorem dX9_likeliestOf_15 : decode cX9_likeliestOf 15 = .ok (.istore 5, 2) := by decide +kernel
theorem dX9_likeliestOf_17 : decode cX9_likeliestOf 17 = .ok (.iconst 1, 1) := by decide +kernel
theorem dX9_likeliestOf_18 : decode cX9_likeliestOf 18 = .ok (.istore 6, 2) := by decide +kernel
theorem dX9_likeliestOf_20 : decode cX9_likeliestOf 20 = .ok (.iload 6, 2) := by decide +kernel
theorem dX9_likeliestOf_22 : decode cX9_likeliestOf 22 = .ok (.bipush 10, 2) := by decide +kernel
theorem dX9_likeliestOf_24 : decode cX9_likeliestOf 24 = .ok (.if_icmp .ge 36, 3) := by decide +kernel
theorem dX9_likeliestOf_27 : decode cX9_likeliestOf 27 = .ok (.aload_n 0, 1) := by decide +kernel
theorem dX9_likeliestOf_28 : decode cX9_likeliestOf 28 = .ok (.getfield 9, 3) := by decide +kernel
theorem dX9_likeliestOf_31 : decode cX9_likeliestOf 31 = .ok (.iload 4, 2) := by decide +kernel
theorem dX9_likeliestOf_33 : decode cX9_likeliestOf 33 = .ok (.iload 6, 2) := by decide +kernel
theorem dX9_likeliestOf_35 : decode cX9_likeliestOf 35 = .ok (.iadd, 1) := by decide +kernel
theorem dX9_likeliestOf_36 : decode cX9_likeliestOf 36 = .ok (.iaload, 1) := by decide +kernel
theorem dX9_likeliestOf_37 : decode cX9_likeliestOf 37 = .ok (.aload_n 0, 1) := by decide +kernel
theorem dX9_likeliestOf_38 : decode cX9_likeliestOf 38 = .ok (.getfield 9, 3) := by decide +kernel
theorem dX9_likeliestOf_41 : decode cX9_likeliestOf 41 = .ok (.iload 4, 2) := by decide +kernel
theorem dX9_likeliestOf_43 : decode cX9_likeliestOf 43 = .ok (.iload 5, 2) := by decide +kernel
theorem dX9_likeliestOf_45 : decode cX9_likeliestOf 45 = .ok (.iadd, 1) := by decide +kernel
theorem dX9_likeliestOf_46 : decode cX9_likeliestOf 46 = .ok (.iaload, 1) := by decide +kernel
theorem dX9_likeliestOf_47 : decode cX9_likeliestOf 47 = .ok (.if_icmp .le 7, 3) := by decide +kernel
theorem dX9_likeliestOf_50 : decode cX9_likeliestOf 50 = .ok (.iload 6, 2) := by decide +kernel
theorem dX9_likeliestOf_52 : decode cX9_likeliestOf 52 = .ok (.istore 5, 2) := by decide +kernel
theorem dX9_likeliestOf_54 : decode cX9_likeliestOf 54 = .ok (.iinc 6 1, 3) := by decide +kernel
theorem dX9_likeliestOf_57 : decode cX9_likeliestOf 57 = .ok (.goto (-37), 3) := by decide +kernel
theorem dX9_likeliestOf_60 : decode cX9_likeliestOf 60 = .ok (.iload 5, 2) := by decide +kernel
theorem dX9_likeliestOf_62 : decode cX9_likeliestOf 62 = .ok (.ireturn, 1) := by decide +kernel
theorem dX9_quarrelOf_0 : decode cX9_quarrelOf 0 = .ok (.aload_n 1, 1) := by decide +kernel
theorem dX9_quarrelOf_1 : decode cX9_quarrelOf 1 = .ok (.getfield 51, 3) := by decide +kernel
theorem dX9_quarrelOf_4 : decode cX9_quarrelOf 4 = .ok (.astore 4, 2) := by decide +kernel
theorem dX9_quarrelOf_6 : decode cX9_quarrelOf 6 = .ok (.iconst 0, 1) := by decide +kernel
theorem dX9_quarrelOf_7 : decode cX9_quarrelOf 7 = .ok (.istore 5, 2) := by decide +kernel
theorem dX9_quarrelOf_9 : decode cX9_quarrelOf 9 = .ok (.aload_n 0, 1) := by decide +kernel
theorem dX9_quarrelOf_10 : decode cX9_quarrelOf 10 = .ok (.aload_n 1, 1) := by decide +kernel
theorem dX9_quarrelOf_11 : decode cX9_quarrelOf 11 = .ok (.iload_n 2, 1) := by decide +kernel
theorem dX9_quarrelOf_12 : decode cX9_quarrelOf 12 = .ok (.aload_n 1, 1) := by decide +kernel
theorem dX9_quarrelOf_13 : decode cX9_quarrelOf 13 = .ok (.getfield 57, 3) := by decide +kernel
theorem dX9_quarrelOf_16 : decode cX9_quarrelOf 16 = .ok (.invokevirtual 47, 3) := by decide +kernel
theorem dX9_quarrelOf_19 : decode cX9_quarrelOf 19 = .ok (.aload 4, 2) := by decide +kernel
theorem dX9_quarrelOf_21 : decode cX9_quarrelOf 21 = .ok (.getfield 60, 3) := by decide +kernel
theorem dX9_quarrelOf_24 : decode cX9_quarrelOf 24 = .ok (.iload_n 2, 1) := by decide +kernel
theorem dX9_quarrelOf_25 : decode cX9_quarrelOf 25 = .ok (.iaload, 1) := by decide +kernel
theorem dX9_quarrelOf_26 : decode cX9_quarrelOf 26 = .ok (.istore 6, 2) := by decide +kernel
theorem dX9_quarrelOf_28 : decode cX9_quarrelOf 28 = .ok (.iload 6, 2) := by decide +kernel
theorem dX9_quarrelOf_30 : decode cX9_quarrelOf 30 = .ok (.aload_n 1, 1) := by decide +kernel
theorem dX9_quarrelOf_31 : decode cX9_quarrelOf 31 = .ok (.getfield 57, 3) := by decide +kernel
theorem dX9_quarrelOf_34 : decode cX9_quarrelOf 34 = .ok (.if_icmp .gt 68, 3) := by decide +kernel
theorem dX9_quarrelOf_37 : decode cX9_quarrelOf 37 = .ok (.iconst 0, 1) := by decide +kernel
theorem dX9_quarrelOf_38 : decode cX9_quarrelOf 38 = .ok (.istore 7, 2) := by decide +kernel
theorem dX9_quarrelOf_40 : decode cX9_quarrelOf 40 = .ok (.iload 7, 2) := by decide +kernel
theorem dX9_quarrelOf_42 : decode cX9_quarrelOf 42 = .ok (.aload 4, 2) := by decide +kernel
theorem dX9_quarrelOf_44 : decode cX9_quarrelOf 44 = .ok (.getfield 65, 3) := by decide +kernel
theorem dX9_quarrelOf_47 : decode cX9_quarrelOf 47 = .ok (.if_icmp .ge 49, 3) := by decide +kernel
theorem dX9_quarrelOf_50 : decode cX9_quarrelOf 50 = .ok (.aload 4, 2) := by decide +kernel
theorem dX9_quarrelOf_52 : decode cX9_quarrelOf 52 = .ok (.iload 7, 2) := by decide +kernel
theorem dX9_quarrelOf_54 : decode cX9_quarrelOf 54 = .ok (.iload_n 2, 1) := by decide +kernel
theorem dX9_quarrelOf_55 : decode cX9_quarrelOf 55 = .ok (.iload 6, 2) := by decide +kernel
theorem dX9_quarrelOf_57 : decode cX9_quarrelOf 57 = .ok (.aload_n 0, 1) := by decide +kernel
theorem dX9_quarrelOf_58 : decode cX9_quarrelOf 58 = .ok (.getfield 30, 3) := by decide +kernel
theorem dX9_quarrelOf_61 : decode cX9_quarrelOf 61 = .ok (.invokevirtual 68, 3) := by decide +kernel
theorem dX9_quarrelOf_64 : decode cX9_quarrelOf 64 = .ok (.ifCond .eq 26, 3) := by decide +kernel
theorem dX9_quarrelOf_67 : decode cX9_quarrelOf 67 = .ok (.aload_n 0, 1) := by decide +kernel
theorem dX9_quarrelOf_68 : decode cX9_quarrelOf 68 = .ok (.getfield 18, 3) := by decide +kernel
theorem dX9_quarrelOf_71 : decode cX9_quarrelOf 71 = .ok (.iload 7, 2) := by decide +kernel
theorem dX9_quarrelOf_73 : decode cX9_quarrelOf 73 = .ok (.iaload, 1) := by decide +kernel
theorem dX9_quarrelOf_74 : decode cX9_quarrelOf 74 = .ok (.iconst 1, 1) := by decide +kernel
theorem dX9_quarrelOf_75 : decode cX9_quarrelOf 75 = .ok (.if_icmp .ne 15, 3) := by decide +kernel
theorem dX9_quarrelOf_78 : decode cX9_quarrelOf 78 = .ok (.iload 5, 2) := by decide +kernel
theorem dX9_quarrelOf_80 : decode cX9_quarrelOf 80 = .ok (.iload_n 3, 1) := by decide +kernel
theorem dX9_quarrelOf_81 : decode cX9_quarrelOf 81 = .ok (.if_icmp .ne 6, 3) := by decide +kernel
theorem dX9_quarrelOf_84 : decode cX9_quarrelOf 84 = .ok (.iload 7, 2) := by decide +kernel
theorem dX9_quarrelOf_86 : decode cX9_quarrelOf 86 = .ok (.ireturn, 1) := by decide +kernel
theorem dX9_quarrelOf_87 : decode cX9_quarrelOf 87 = .ok (.iinc 5 1, 3) := by decide +kernel
theorem dX9_quarrelOf_90 : decode cX9_quarrelOf 90 = .ok (.iinc 7 1, 3) := by decide +kernel
theorem dX9_quarrelOf_93 : decode cX9_quarrelOf 93 = .ok (.goto (-53), 3) := by decide +kernel
theorem dX9_quarrelOf_96 : decode cX9_quarrelOf 96 = .ok (.iinc 6 1, 3) := by decide +kernel
theorem dX9_quarrelOf_99 : decode cX9_quarrelOf 99 = .ok (.goto (-71), 3) := by decide +kernel
theorem dX9_quarrelOf_102 : decode cX9_quarrelOf 102 = .ok (.iconst (-1), 1) := by decide +kernel
theorem dX9_quarrelOf_103 : decode cX9_quarrelOf 103 = .ok (.ireturn, 1) := by decide +kernel
theorem dX9_rowOf_0 : decode cX9_rowOf 0 = .ok (.iload_n 0, 1) := by decide +kernel
theorem dX9_rowOf_1 : decode cX9_rowOf 1 = .ok (.bipush 100, 2) := by decide +kernel
theorem dX9_rowOf_3 : decode cX9_rowOf 3 = .ok (.imul, 1) := by decide +kernel
theorem dX9_rowOf_4 : decode cX9_rowOf 4 = .ok (.iload_n 1, 1) := by decide +kernel
theorem dX9_rowOf_5 : decode cX9_rowOf 5 = .ok (.iadd, 1) := by decide +kernel
theorem dX9_rowOf_6 : decode cX9_rowOf 6 = .ok (.bipush 10, 2) := by decide +kernel
theorem dX9_rowOf_8 : decode cX9_rowOf 8 = .ok (.imul, 1) := by decide +kernel
theorem dX9_rowOf_9 : decode cX9_rowOf 9 = .ok (.ireturn, 1) := by decide +kernel
theorem dX9_clearRow_0 : decode cX9_clearRow 0 = .ok (.iconst 0, 1) := by decide +kernel
theorem dX9_clearRow_1 : decode cX9_clearRow 1 = .ok (.istore_n 2, 1) := by decide +kernel
theorem dX9_clearRow_2 : decode cX9_clearRow 2 = .ok (.iload_n 2, 1) := by decide +kernel
theorem dX9_clearRow_3 : decode cX9_clearRow 3 = .ok (.bipush 10, 2) := by decide +kernel
theorem dX9_clearRow_5 : decode cX9_clearRow 5 = .ok (.if_icmp .ge 18, 3) := by decide +kernel
theorem dX9_clearRow_8 : decode cX9_clearRow 8 = .ok (.aload_n 0, 1) := by decide +kernel
theorem dX9_clearRow_9 : decode cX9_clearRow 9 = .ok (.getfield 9, 3) := by decide +kernel
theorem dX9_clearRow_12 : decode cX9_clearRow 12 = .ok (.iload_n 1, 1) := by decide +kernel
theorem dX9_clearRow_13 : decode cX9_clearRow 13 = .ok (.iload_n 2, 1) := by decide +kernel
theorem dX9_clearRow_14 : decode cX9_clearRow 14 = .ok (.iadd, 1) := by decide +kernel
theorem dX9_clearRow_15 : decode cX9_clearRow 15 = .ok (.iconst 0, 1) := by decide +kernel
theorem dX9_clearRow_16 : decode cX9_clearRow 16 = .ok (.iastore, 1) := by decide +kernel
theorem dX9_clearRow_17 : decode cX9_clearRow 17 = .ok (.iinc 2 1, 3) := by decide +kernel
theorem dX9_clearRow_20 : decode cX9_clearRow 20 = .ok (.goto (-18), 3) := by decide +kernel
theorem dX9_clearRow_23 : decode cX9_clearRow 23 = .ok (.return_, 1) := by decide +kernel
theorem dX9_reach_0 : decode cX9_reach 0 = .ok (.aload_n 1, 1) := by decide +kernel
theorem dX9_reach_1 : decode cX9_reach 1 = .ok (.getfield 51, 3) := by decide +kernel
theorem dX9_reach_4 : decode cX9_reach 4 = .ok (.getfield 60, 3) := by decide +kernel
theorem dX9_reach_7 : decode cX9_reach 7 = .ok (.iload_n 2, 1) := by decide +kernel
theorem dX9_reach_8 : decode cX9_reach 8 = .ok (.iaload, 1) := by decide +kernel
theorem dX9_reach_9 : decode cX9_reach 9 = .ok (.istore 4, 2) := by decide +kernel
theorem dX9_reach_11 : decode cX9_reach 11 = .ok (.iload 4, 2) := by decide +kernel
theorem dX9_reach_13 : decode cX9_reach 13 = .ok (.aload_n 0, 1) := by decide +kernel
theorem dX9_reach_14 : decode cX9_reach 14 = .ok (.getfield 15, 3) := by decide +kernel
theorem dX9_reach_17 : decode cX9_reach 17 = .ok (.iload_n 2, 1) := by decide +kernel
theorem dX9_reach_18 : decode cX9_reach 18 = .ok (.iaload, 1) := by decide +kernel
theorem dX9_reach_19 : decode cX9_reach 19 = .ok (.iconst 1, 1) := by decide +kernel
theorem dX9_reach_20 : decode cX9_reach 20 = .ok (.iadd, 1) := by decide +kernel
theorem dX9_reach_21 : decode cX9_reach 21 = .ok (.invokestatic 72, 3) := by decide +kernel
theorem dX9_reach_24 : decode cX9_reach 24 = .ok (.istore 5, 2) := by decide +kernel
theorem dX9_reach_26 : decode cX9_reach 26 = .ok (.iload 5, 2) := by decide +kernel
theorem dX9_reach_28 : decode cX9_reach 28 = .ok (.iload_n 3, 1) := by decide +kernel
theorem dX9_reach_29 : decode cX9_reach 29 = .ok (.if_icmp .gt 83, 3) := by decide +kernel
theorem dX9_reach_32 : decode cX9_reach 32 = .ok (.iload_n 2, 1) := by decide +kernel
theorem dX9_reach_33 : decode cX9_reach 33 = .ok (.iload 5, 2) := by decide +kernel
theorem dX9_reach_35 : decode cX9_reach 35 = .ok (.invokestatic 43, 3) := by decide +kernel
theorem dX9_reach_38 : decode cX9_reach 38 = .ok (.istore 6, 2) := by decide +kernel
theorem dX9_reach_40 : decode cX9_reach 40 = .ok (.aload_n 0, 1) := by decide +kernel
theorem dX9_reach_41 : decode cX9_reach 41 = .ok (.iload 6, 2) := by decide +kernel
theorem dX9_reach_43 : decode cX9_reach 43 = .ok (.invokevirtual 77, 3) := by decide +kernel
theorem dX9_reach_46 : decode cX9_reach 46 = .ok (.iload 5, 2) := by decide +kernel
theorem dX9_reach_48 : decode cX9_reach 48 = .ok (.iload 4, 2) := by decide +kernel
theorem dX9_reach_50 : decode cX9_reach 50 = .ok (.if_icmp .ne 25, 3) := by decide +kernel
theorem dX9_reach_53 : decode cX9_reach 53 = .ok (.aload_n 0, 1) := by decide +kernel
theorem dX9_reach_54 : decode cX9_reach 54 = .ok (.getfield 9, 3) := by decide +kernel
theorem dX9_reach_57 : decode cX9_reach 57 = .ok (.iload 6, 2) := by decide +kernel
theorem dX9_reach_59 : decode cX9_reach 59 = .ok (.aload_n 1, 1) := by decide +kernel
theorem dX9_reach_60 : decode cX9_reach 60 = .ok (.getfield 51, 3) := by decide +kernel
theorem dX9_reach_63 : decode cX9_reach 63 = .ok (.getfield 81, 3) := by decide +kernel
theorem dX9_reach_66 : decode cX9_reach 66 = .ok (.iload_n 2, 1) := by decide +kernel
theorem dX9_reach_67 : decode cX9_reach 67 = .ok (.iaload, 1) := by decide +kernel
theorem dX9_reach_68 : decode cX9_reach 68 = .ok (.iadd, 1) := by decide +kernel
theorem dX9_reach_69 : decode cX9_reach 69 = .ok (.ldc 84, 2) := by decide +kernel
theorem dX9_reach_71 : decode cX9_reach 71 = .ok (.iastore, 1) := by decide +kernel
theorem dX9_reach_72 : decode cX9_reach 72 = .ok (.goto 15, 3) := by decide +kernel
theorem dX9_reach_75 : decode cX9_reach 75 = .ok (.aload_n 0, 1) := by decide +kernel
theorem dX9_reach_76 : decode cX9_reach 76 = .ok (.aload_n 1, 1) := by decide +kernel
theorem dX9_reach_77 : decode cX9_reach 77 = .ok (.getfield 85, 3) := by decide +kernel
theorem dX9_reach_80 : decode cX9_reach 80 = .ok (.iload 6, 2) := by decide +kernel
theorem dX9_reach_82 : decode cX9_reach 82 = .ok (.iload 5, 2) := by decide +kernel
theorem dX9_reach_84 : decode cX9_reach 84 = .ok (.invokevirtual 89, 3) := by decide +kernel
theorem dX9_reach_87 : decode cX9_reach 87 = .ok (.aload_n 0, 1) := by decide +kernel
theorem dX9_reach_88 : decode cX9_reach 88 = .ok (.aload_n 1, 1) := by decide +kernel
theorem dX9_reach_89 : decode cX9_reach 89 = .ok (.getfield 51, 3) := by decide +kernel
theorem dX9_reach_92 : decode cX9_reach 92 = .ok (.iload_n 2, 1) := by decide +kernel
theorem dX9_reach_93 : decode cX9_reach 93 = .ok (.iload 5, 2) := by decide +kernel
theorem dX9_reach_95 : decode cX9_reach 95 = .ok (.invokevirtual 93, 3) := by decide +kernel
theorem dX9_reach_98 : decode cX9_reach 98 = .ok (.aload_n 0, 1) := by decide +kernel
theorem dX9_reach_99 : decode cX9_reach 99 = .ok (.getfield 15, 3) := by decide +kernel
theorem dX9_reach_102 : decode cX9_reach 102 = .ok (.iload_n 2, 1) := by decide +kernel
theorem dX9_reach_103 : decode cX9_reach 103 = .ok (.iload 5, 2) := by decide +kernel
theorem dX9_reach_105 : decode cX9_reach 105 = .ok (.iastore, 1) := by decide +kernel
theorem dX9_reach_106 : decode cX9_reach 106 = .ok (.iinc 5 1, 3) := by decide +kernel
theorem dX9_reach_109 : decode cX9_reach 109 = .ok (.goto (-83), 3) := by decide +kernel
theorem dX9_reach_112 : decode cX9_reach 112 = .ok (.return_, 1) := by decide +kernel
theorem dX9_move_0 : decode cX9_move 0 = .ok (.aload_n 1, 1) := by decide +kernel
theorem dX9_move_1 : decode cX9_move 1 = .ok (.iload_n 3, 1) := by decide +kernel
theorem dX9_move_2 : decode cX9_move 2 = .ok (.aload_n 0, 1) := by decide +kernel
theorem dX9_move_3 : decode cX9_move 3 = .ok (.getfield 30, 3) := by decide +kernel
theorem dX9_move_6 : decode cX9_move 6 = .ok (.aload_n 0, 1) := by decide +kernel
theorem dX9_move_7 : decode cX9_move 7 = .ok (.getfield 21, 3) := by decide +kernel
theorem dX9_move_10 : decode cX9_move 10 = .ok (.aload_n 0, 1) := by decide +kernel
theorem dX9_move_11 : decode cX9_move 11 = .ok (.getfield 27, 3) := by decide +kernel
theorem dX9_move_14 : decode cX9_move 14 = .ok (.invokevirtual 97, 3) := by decide +kernel
theorem dX9_move_17 : decode cX9_move 17 = .ok (.iconst 0, 1) := by decide +kernel
theorem dX9_move_18 : decode cX9_move 18 = .ok (.istore 4, 2) := by decide +kernel
theorem dX9_move_20 : decode cX9_move 20 = .ok (.iload 4, 2) := by decide +kernel
theorem dX9_move_22 : decode cX9_move 22 = .ok (.aload_n 1, 1) := by decide +kernel
theorem dX9_move_23 : decode cX9_move 23 = .ok (.getfield 103, 3) := by decide +kernel
theorem dX9_move_26 : decode cX9_move 26 = .ok (.if_icmp .ge 63, 3) := by decide +kernel
theorem dX9_move_29 : decode cX9_move 29 = .ok (.aload_n 0, 1) := by decide +kernel
theorem dX9_move_30 : decode cX9_move 30 = .ok (.getfield 9, 3) := by decide +kernel
theorem dX9_move_33 : decode cX9_move 33 = .ok (.iload_n 2, 1) := by decide +kernel
theorem dX9_move_34 : decode cX9_move 34 = .ok (.bipush 10, 2) := by decide +kernel
theorem dX9_move_36 : decode cX9_move 36 = .ok (.isub, 1) := by decide +kernel
theorem dX9_move_37 : decode cX9_move 37 = .ok (.iload 4, 2) := by decide +kernel
theorem dX9_move_39 : decode cX9_move 39 = .ok (.iadd, 1) := by decide +kernel
theorem dX9_move_40 : decode cX9_move 40 = .ok (.iaload, 1) := by decide +kernel
theorem dX9_move_41 : decode cX9_move 41 = .ok (.istore 5, 2) := by decide +kernel
theorem dX9_move_43 : decode cX9_move 43 = .ok (.iload 5, 2) := by decide +kernel
theorem dX9_move_45 : decode cX9_move 45 = .ok (.ifCond .le 38, 3) := by decide +kernel
theorem dX9_move_48 : decode cX9_move 48 = .ok (.aload_n 0, 1) := by decide +kernel
theorem dX9_move_49 : decode cX9_move 49 = .ok (.aload_n 1, 1) := by decide +kernel
theorem dX9_move_50 : decode cX9_move 50 = .ok (.iload 4, 2) := by decide +kernel
theorem dX9_move_52 : decode cX9_move 52 = .ok (.invokevirtual 106, 3) := by decide +kernel
theorem dX9_move_55 : decode cX9_move 55 = .ok (.istore 6, 2) := by decide +kernel
theorem dX9_move_57 : decode cX9_move 57 = .ok (.aload_n 0, 1) := by decide +kernel
theorem dX9_move_58 : decode cX9_move 58 = .ok (.iload 5, 2) := by decide +kernel
theorem dX9_move_60 : decode cX9_move 60 = .ok (.iload 6, 2) := by decide +kernel
theorem dX9_move_62 : decode cX9_move 62 = .ok (.iload_n 2, 1) := by decide +kernel
theorem dX9_move_63 : decode cX9_move 63 = .ok (.invokevirtual 110, 3) := by decide +kernel
theorem dX9_move_66 : decode cX9_move 66 = .ok (.ifCond .ne 17, 3) := by decide +kernel
theorem dX9_move_69 : decode cX9_move 69 = .ok (.aload_n 0, 1) := by decide +kernel
theorem dX9_move_70 : decode cX9_move 70 = .ok (.getfield 9, 3) := by decide +kernel
theorem dX9_move_73 : decode cX9_move 73 = .ok (.iload_n 2, 1) := by decide +kernel
theorem dX9_move_74 : decode cX9_move 74 = .ok (.iload 4, 2) := by decide +kernel
theorem dX9_move_76 : decode cX9_move 76 = .ok (.iadd, 1) := by decide +kernel
theorem dX9_move_77 : decode cX9_move 77 = .ok (.dup2, 1) := by decide +kernel
theorem dX9_move_78 : decode cX9_move 78 = .ok (.iaload, 1) := by decide +kernel
theorem dX9_move_79 : decode cX9_move 79 = .ok (.iload 5, 2) := by decide +kernel
theorem dX9_move_81 : decode cX9_move 81 = .ok (.iadd, 1) := by decide +kernel
theorem dX9_move_82 : decode cX9_move 82 = .ok (.iastore, 1) := by decide +kernel
theorem dX9_move_83 : decode cX9_move 83 = .ok (.iinc 4 1, 3) := by decide +kernel
theorem dX9_move_86 : decode cX9_move 86 = .ok (.goto (-66), 3) := by decide +kernel
theorem dX9_move_89 : decode cX9_move 89 = .ok (.return_, 1) := by decide +kernel
theorem dX9_weighGrass_0 : decode cX9_weighGrass 0 = .ok (.iconst 0, 1) := by decide +kernel
theorem dX9_weighGrass_1 : decode cX9_weighGrass 1 = .ok (.istore_n 3, 1) := by decide +kernel
theorem dX9_weighGrass_2 : decode cX9_weighGrass 2 = .ok (.iconst 0, 1) := by decide +kernel
theorem dX9_weighGrass_3 : decode cX9_weighGrass 3 = .ok (.istore 4, 2) := by decide +kernel
theorem dX9_weighGrass_5 : decode cX9_weighGrass 5 = .ok (.iload 4, 2) := by decide +kernel
theorem dX9_weighGrass_7 : decode cX9_weighGrass 7 = .ok (.bipush 10, 2) := by decide +kernel
theorem dX9_weighGrass_9 : decode cX9_weighGrass 9 = .ok (.if_icmp .ge 70, 3) := by decide +kernel
theorem dX9_weighGrass_12 : decode cX9_weighGrass 12 = .ok (.iload 4, 2) := by decide +kernel
theorem dX9_weighGrass_14 : decode cX9_weighGrass 14 = .ok (.iload_n 2, 1) := by decide +kernel
theorem dX9_weighGrass_15 : decode cX9_weighGrass 15 = .ok (.if_icmp .eq 18, 3) := by decide +kernel
theorem dX9_weighGrass_18 : decode cX9_weighGrass 18 = .ok (.aload_n 1, 1) := by decide +kernel
theorem dX9_weighGrass_19 : decode cX9_weighGrass 19 = .ok (.getfield 114, 3) := by decide +kernel
theorem dX9_weighGrass_22 : decode cX9_weighGrass 22 = .ok (.iload_n 2, 1) := by decide +kernel
theorem dX9_weighGrass_23 : decode cX9_weighGrass 23 = .ok (.bipush 10, 2) := by decide +kernel
theorem dX9_weighGrass_25 : decode cX9_weighGrass 25 = .ok (.imul, 1) := by decide +kernel
theorem dX9_weighGrass_26 : decode cX9_weighGrass 26 = .ok (.iload 4, 2) := by decide +kernel
theorem dX9_weighGrass_28 : decode cX9_weighGrass 28 = .ok (.iadd, 1) := by decide +kernel
theorem dX9_weighGrass_29 : decode cX9_weighGrass 29 = .ok (.iaload, 1) := by decide +kernel
theorem dX9_weighGrass_30 : decode cX9_weighGrass 30 = .ok (.ifCond .le 7, 3) := by decide +kernel
theorem dX9_weighGrass_33 : decode cX9_weighGrass 33 = .ok (.iconst 1, 1) := by decide +kernel
theorem dX9_weighGrass_34 : decode cX9_weighGrass 34 = .ok (.goto 4, 3) := by decide +kernel
theorem dX9_weighGrass_37 : decode cX9_weighGrass 37 = .ok (.iconst 0, 1) := by decide +kernel
theorem dX9_weighGrass_38 : decode cX9_weighGrass 38 = .ok (.istore 5, 2) := by decide +kernel
theorem dX9_weighGrass_40 : decode cX9_weighGrass 40 = .ok (.aload_n 0, 1) := by decide +kernel
theorem dX9_weighGrass_41 : decode cX9_weighGrass 41 = .ok (.getfield 24, 3) := by decide +kernel
theorem dX9_weighGrass_44 : decode cX9_weighGrass 44 = .ok (.iload 4, 2) := by decide +kernel
theorem dX9_weighGrass_46 : decode cX9_weighGrass 46 = .ok (.iload 5, 2) := by decide +kernel
theorem dX9_weighGrass_48 : decode cX9_weighGrass 48 = .ok (.ifCond .eq 13, 3) := by decide +kernel
theorem dX9_weighGrass_51 : decode cX9_weighGrass 51 = .ok (.aload_n 0, 1) := by decide +kernel
theorem dX9_weighGrass_52 : decode cX9_weighGrass 52 = .ok (.getfield 21, 3) := by decide +kernel
theorem dX9_weighGrass_55 : decode cX9_weighGrass 55 = .ok (.iload 4, 2) := by decide +kernel
theorem dX9_weighGrass_57 : decode cX9_weighGrass 57 = .ok (.iaload, 1) := by decide +kernel
theorem dX9_weighGrass_58 : decode cX9_weighGrass 58 = .ok (.goto 4, 3) := by decide +kernel
theorem dX9_weighGrass_61 : decode cX9_weighGrass 61 = .ok (.iconst 0, 1) := by decide +kernel
theorem dX9_weighGrass_62 : decode cX9_weighGrass 62 = .ok (.iastore, 1) := by decide +kernel
theorem dX9_weighGrass_63 : decode cX9_weighGrass 63 = .ok (.iload_n 3, 1) := by decide +kernel
theorem dX9_weighGrass_64 : decode cX9_weighGrass 64 = .ok (.aload_n 0, 1) := by decide +kernel
theorem dX9_weighGrass_65 : decode cX9_weighGrass 65 = .ok (.getfield 24, 3) := by decide +kernel
theorem dX9_weighGrass_68 : decode cX9_weighGrass 68 = .ok (.iload 4, 2) := by decide +kernel
theorem dX9_weighGrass_70 : decode cX9_weighGrass 70 = .ok (.iaload, 1) := by decide +kernel
theorem dX9_weighGrass_71 : decode cX9_weighGrass 71 = .ok (.iadd, 1) := by decide +kernel
theorem dX9_weighGrass_72 : decode cX9_weighGrass 72 = .ok (.istore_n 3, 1) := by decide +kernel
theorem dX9_weighGrass_73 : decode cX9_weighGrass 73 = .ok (.iinc 4 1, 3) := by decide +kernel
theorem dX9_weighGrass_76 : decode cX9_weighGrass 76 = .ok (.goto (-71), 3) := by decide +kernel
theorem dX9_weighGrass_79 : decode cX9_weighGrass 79 = .ok (.iload_n 3, 1) := by decide +kernel
theorem dX9_weighGrass_80 : decode cX9_weighGrass 80 = .ok (.ireturn, 1) := by decide +kernel
theorem dX9_hear_0 : decode cX9_hear 0 = .ok (.iload_n 2, 1) := by decide +kernel
theorem dX9_hear_1 : decode cX9_hear 1 = .ok (.iload_n 3, 1) := by decide +kernel
theorem dX9_hear_2 : decode cX9_hear 2 = .ok (.invokestatic 43, 3) := by decide +kernel
theorem dX9_hear_5 : decode cX9_hear 5 = .ok (.istore 4, 2) := by decide +kernel
theorem dX9_hear_7 : decode cX9_hear 7 = .ok (.iconst 0, 1) := by decide +kernel
theorem dX9_hear_8 : decode cX9_hear 8 = .ok (.istore 5, 2) := by decide +kernel
theorem dX9_hear_10 : decode cX9_hear 10 = .ok (.iload 5, 2) := by decide +kernel
theorem dX9_hear_12 : decode cX9_hear 12 = .ok (.aload_n 1, 1) := by decide +kernel
theorem dX9_hear_13 : decode cX9_hear 13 = .ok (.getfield 65, 3) := by decide +kernel
theorem dX9_hear_16 : decode cX9_hear 16 = .ok (.if_icmp .ge 82, 3) := by decide +kernel
theorem dX9_hear_19 : decode cX9_hear 19 = .ok (.aload_n 1, 1) := by decide +kernel
theorem dX9_hear_20 : decode cX9_hear 20 = .ok (.iload 5, 2) := by decide +kernel
theorem dX9_hear_22 : decode cX9_hear 22 = .ok (.iload_n 2, 1) := by decide +kernel
theorem dX9_hear_23 : decode cX9_hear 23 = .ok (.iload_n 3, 1) := by decide +kernel
theorem dX9_hear_24 : decode cX9_hear 24 = .ok (.aload_n 0, 1) := by decide +kernel
theorem dX9_hear_25 : decode cX9_hear 25 = .ok (.getfield 30, 3) := by decide +kernel
theorem dX9_hear_28 : decode cX9_hear 28 = .ok (.invokevirtual 68, 3) := by decide +kernel
theorem dX9_hear_31 : decode cX9_hear 31 = .ok (.ifCond .eq 61, 3) := by decide +kernel
theorem dX9_hear_34 : decode cX9_hear 34 = .ok (.aload_n 1, 1) := by decide +kernel
theorem dX9_hear_35 : decode cX9_hear 35 = .ok (.getfield 117, 3) := by decide +kernel
theorem dX9_hear_38 : decode cX9_hear 38 = .ok (.iload 5, 2) := by decide +kernel
theorem dX9_hear_40 : decode cX9_hear 40 = .ok (.iaload, 1) := by decide +kernel
theorem dX9_hear_41 : decode cX9_hear 41 = .ok (.istore 6, 2) := by decide +kernel
theorem dX9_hear_43 : decode cX9_hear 43 = .ok (.aload_n 1, 1) := by decide +kernel
theorem dX9_hear_44 : decode cX9_hear 44 = .ok (.getfield 120, 3) := by decide +kernel
theorem dX9_hear_47 : decode cX9_hear 47 = .ok (.iload 5, 2) := by decide +kernel
theorem dX9_hear_49 : decode cX9_hear 49 = .ok (.iaload, 1) := by decide +kernel
theorem dX9_hear_50 : decode cX9_hear 50 = .ok (.iconst 1, 1) := by decide +kernel
theorem dX9_hear_51 : decode cX9_hear 51 = .ok (.if_icmp .ne 14, 3) := by decide +kernel
theorem dX9_hear_54 : decode cX9_hear 54 = .ok (.aload_n 0, 1) := by decide +kernel
theorem dX9_hear_55 : decode cX9_hear 55 = .ok (.iload 4, 2) := by decide +kernel
theorem dX9_hear_57 : decode cX9_hear 57 = .ok (.iload 6, 2) := by decide +kernel
theorem dX9_hear_59 : decode cX9_hear 59 = .ok (.invokevirtual 123, 3) := by decide +kernel
theorem dX9_hear_62 : decode cX9_hear 62 = .ok (.goto 11, 3) := by decide +kernel
theorem dX9_hear_65 : decode cX9_hear 65 = .ok (.aload_n 0, 1) := by decide +kernel
theorem dX9_hear_66 : decode cX9_hear 66 = .ok (.iload 4, 2) := by decide +kernel
theorem dX9_hear_68 : decode cX9_hear 68 = .ok (.iload 6, 2) := by decide +kernel
theorem dX9_hear_70 : decode cX9_hear 70 = .ok (.invokevirtual 127, 3) := by decide +kernel
theorem dX9_hear_73 : decode cX9_hear 73 = .ok (.istore 7, 2) := by decide +kernel
theorem dX9_hear_75 : decode cX9_hear 75 = .ok (.aload_n 0, 1) := by decide +kernel
theorem dX9_hear_76 : decode cX9_hear 76 = .ok (.getfield 18, 3) := by decide +kernel
theorem dX9_hear_79 : decode cX9_hear 79 = .ok (.iload 5, 2) := by decide +kernel
theorem dX9_hear_81 : decode cX9_hear 81 = .ok (.iload 7, 2) := by decide +kernel
theorem dX9_hear_83 : decode cX9_hear 83 = .ok (.ifCond .eq 7, 3) := by decide +kernel
theorem dX9_hear_86 : decode cX9_hear 86 = .ok (.iconst 0, 1) := by decide +kernel
theorem dX9_hear_87 : decode cX9_hear 87 = .ok (.goto 4, 3) := by decide +kernel
theorem dX9_hear_90 : decode cX9_hear 90 = .ok (.iconst 1, 1) := by decide +kernel
theorem dX9_hear_91 : decode cX9_hear 91 = .ok (.iastore, 1) := by decide +kernel
theorem dX9_hear_92 : decode cX9_hear 92 = .ok (.iinc 5 1, 3) := by decide +kernel
theorem dX9_hear_95 : decode cX9_hear 95 = .ok (.goto (-85), 3) := by decide +kernel
theorem dX9_hear_98 : decode cX9_hear 98 = .ok (.return_, 1) := by decide +kernel
theorem dX9_gather_0 : decode cX9_gather 0 = .ok (.aload_n 0, 1) := by decide +kernel
theorem dX9_gather_1 : decode cX9_gather 1 = .ok (.getfield 9, 3) := by decide +kernel
theorem dX9_gather_4 : decode cX9_gather 4 = .ok (.iload_n 1, 1) := by decide +kernel
theorem dX9_gather_5 : decode cX9_gather 5 = .ok (.iload_n 2, 1) := by decide +kernel
theorem dX9_gather_6 : decode cX9_gather 6 = .ok (.iadd, 1) := by decide +kernel
theorem dX9_gather_7 : decode cX9_gather 7 = .ok (.iaload, 1) := by decide +kernel
theorem dX9_gather_8 : decode cX9_gather 8 = .ok (.ifCond .ne 5, 3) := by decide +kernel
theorem dX9_gather_11 : decode cX9_gather 11 = .ok (.iconst 0, 1) := by decide +kernel
theorem dX9_gather_12 : decode cX9_gather 12 = .ok (.ireturn, 1) := by decide +kernel
theorem dX9_gather_13 : decode cX9_gather 13 = .ok (.aload_n 0, 1) := by decide +kernel
theorem dX9_gather_14 : decode cX9_gather 14 = .ok (.iload_n 1, 1) := by decide +kernel
theorem dX9_gather_15 : decode cX9_gather 15 = .ok (.invokevirtual 77, 3) := by decide +kernel
theorem dX9_gather_18 : decode cX9_gather 18 = .ok (.aload_n 0, 1) := by decide +kernel
theorem dX9_gather_19 : decode cX9_gather 19 = .ok (.getfield 9, 3) := by decide +kernel
theorem dX9_gather_22 : decode cX9_gather 22 = .ok (.iload_n 1, 1) := by decide +kernel
theorem dX9_gather_23 : decode cX9_gather 23 = .ok (.iload_n 2, 1) := by decide +kernel
theorem dX9_gather_24 : decode cX9_gather 24 = .ok (.iadd, 1) := by decide +kernel
theorem dX9_gather_25 : decode cX9_gather 25 = .ok (.ldc 84, 2) := by decide +kernel
theorem dX9_gather_27 : decode cX9_gather 27 = .ok (.iastore, 1) := by decide +kernel
theorem dX9_gather_28 : decode cX9_gather 28 = .ok (.iconst 1, 1) := by decide +kernel
theorem dX9_gather_29 : decode cX9_gather 29 = .ok (.ireturn, 1) := by decide +kernel
theorem dX9_leave_0 : decode cX9_leave 0 = .ok (.ldc 84, 2) := by decide +kernel
theorem dX9_leave_2 : decode cX9_leave 2 = .ok (.aload_n 0, 1) := by decide +kernel
theorem dX9_leave_3 : decode cX9_leave 3 = .ok (.getfield 9, 3) := by decide +kernel
theorem dX9_leave_6 : decode cX9_leave 6 = .ok (.iload_n 1, 1) := by decide +kernel
theorem dX9_leave_7 : decode cX9_leave 7 = .ok (.iload_n 2, 1) := by decide +kernel
theorem dX9_leave_8 : decode cX9_leave 8 = .ok (.iadd, 1) := by decide +kernel
theorem dX9_leave_9 : decode cX9_leave 9 = .ok (.iaload, 1) := by decide +kernel
theorem dX9_leave_10 : decode cX9_leave 10 = .ok (.isub, 1) := by decide +kernel
theorem dX9_leave_11 : decode cX9_leave 11 = .ok (.istore_n 3, 1) := by decide +kernel
theorem dX9_leave_12 : decode cX9_leave 12 = .ok (.iload_n 3, 1) := by decide +kernel
theorem dX9_leave_13 : decode cX9_leave 13 = .ok (.ifCond .ne 5, 3) := by decide +kernel
theorem dX9_leave_16 : decode cX9_leave 16 = .ok (.iconst 0, 1) := by decide +kernel
theorem dX9_leave_17 : decode cX9_leave 17 = .ok (.ireturn, 1) := by decide +kernel
theorem dX9_leave_18 : decode cX9_leave 18 = .ok (.iconst 0, 1) := by decide +kernel
theorem dX9_leave_19 : decode cX9_leave 19 = .ok (.istore 4, 2) := by decide +kernel
theorem dX9_leave_21 : decode cX9_leave 21 = .ok (.iload 4, 2) := by decide +kernel
theorem dX9_leave_23 : decode cX9_leave 23 = .ok (.bipush 10, 2) := by decide +kernel
theorem dX9_leave_25 : decode cX9_leave 25 = .ok (.if_icmp .ge 45, 3) := by decide +kernel
theorem dX9_leave_28 : decode cX9_leave 28 = .ok (.aload_n 0, 1) := by decide +kernel
theorem dX9_leave_29 : decode cX9_leave 29 = .ok (.getfield 24, 3) := by decide +kernel
theorem dX9_leave_32 : decode cX9_leave 32 = .ok (.iload 4, 2) := by decide +kernel
theorem dX9_leave_34 : decode cX9_leave 34 = .ok (.iload 4, 2) := by decide +kernel
theorem dX9_leave_36 : decode cX9_leave 36 = .ok (.iload_n 2, 1) := by decide +kernel
theorem dX9_leave_37 : decode cX9_leave 37 = .ok (.if_icmp .ne 7, 3) := by decide +kernel
theorem dX9_leave_40 : decode cX9_leave 40 = .ok (.iconst 0, 1) := by decide +kernel
theorem dX9_leave_41 : decode cX9_leave 41 = .ok (.goto 12, 3) := by decide +kernel
theorem dX9_leave_44 : decode cX9_leave 44 = .ok (.aload_n 0, 1) := by decide +kernel
theorem dX9_leave_45 : decode cX9_leave 45 = .ok (.getfield 9, 3) := by decide +kernel
theorem dX9_leave_48 : decode cX9_leave 48 = .ok (.iload_n 1, 1) := by decide +kernel
theorem dX9_leave_49 : decode cX9_leave 49 = .ok (.iload 4, 2) := by decide +kernel
theorem dX9_leave_51 : decode cX9_leave 51 = .ok (.iadd, 1) := by decide +kernel
theorem dX9_leave_52 : decode cX9_leave 52 = .ok (.iaload, 1) := by decide +kernel
theorem dX9_leave_53 : decode cX9_leave 53 = .ok (.iastore, 1) := by decide +kernel
theorem dX9_leave_54 : decode cX9_leave 54 = .ok (.aload_n 0, 1) := by decide +kernel
theorem dX9_leave_55 : decode cX9_leave 55 = .ok (.getfield 9, 3) := by decide +kernel
theorem dX9_leave_58 : decode cX9_leave 58 = .ok (.iload_n 1, 1) := by decide +kernel
theorem dX9_leave_59 : decode cX9_leave 59 = .ok (.iload 4, 2) := by decide +kernel
theorem dX9_leave_61 : decode cX9_leave 61 = .ok (.iadd, 1) := by decide +kernel
theorem dX9_leave_62 : decode cX9_leave 62 = .ok (.iconst 0, 1) := by decide +kernel
theorem dX9_leave_63 : decode cX9_leave 63 = .ok (.iastore, 1) := by decide +kernel
theorem dX9_leave_64 : decode cX9_leave 64 = .ok (.iinc 4 1, 3) := by decide +kernel
theorem dX9_leave_67 : decode cX9_leave 67 = .ok (.goto (-46), 3) := by decide +kernel
theorem dX9_leave_70 : decode cX9_leave 70 = .ok (.aload_n 0, 1) := by decide +kernel
theorem dX9_leave_71 : decode cX9_leave 71 = .ok (.ldc 84, 2) := by decide +kernel
theorem dX9_leave_73 : decode cX9_leave 73 = .ok (.iload_n 3, 1) := by decide +kernel
theorem dX9_leave_74 : decode cX9_leave 74 = .ok (.iload_n 1, 1) := by decide +kernel
theorem dX9_leave_75 : decode cX9_leave 75 = .ok (.invokevirtual 110, 3) := by decide +kernel
theorem dX9_leave_78 : decode cX9_leave 78 = .ok (.ireturn, 1) := by decide +kernel
theorem dX9_share_0 : decode cX9_share 0 = .ok (.iload_n 2, 1) := by decide +kernel
theorem dX9_share_1 : decode cX9_share 1 = .ok (.ifCond .gt 5, 3) := by decide +kernel
theorem dX9_share_4 : decode cX9_share 4 = .ok (.iconst 0, 1) := by decide +kernel
theorem dX9_share_5 : decode cX9_share 5 = .ok (.ireturn, 1) := by decide +kernel
theorem dX9_share_6 : decode cX9_share 6 = .ok (.iload_n 1, 1) := by decide +kernel
theorem dX9_share_7 : decode cX9_share 7 = .ok (.istore 4, 2) := by decide +kernel
theorem dX9_share_9 : decode cX9_share 9 = .ok (.iconst 0, 1) := by decide +kernel
theorem dX9_share_10 : decode cX9_share 10 = .ok (.istore 5, 2) := by decide +kernel
theorem dX9_share_12 : decode cX9_share 12 = .ok (.iload 5, 2) := by decide +kernel
theorem dX9_share_14 : decode cX9_share 14 = .ok (.bipush 10, 2) := by decide +kernel
theorem dX9_share_16 : decode cX9_share 16 = .ok (.if_icmp .ge 64, 3) := by decide +kernel
theorem dX9_share_19 : decode cX9_share 19 = .ok (.iload_n 1, 1) := by decide +kernel
theorem dX9_share_20 : decode cX9_share 20 = .ok (.i2l, 1) := by decide +kernel
theorem dX9_share_21 : decode cX9_share 21 = .ok (.aload_n 0, 1) := by decide +kernel
theorem dX9_share_22 : decode cX9_share 22 = .ok (.getfield 24, 3) := by decide +kernel
theorem dX9_share_25 : decode cX9_share 25 = .ok (.iload 5, 2) := by decide +kernel
theorem dX9_share_27 : decode cX9_share 27 = .ok (.iaload, 1) := by decide +kernel
theorem dX9_share_28 : decode cX9_share 28 = .ok (.i2l, 1) := by decide +kernel
theorem dX9_share_29 : decode cX9_share 29 = .ok (.lmul, 1) := by decide +kernel
theorem dX9_share_30 : decode cX9_share 30 = .ok (.lstore 6, 2) := by decide +kernel
theorem dX9_share_32 : decode cX9_share 32 = .ok (.lload 6, 2) := by decide +kernel
theorem dX9_share_34 : decode cX9_share 34 = .ok (.iload_n 2, 1) := by decide +kernel
theorem dX9_share_35 : decode cX9_share 35 = .ok (.i2l, 1) := by decide +kernel
theorem dX9_share_36 : decode cX9_share 36 = .ok (.ldiv, 1) := by decide +kernel
theorem dX9_share_37 : decode cX9_share 37 = .ok (.l2i, 1) := by decide +kernel
theorem dX9_share_38 : decode cX9_share 38 = .ok (.istore 8, 2) := by decide +kernel
theorem dX9_share_40 : decode cX9_share 40 = .ok (.aload_n 0, 1) := by decide +kernel
theorem dX9_share_41 : decode cX9_share 41 = .ok (.getfield 27, 3) := by decide +kernel
theorem dX9_share_44 : decode cX9_share 44 = .ok (.iload 5, 2) := by decide +kernel
theorem dX9_share_46 : decode cX9_share 46 = .ok (.lload 6, 2) := by decide +kernel
theorem dX9_share_48 : decode cX9_share 48 = .ok (.iload_n 2, 1) := by decide +kernel
theorem dX9_share_49 : decode cX9_share 49 = .ok (.i2l, 1) := by decide +kernel
theorem dX9_share_50 : decode cX9_share 50 = .ok (.lrem, 1) := by decide +kernel
theorem dX9_share_51 : decode cX9_share 51 = .ok (.l2i, 1) := by decide +kernel
theorem dX9_share_52 : decode cX9_share 52 = .ok (.iastore, 1) := by decide +kernel
theorem dX9_share_53 : decode cX9_share 53 = .ok (.aload_n 0, 1) := by decide +kernel
theorem dX9_share_54 : decode cX9_share 54 = .ok (.getfield 9, 3) := by decide +kernel
theorem dX9_share_57 : decode cX9_share 57 = .ok (.iload_n 3, 1) := by decide +kernel
theorem dX9_share_58 : decode cX9_share 58 = .ok (.iload 5, 2) := by decide +kernel
theorem dX9_share_60 : decode cX9_share 60 = .ok (.iadd, 1) := by decide +kernel
theorem dX9_share_61 : decode cX9_share 61 = .ok (.dup2, 1) := by decide +kernel
theorem dX9_share_62 : decode cX9_share 62 = .ok (.iaload, 1) := by decide +kernel
theorem dX9_share_63 : decode cX9_share 63 = .ok (.iload 8, 2) := by decide +kernel
theorem dX9_share_65 : decode cX9_share 65 = .ok (.iadd, 1) := by decide +kernel
theorem dX9_share_66 : decode cX9_share 66 = .ok (.iastore, 1) := by decide +kernel
theorem dX9_share_67 : decode cX9_share 67 = .ok (.iload 4, 2) := by decide +kernel
theorem dX9_share_69 : decode cX9_share 69 = .ok (.iload 8, 2) := by decide +kernel
theorem dX9_share_71 : decode cX9_share 71 = .ok (.isub, 1) := by decide +kernel
theorem dX9_share_72 : decode cX9_share 72 = .ok (.istore 4, 2) := by decide +kernel
theorem dX9_share_74 : decode cX9_share 74 = .ok (.iinc 5 1, 3) := by decide +kernel
theorem dX9_share_77 : decode cX9_share 77 = .ok (.goto (-65), 3) := by decide +kernel
theorem dX9_share_80 : decode cX9_share 80 = .ok (.iconst 0, 1) := by decide +kernel
theorem dX9_share_81 : decode cX9_share 81 = .ok (.istore 5, 2) := by decide +kernel
theorem dX9_share_83 : decode cX9_share 83 = .ok (.iload 5, 2) := by decide +kernel
theorem dX9_share_85 : decode cX9_share 85 = .ok (.bipush 10, 2) := by decide +kernel
theorem dX9_share_87 : decode cX9_share 87 = .ok (.if_icmp .ge 78, 3) := by decide +kernel
theorem dX9_share_90 : decode cX9_share 90 = .ok (.iload 4, 2) := by decide +kernel
theorem dX9_share_92 : decode cX9_share 92 = .ok (.ifCond .le 73, 3) := by decide +kernel
theorem dX9_share_95 : decode cX9_share 95 = .ok (.iconst 0, 1) := by decide +kernel
theorem dX9_share_96 : decode cX9_share 96 = .ok (.istore 6, 2) := by decide +kernel
theorem dX9_share_98 : decode cX9_share 98 = .ok (.iconst 1, 1) := by decide +kernel
theorem dX9_share_99 : decode cX9_share 99 = .ok (.istore 7, 2) := by decide +kernel
theorem dX9_share_101 : decode cX9_share 101 = .ok (.iload 7, 2) := by decide +kernel
theorem dX9_share_103 : decode cX9_share 103 = .ok (.bipush 10, 2) := by decide +kernel
theorem dX9_share_105 : decode cX9_share 105 = .ok (.if_icmp .ge 30, 3) := by decide +kernel
theorem dX9_share_108 : decode cX9_share 108 = .ok (.aload_n 0, 1) := by decide +kernel
theorem dX9_share_109 : decode cX9_share 109 = .ok (.getfield 27, 3) := by decide +kernel
theorem dX9_share_112 : decode cX9_share 112 = .ok (.iload 7, 2) := by decide +kernel
theorem dX9_share_114 : decode cX9_share 114 = .ok (.iaload, 1) := by decide +kernel
theorem dX9_share_115 : decode cX9_share 115 = .ok (.aload_n 0, 1) := by decide +kernel
theorem dX9_share_116 : decode cX9_share 116 = .ok (.getfield 27, 3) := by decide +kernel
theorem dX9_share_119 : decode cX9_share 119 = .ok (.iload 6, 2) := by decide +kernel
theorem dX9_share_121 : decode cX9_share 121 = .ok (.iaload, 1) := by decide +kernel
theorem dX9_share_122 : decode cX9_share 122 = .ok (.if_icmp .le 7, 3) := by decide +kernel
theorem dX9_share_125 : decode cX9_share 125 = .ok (.iload 7, 2) := by decide +kernel
theorem dX9_share_127 : decode cX9_share 127 = .ok (.istore 6, 2) := by decide +kernel
theorem dX9_share_129 : decode cX9_share 129 = .ok (.iinc 7 1, 3) := by decide +kernel
theorem dX9_share_132 : decode cX9_share 132 = .ok (.goto (-31), 3) := by decide +kernel
theorem dX9_share_135 : decode cX9_share 135 = .ok (.aload_n 0, 1) := by decide +kernel
theorem dX9_share_136 : decode cX9_share 136 = .ok (.getfield 9, 3) := by decide +kernel
theorem dX9_share_139 : decode cX9_share 139 = .ok (.iload_n 3, 1) := by decide +kernel
theorem dX9_share_140 : decode cX9_share 140 = .ok (.iload 6, 2) := by decide +kernel
theorem dX9_share_142 : decode cX9_share 142 = .ok (.iadd, 1) := by decide +kernel
theorem dX9_share_143 : decode cX9_share 143 = .ok (.dup2, 1) := by decide +kernel
theorem dX9_share_144 : decode cX9_share 144 = .ok (.iaload, 1) := by decide +kernel
theorem dX9_share_145 : decode cX9_share 145 = .ok (.iconst 1, 1) := by decide +kernel
theorem dX9_share_146 : decode cX9_share 146 = .ok (.iadd, 1) := by decide +kernel
theorem dX9_share_147 : decode cX9_share 147 = .ok (.iastore, 1) := by decide +kernel
theorem dX9_share_148 : decode cX9_share 148 = .ok (.aload_n 0, 1) := by decide +kernel
theorem dX9_share_149 : decode cX9_share 149 = .ok (.getfield 27, 3) := by decide +kernel
theorem dX9_share_152 : decode cX9_share 152 = .ok (.iload 6, 2) := by decide +kernel
theorem dX9_share_154 : decode cX9_share 154 = .ok (.iconst (-1), 1) := by decide +kernel
theorem dX9_share_155 : decode cX9_share 155 = .ok (.iastore, 1) := by decide +kernel
theorem dX9_share_156 : decode cX9_share 156 = .ok (.iinc 4 (-1), 3) := by decide +kernel
theorem dX9_share_159 : decode cX9_share 159 = .ok (.iinc 5 1, 3) := by decide +kernel
theorem dX9_share_162 : decode cX9_share 162 = .ok (.goto (-79), 3) := by decide +kernel
theorem dX9_share_165 : decode cX9_share 165 = .ok (.iconst 1, 1) := by decide +kernel
theorem dX9_share_166 : decode cX9_share 166 = .ok (.ireturn, 1) := by decide +kernel
theorem dX10_init_0 : decode cX10_init 0 = .ok (.aload_n 0, 1) := by decide +kernel
theorem dX10_init_1 : decode cX10_init 1 = .ok (.invokespecial 3, 3) := by decide +kernel
theorem dX10_init_4 : decode cX10_init 4 = .ok (.aload_n 0, 1) := by decide +kernel
theorem dX10_init_5 : decode cX10_init 5 = .ok (.new 9, 3) := by decide +kernel
theorem dX10_init_8 : decode cX10_init 8 = .ok (.dup, 1) := by decide +kernel
theorem dX10_init_9 : decode cX10_init 9 = .ok (.invokespecial 11, 3) := by decide +kernel
theorem dX10_init_12 : decode cX10_init 12 = .ok (.putfield 12, 3) := by decide +kernel
theorem dX10_init_15 : decode cX10_init 15 = .ok (.aload_n 0, 1) := by decide +kernel
theorem dX10_init_16 : decode cX10_init 16 = .ok (.iconst 3, 1) := by decide +kernel
theorem dX10_init_17 : decode cX10_init 17 = .ok (.anewarray 9, 3) := by decide +kernel
theorem dX10_init_20 : decode cX10_init 20 = .ok (.putfield 16, 3) := by decide +kernel
theorem dX10_init_23 : decode cX10_init 23 = .ok (.aload_n 0, 1) := by decide +kernel
theorem dX10_init_24 : decode cX10_init 24 = .ok (.new 20, 3) := by decide +kernel
theorem dX10_init_27 : decode cX10_init 27 = .ok (.dup, 1) := by decide +kernel
theorem dX10_init_28 : decode cX10_init 28 = .ok (.bipush 99, 2) := by decide +kernel
theorem dX10_init_30 : decode cX10_init 30 = .ok (.invokespecial 22, 3) := by decide +kernel
theorem dX10_init_33 : decode cX10_init 33 = .ok (.putfield 25, 3) := by decide +kernel
theorem dX10_init_36 : decode cX10_init 36 = .ok (.aload_n 0, 1) := by decide +kernel
theorem dX10_init_37 : decode cX10_init 37 = .ok (.new 20, 3) := by decide +kernel
theorem dX10_init_40 : decode cX10_init 40 = .ok (.dup, 1) := by decide +kernel
theorem dX10_init_41 : decode cX10_init 41 = .ok (.iconst (-1), 1) := by decide +kernel
theorem dX10_init_42 : decode cX10_init 42 = .ok (.invokespecial 22, 3) := by decide +kernel
theorem dX10_init_45 : decode cX10_init 45 = .ok (.putfield 29, 3) := by decide +kernel
theorem dX10_init_48 : decode cX10_init 48 = .ok (.aload_n 0, 1) := by decide +kernel
theorem dX10_init_49 : decode cX10_init 49 = .ok (.new 32, 3) := by decide +kernel
theorem dX10_init_52 : decode cX10_init 52 = .ok (.dup, 1) := by decide +kernel
theorem dX10_init_53 : decode cX10_init 53 = .ok (.invokespecial 34, 3) := by decide +kernel
theorem dX10_init_56 : decode cX10_init 56 = .ok (.putfield 35, 3) := by decide +kernel
theorem dX10_init_59 : decode cX10_init 59 = .ok (.aload_n 0, 1) := by decide +kernel
theorem dX10_init_60 : decode cX10_init 60 = .ok (.new 39, 3) := by decide +kernel
theorem dX10_init_63 : decode cX10_init 63 = .ok (.dup, 1) := by decide +kernel
theorem dX10_init_64 : decode cX10_init 64 = .ok (.invokespecial 41, 3) := by decide +kernel
theorem dX10_init_67 : decode cX10_init 67 = .ok (.putfield 42, 3) := by decide +kernel
theorem dX10_init_70 : decode cX10_init 70 = .ok (.aload_n 0, 1) := by decide +kernel
theorem dX10_init_71 : decode cX10_init 71 = .ok (.new 46, 3) := by decide +kernel
theorem dX10_init_74 : decode cX10_init 74 = .ok (.dup, 1) := by decide +kernel
theorem dX10_init_75 : decode cX10_init 75 = .ok (.invokespecial 48, 3) := by decide +kernel
theorem dX10_init_78 : decode cX10_init 78 = .ok (.putfield 49, 3) := by decide +kernel
theorem dX10_init_81 : decode cX10_init 81 = .ok (.aload_n 0, 1) := by decide +kernel
theorem dX10_init_82 : decode cX10_init 82 = .ok (.bipush 10, 2) := by decide +kernel
theorem dX10_init_84 : decode cX10_init 84 = .ok (.newarray .int, 2) := by decide +kernel
theorem dX10_init_86 : decode cX10_init 86 = .ok (.putfield 53, 3) := by decide +kernel
theorem dX10_init_89 : decode cX10_init 89 = .ok (.aload_n 0, 1) := by decide +kernel
theorem dX10_init_90 : decode cX10_init 90 = .ok (.bipush 10, 2) := by decide +kernel
theorem dX10_init_92 : decode cX10_init 92 = .ok (.newarray .int, 2) := by decide +kernel
theorem dX10_init_94 : decode cX10_init 94 = .ok (.putfield 57, 3) := by decide +kernel
theorem dX10_init_97 : decode cX10_init 97 = .ok (.return_, 1) := by decide +kernel
theorem dX10_cell_0 : decode cX10_cell 0 = .ok (.aload_n 0, 1) := by decide +kernel
theorem dX10_cell_1 : decode cX10_cell 1 = .ok (.getfield 12, 3) := by decide +kernel
theorem dX10_cell_4 : decode cX10_cell 4 = .ok (.getfield 60, 3) := by decide +kernel
theorem dX10_cell_7 : decode cX10_cell 7 = .ok (.iload_n 1, 1) := by decide +kernel
theorem dX10_cell_8 : decode cX10_cell 8 = .ok (.invokevirtual 64, 3) := by decide +kernel
theorem dX10_cell_11 : decode cX10_cell 11 = .ok (.istore_n 2, 1) := by decide +kernel
theorem dX10_cell_12 : decode cX10_cell 12 = .ok (.aload_n 0, 1) := by decide +kernel
theorem dX10_cell_13 : decode cX10_cell 13 = .ok (.invokevirtual 70, 3) := by decide +kernel
theorem dX10_cell_16 : decode cX10_cell 16 = .ok (.iload_n 2, 1) := by decide +kernel
theorem dX10_cell_17 : decode cX10_cell 17 = .ok (.ireturn, 1) := by decide +kernel
theorem dX10_way_0 : decode cX10_way 0 = .ok (.aload_n 0, 1) := by decide +kernel
theorem dX10_way_1 : decode cX10_way 1 = .ok (.getfield 12, 3) := by decide +kernel
theorem dX10_way_4 : decode cX10_way 4 = .ok (.getfield 60, 3) := by decide +kernel
theorem dX10_way_7 : decode cX10_way 7 = .ok (.astore 4, 2) := by decide +kernel
theorem dX10_way_9 : decode cX10_way 9 = .ok (.aload 4, 2) := by decide +kernel
theorem dX10_way_11 : decode cX10_way 11 = .ok (.iload_n 1, 1) := by decide +kernel
theorem dX10_way_12 : decode cX10_way 12 = .ok (.invokevirtual 73, 3) := by decide +kernel
theorem dX10_way_15 : decode cX10_way 15 = .ok (.ifCond .eq 27, 3) := by decide +kernel
theorem dX10_way_18 : decode cX10_way 18 = .ok (.aload 4, 2) := by decide +kernel
theorem dX10_way_20 : decode cX10_way 20 = .ok (.iload_n 2, 1) := by decide +kernel
theorem dX10_way_21 : decode cX10_way 21 = .ok (.invokevirtual 73, 3) := by decide +kernel
theorem dX10_way_24 : decode cX10_way 24 = .ok (.ifCond .eq 18, 3) := by decide +kernel
theorem dX10_way_27 : decode cX10_way 27 = .ok (.iload_n 1, 1) := by decide +kernel
theorem dX10_way_28 : decode cX10_way 28 = .ok (.iload_n 2, 1) := by decide +kernel
theorem dX10_way_29 : decode cX10_way 29 = .ok (.if_icmp .eq 13, 3) := by decide +kernel
theorem dX10_way_32 : decode cX10_way 32 = .ok (.iload_n 3, 1) := by decide +kernel
theorem dX10_way_33 : decode cX10_way 33 = .ok (.iconst 1, 1) := by decide +kernel
theorem dX10_way_34 : decode cX10_way 34 = .ok (.bipush 9, 2) := by decide +kernel
theorem dX10_way_36 : decode cX10_way 36 = .ok (.invokestatic 77, 3) := by decide +kernel
theorem dX10_way_39 : decode cX10_way 39 = .ok (.ifCond .ne 5, 3) := by decide +kernel
theorem dX10_way_42 : decode cX10_way 42 = .ok (.iconst 0, 1) := by decide +kernel
theorem dX10_way_43 : decode cX10_way 43 = .ok (.ireturn, 1) := by decide +kernel
theorem dX10_way_44 : decode cX10_way 44 = .ok (.aload 4, 2) := by decide +kernel
theorem dX10_way_46 : decode cX10_way 46 = .ok (.iload_n 1, 1) := by decide +kernel
theorem dX10_way_47 : decode cX10_way 47 = .ok (.iload_n 2, 1) := by decide +kernel
theorem dX10_way_48 : decode cX10_way 48 = .ok (.iload_n 3, 1) := by decide +kernel
theorem dX10_way_49 : decode cX10_way 49 = .ok (.invokevirtual 81, 3) := by decide +kernel
theorem dX10_way_52 : decode cX10_way 52 = .ok (.aload_n 0, 1) := by decide +kernel
theorem dX10_way_53 : decode cX10_way 53 = .ok (.invokevirtual 70, 3) := by decide +kernel
theorem dX10_way_56 : decode cX10_way 56 = .ok (.iconst 1, 1) := by decide +kernel
theorem dX10_way_57 : decode cX10_way 57 = .ok (.ireturn, 1) := by decide +kernel
theorem dX10_camp_0 : decode cX10_camp 0 = .ok (.aload_n 0, 1) := by decide +kernel
theorem dX10_camp_1 : decode cX10_camp 1 = .ok (.getfield 12, 3) := by decide +kernel
theorem dX10_camp_4 : decode cX10_camp 4 = .ok (.getfield 60, 3) := by decide +kernel
theorem dX10_camp_7 : decode cX10_camp 7 = .ok (.iload_n 1, 1) := by decide +kernel
theorem dX10_camp_8 : decode cX10_camp 8 = .ok (.invokevirtual 73, 3) := by decide +kernel
theorem dX10_camp_11 : decode cX10_camp 11 = .ok (.ifCond .eq 12, 3) := by decide +kernel
theorem dX10_camp_14 : decode cX10_camp 14 = .ok (.iload_n 2, 1) := by decide +kernel
theorem dX10_camp_15 : decode cX10_camp 15 = .ok (.iconst 0, 1) := by decide +kernel
theorem dX10_camp_16 : decode cX10_camp 16 = .ok (.iconst 3, 1) := by decide +kernel
theorem dX10_camp_17 : decode cX10_camp 17 = .ok (.invokestatic 77, 3) := by decide +kernel
theorem dX10_camp_20 : decode cX10_camp 20 = .ok (.ifCond .ne 5, 3) := by decide +kernel
theorem dX10_camp_23 : decode cX10_camp 23 = .ok (.iconst (-1), 1) := by decide +kernel
theorem dX10_camp_24 : decode cX10_camp 24 = .ok (.ireturn, 1) := by decide +kernel
theorem dX10_camp_25 : decode cX10_camp 25 = .ok (.aload_n 0, 1) := by decide +kernel
theorem dX10_camp_26 : decode cX10_camp 26 = .ok (.invokevirtual 85, 3) := by decide +kernel
theorem dX10_camp_29 : decode cX10_camp 29 = .ok (.aload_n 0, 1) := by decide +kernel
theorem dX10_camp_30 : decode cX10_camp 30 = .ok (.getfield 12, 3) := by decide +kernel
theorem dX10_camp_33 : decode cX10_camp 33 = .ok (.getfield 88, 3) := by decide +kernel
theorem dX10_camp_36 : decode cX10_camp 36 = .ok (.iload_n 1, 1) := by decide +kernel
theorem dX10_camp_37 : decode cX10_camp 37 = .ok (.iload_n 2, 1) := by decide +kernel
theorem dX10_camp_38 : decode cX10_camp 38 = .ok (.aload_n 0, 1) := by decide +kernel
theorem dX10_camp_39 : decode cX10_camp 39 = .ok (.getfield 12, 3) := by decide +kernel
theorem dX10_camp_42 : decode cX10_camp 42 = .ok (.getfield 92, 3) := by decide +kernel
theorem dX10_camp_45 : decode cX10_camp 45 = .ok (.invokevirtual 96, 3) := by decide +kernel
theorem dX10_camp_48 : decode cX10_camp 48 = .ok (.ireturn, 1) := by decide +kernel
theorem dX10_grass_0 : decode cX10_grass 0 = .ok (.aload_n 0, 1) := by decide +kernel
theorem dX10_grass_1 : decode cX10_grass 1 = .ok (.getfield 12, 3) := by decide +kernel
theorem dX10_grass_4 : decode cX10_grass 4 = .ok (.getfield 60, 3) := by decide +kernel
theorem dX10_grass_7 : decode cX10_grass 7 = .ok (.iload_n 1, 1) := by decide +kernel
theorem dX10_grass_8 : decode cX10_grass 8 = .ok (.invokevirtual 73, 3) := by decide +kernel
theorem dX10_grass_11 : decode cX10_grass 11 = .ok (.ifCond .eq 20, 3) := by decide +kernel
theorem dX10_grass_14 : decode cX10_grass 14 = .ok (.iload_n 2, 1) := by decide +kernel
theorem dX10_grass_15 : decode cX10_grass 15 = .ok (.invokestatic 102, 3) := by decide +kernel
theorem dX10_grass_18 : decode cX10_grass 18 = .ok (.ifCond .eq 13, 3) := by decide +kernel
theorem dX10_grass_21 : decode cX10_grass 21 = .ok (.iload_n 3, 1) := by decide +kernel
theorem dX10_grass_22 : decode cX10_grass 22 = .ok (.iconst 0, 1) := by decide +kernel
theorem dX10_grass_23 : decode cX10_grass 23 = .ok (.bipush 99, 2) := by decide +kernel
theorem dX10_grass_25 : decode cX10_grass 25 = .ok (.invokestatic 77, 3) := by decide +kernel
theorem dX10_grass_28 : decode cX10_grass 28 = .ok (.ifCond .ne 5, 3) := by decide +kernel
theorem dX10_grass_31 : decode cX10_grass 31 = .ok (.iconst 0, 1) := by decide +kernel
theorem dX10_grass_32 : decode cX10_grass 32 = .ok (.ireturn, 1) := by decide +kernel
theorem dX10_grass_33 : decode cX10_grass 33 = .ok (.aload_n 0, 1) := by decide +kernel
theorem dX10_grass_34 : decode cX10_grass 34 = .ok (.invokevirtual 85, 3) := by decide +kernel
theorem dX10_grass_37 : decode cX10_grass 37 = .ok (.aload_n 0, 1) := by decide +kernel
theorem dX10_grass_38 : decode cX10_grass 38 = .ok (.getfield 12, 3) := by decide +kernel
theorem dX10_grass_41 : decode cX10_grass 41 = .ok (.getfield 60, 3) := by decide +kernel
theorem dX10_grass_44 : decode cX10_grass 44 = .ok (.iload_n 1, 1) := by decide +kernel
theorem dX10_grass_45 : decode cX10_grass 45 = .ok (.iload_n 2, 1) := by decide +kernel
theorem dX10_grass_46 : decode cX10_grass 46 = .ok (.iload_n 3, 1) := by decide +kernel
theorem dX10_grass_47 : decode cX10_grass 47 = .ok (.aload_n 0, 1) := by decide +kernel
theorem dX10_grass_48 : decode cX10_grass 48 = .ok (.getfield 12, 3) := by decide +kernel
theorem dX10_grass_51 : decode cX10_grass 51 = .ok (.getfield 92, 3) := by decide +kernel
theorem dX10_grass_54 : decode cX10_grass 54 = .ok (.invokevirtual 105, 3) := by decide +kernel
theorem dX10_grass_57 : decode cX10_grass 57 = .ok (.ireturn, 1) := by decide +kernel
theorem dX10_dry_0 : decode cX10_dry 0 = .ok (.iload_n 2, 1) := by decide +kernel
theorem dX10_dry_1 : decode cX10_dry 1 = .ok (.ifCond .eq 7, 3) := by decide +kernel
theorem dX10_dry_4 : decode cX10_dry 4 = .ok (.iconst 1, 1) := by decide +kernel
theorem dX10_dry_5 : decode cX10_dry 5 = .ok (.goto 4, 3) := by decide +kernel
theorem dX10_dry_8 : decode cX10_dry 8 = .ok (.iconst 0, 1) := by decide +kernel
theorem dX10_dry_9 : decode cX10_dry 9 = .ok (.istore_n 3, 1) := by decide +kernel
theorem dX10_dry_10 : decode cX10_dry 10 = .ok (.iload_n 1, 1) := by decide +kernel
theorem dX10_dry_11 : decode cX10_dry 11 = .ok (.invokestatic 102, 3) := by decide +kernel
theorem dX10_dry_14 : decode cX10_dry 14 = .ok (.ifCond .eq 19, 3) := by decide +kernel
theorem dX10_dry_17 : decode cX10_dry 17 = .ok (.aload_n 0, 1) := by decide +kernel
theorem dX10_dry_18 : decode cX10_dry 18 = .ok (.getfield 12, 3) := by decide +kernel
theorem dX10_dry_21 : decode cX10_dry 21 = .ok (.getfield 60, 3) := by decide +kernel
theorem dX10_dry_24 : decode cX10_dry 24 = .ok (.getfield 109, 3) := by decide +kernel
theorem dX10_dry_27 : decode cX10_dry 27 = .ok (.iload_n 1, 1) := by decide +kernel
theorem dX10_dry_28 : decode cX10_dry 28 = .ok (.iaload, 1) := by decide +kernel
theorem dX10_dry_29 : decode cX10_dry 29 = .ok (.iload_n 3, 1) := by decide +kernel
theorem dX10_dry_30 : decode cX10_dry 30 = .ok (.if_icmp .ne 5, 3) := by decide +kernel
theorem dX10_dry_33 : decode cX10_dry 33 = .ok (.iconst 0, 1) := by decide +kernel
theorem dX10_dry_34 : decode cX10_dry 34 = .ok (.ireturn, 1) := by decide +kernel
theorem dX10_dry_35 : decode cX10_dry 35 = .ok (.aload_n 0, 1) := by decide +kernel
theorem dX10_dry_36 : decode cX10_dry 36 = .ok (.getfield 12, 3) := by decide +kernel
theorem dX10_dry_39 : decode cX10_dry 39 = .ok (.getfield 60, 3) := by decide +kernel
theorem dX10_dry_42 : decode cX10_dry 42 = .ok (.getfield 109, 3) := by decide +kernel
theorem dX10_dry_45 : decode cX10_dry 45 = .ok (.iload_n 1, 1) := by decide +kernel
theorem dX10_dry_46 : decode cX10_dry 46 = .ok (.iload_n 3, 1) := by decide +kernel
theorem dX10_dry_47 : decode cX10_dry 47 = .ok (.iastore, 1) := by decide +kernel
theorem dX10_dry_48 : decode cX10_dry 48 = .ok (.iconst 1, 1) := by decide +kernel
theorem dX10_dry_49 : decode cX10_dry 49 = .ok (.ireturn, 1) := by decide +kernel
theorem dX10_week_0 : decode cX10_week 0 = .ok (.iload_n 1, 1) := by decide +kernel
theorem dX10_week_1 : decode cX10_week 1 = .ok (.aload_n 0, 1) := by decide +kernel
theorem dX10_week_2 : decode cX10_week 2 = .ok (.getfield 12, 3) := by decide +kernel
theorem dX10_week_5 : decode cX10_week 5 = .ok (.getfield 92, 3) := by decide +kernel
theorem dX10_week_8 : decode cX10_week 8 = .ok (.if_icmp .lt 9, 3) := by decide +kernel
theorem dX10_week_11 : decode cX10_week 11 = .ok (.iload_n 1, 1) := by decide +kernel
theorem dX10_week_12 : decode cX10_week 12 = .ok (.bipush 99, 2) := by decide +kernel
theorem dX10_week_14 : decode cX10_week 14 = .ok (.if_icmp .le 5, 3) := by decide +kernel
theorem dX10_week_17 : decode cX10_week 17 = .ok (.iconst 0, 1) := by decide +kernel
theorem dX10_week_18 : decode cX10_week 18 = .ok (.ireturn, 1) := by decide +kernel
theorem dX10_week_19 : decode cX10_week 19 = .ok (.aload_n 0, 1) := by decide +kernel
theorem dX10_week_20 : decode cX10_week 20 = .ok (.getfield 12, 3) := by decide +kernel
theorem dX10_week_23 : decode cX10_week 23 = .ok (.iload_n 1, 1) := by decide +kernel
theorem dX10_week_24 : decode cX10_week 24 = .ok (.putfield 92, 3) := by decide +kernel
theorem dX10_week_27 : decode cX10_week 27 = .ok (.iconst 1, 1) := by decide +kernel
theorem dX10_week_28 : decode cX10_week 28 = .ok (.ireturn, 1) := by decide +kernel
theorem dX10_view_0 : decode cX10_view 0 = .ok (.iload_n 1, 1) := by decide +kernel
theorem dX10_view_1 : decode cX10_view 1 = .ok (.iconst (-1), 1) := by decide +kernel
theorem dX10_view_2 : decode cX10_view 2 = .ok (.if_icmp .eq 13, 3) := by decide +kernel
theorem dX10_view_5 : decode cX10_view 5 = .ok (.aload_n 0, 1) := by decide +kernel
theorem dX10_view_6 : decode cX10_view 6 = .ok (.iload_n 1, 1) := by decide +kernel
theorem dX10_view_7 : decode cX10_view 7 = .ok (.invokevirtual 112, 3) := by decide +kernel
theorem dX10_view_10 : decode cX10_view 10 = .ok (.ifCond .ne 5, 3) := by decide +kernel
theorem dX10_view_13 : decode cX10_view 13 = .ok (.iconst 0, 1) := by decide +kernel
theorem dX10_view_14 : decode cX10_view 14 = .ok (.ireturn, 1) := by decide +kernel
theorem dX10_view_15 : decode cX10_view 15 = .ok (.aload_n 0, 1) := by decide +kernel
theorem dX10_view_16 : decode cX10_view 16 = .ok (.getfield 12, 3) := by decide +kernel
theorem dX10_view_19 : decode cX10_view 19 = .ok (.iload_n 1, 1) := by decide +kernel
theorem dX10_view_20 : decode cX10_view 20 = .ok (.putfield 115, 3) := by decide +kernel
theorem dX10_view_23 : decode cX10_view 23 = .ok (.iconst 1, 1) := by decide +kernel
theorem dX10_view_24 : decode cX10_view 24 = .ok (.ireturn, 1) := by decide +kernel
theorem dX10_news_0 : decode cX10_news 0 = .ok (.aload_n 0, 1) := by decide +kernel
theorem dX10_news_1 : decode cX10_news 1 = .ok (.getfield 12, 3) := by decide +kernel
theorem dX10_news_4 : decode cX10_news 4 = .ok (.getfield 88, 3) := by decide +kernel
theorem dX10_news_7 : decode cX10_news 7 = .ok (.astore 5, 2) := by decide +kernel
theorem dX10_news_9 : decode cX10_news 9 = .ok (.aload 5, 2) := by decide +kernel
theorem dX10_news_11 : decode cX10_news 11 = .ok (.iload_n 1, 1) := by decide +kernel
theorem dX10_news_12 : decode cX10_news 12 = .ok (.invokevirtual 118, 3) := by decide +kernel
theorem dX10_news_15 : decode cX10_news 15 = .ok (.ifCond .eq 36, 3) := by decide +kernel
theorem dX10_news_18 : decode cX10_news 18 = .ok (.aload_n 0, 1) := by decide +kernel
theorem dX10_news_19 : decode cX10_news 19 = .ok (.getfield 12, 3) := by decide +kernel
theorem dX10_news_22 : decode cX10_news 22 = .ok (.getfield 60, 3) := by decide +kernel
theorem dX10_news_25 : decode cX10_news 25 = .ok (.iload_n 2, 1) := by decide +kernel
theorem dX10_news_26 : decode cX10_news 26 = .ok (.invokevirtual 73, 3) := by decide +kernel
theorem dX10_news_29 : decode cX10_news 29 = .ok (.ifCond .eq 22, 3) := by decide +kernel
theorem dX10_news_32 : decode cX10_news 32 = .ok (.aload_n 0, 1) := by decide +kernel
theorem dX10_news_33 : decode cX10_news 33 = .ok (.iload_n 3, 1) := by decide +kernel
theorem dX10_news_34 : decode cX10_news 34 = .ok (.invokevirtual 112, 3) := by decide +kernel
theorem dX10_news_37 : decode cX10_news 37 = .ok (.ifCond .eq 14, 3) := by decide +kernel
theorem dX10_news_40 : decode cX10_news 40 = .ok (.iload_n 3, 1) := by decide +kernel
theorem dX10_news_41 : decode cX10_news 41 = .ok (.aload 5, 2) := by decide +kernel
theorem dX10_news_43 : decode cX10_news 43 = .ok (.getfield 121, 3) := by decide +kernel
theorem dX10_news_46 : decode cX10_news 46 = .ok (.iload_n 1, 1) := by decide +kernel
theorem dX10_news_47 : decode cX10_news 47 = .ok (.iaload, 1) := by decide +kernel
theorem dX10_news_48 : decode cX10_news 48 = .ok (.if_icmp .ge 5, 3) := by decide +kernel
theorem dX10_news_51 : decode cX10_news 51 = .ok (.iconst (-1), 1) := by decide +kernel
theorem dX10_news_52 : decode cX10_news 52 = .ok (.ireturn, 1) := by decide +kernel
theorem dX10_news_53 : decode cX10_news 53 = .ok (.aload_n 0, 1) := by decide +kernel
theorem dX10_news_54 : decode cX10_news 54 = .ok (.invokevirtual 85, 3) := by decide +kernel
theorem dX10_news_57 : decode cX10_news 57 = .ok (.aload 5, 2) := by decide +kernel
theorem dX10_news_59 : decode cX10_news 59 = .ok (.iload_n 1, 1) := by decide +kernel
theorem dX10_news_60 : decode cX10_news 60 = .ok (.iload_n 2, 1) := by decide +kernel
theorem dX10_news_61 : decode cX10_news 61 = .ok (.iload_n 3, 1) := by decide +kernel
theorem dX10_news_62 : decode cX10_news 62 = .ok (.iload 4, 2) := by decide +kernel
theorem dX10_news_64 : decode cX10_news 64 = .ok (.aload_n 0, 1) := by decide +kernel
theorem dX10_news_65 : decode cX10_news 65 = .ok (.getfield 12, 3) := by decide +kernel
theorem dX10_news_68 : decode cX10_news 68 = .ok (.getfield 92, 3) := by decide +kernel
theorem dX10_news_71 : decode cX10_news 71 = .ok (.invokevirtual 124, 3) := by decide +kernel
theorem dX10_news_74 : decode cX10_news 74 = .ok (.ireturn, 1) := by decide +kernel
theorem dX10_parts_0 : decode cX10_parts 0 = .ok (.aload_n 0, 1) := by decide +kernel
theorem dX10_parts_1 : decode cX10_parts 1 = .ok (.iload_n 1, 1) := by decide +kernel
theorem dX10_parts_2 : decode cX10_parts 2 = .ok (.iload_n 3, 1) := by decide +kernel
theorem dX10_parts_3 : decode cX10_parts 3 = .ok (.invokevirtual 128, 3) := by decide +kernel
theorem dX10_parts_6 : decode cX10_parts 6 = .ok (.ifCond .eq 17, 3) := by decide +kernel
theorem dX10_parts_9 : decode cX10_parts 9 = .ok (.aload_n 0, 1) := by decide +kernel
theorem dX10_parts_10 : decode cX10_parts 10 = .ok (.getfield 12, 3) := by decide +kernel
theorem dX10_parts_13 : decode cX10_parts 13 = .ok (.getfield 60, 3) := by decide +kernel
theorem dX10_parts_16 : decode cX10_parts 16 = .ok (.iload_n 2, 1) := by decide +kernel
theorem dX10_parts_17 : decode cX10_parts 17 = .ok (.invokevirtual 73, 3) := by decide +kernel
theorem dX10_parts_20 : decode cX10_parts 20 = .ok (.ifCond .ne 5, 3) := by decide +kernel
theorem dX10_parts_23 : decode cX10_parts 23 = .ok (.iconst (-1), 1) := by decide +kernel
theorem dX10_parts_24 : decode cX10_parts 24 = .ok (.ireturn, 1) := by decide +kernel
theorem dX10_parts_25 : decode cX10_parts 25 = .ok (.aload_n 0, 1) := by decide +kernel
theorem dX10_parts_26 : decode cX10_parts 26 = .ok (.aload_n 0, 1) := by decide +kernel
theorem dX10_parts_27 : decode cX10_parts 27 = .ok (.invokevirtual 132, 3) := by decide +kernel
theorem dX10_parts_30 : decode cX10_parts 30 = .ok (.invokevirtual 136, 3) := by decide +kernel
theorem dX10_parts_33 : decode cX10_parts 33 = .ok (.astore 4, 2) := by decide +kernel
theorem dX10_parts_35 : decode cX10_parts 35 = .ok (.aload 4, 2) := by decide +kernel
theorem dX10_parts_37 : decode cX10_parts 37 = .ok (.aload_n 0, 1) := by decide +kernel
theorem dX10_parts_38 : decode cX10_parts 38 = .ok (.getfield 12, 3) := by decide +kernel
theorem dX10_parts_41 : decode cX10_parts 41 = .ok (.iload_n 1, 1) := by decide +kernel
theorem dX10_parts_42 : decode cX10_parts 42 = .ok (.iload_n 3, 1) := by decide +kernel
theorem dX10_parts_43 : decode cX10_parts 43 = .ok (.invokevirtual 140, 3) := by decide +kernel
theorem dX10_parts_46 : decode cX10_parts 46 = .ok (.aload 4, 2) := by decide +kernel
theorem dX10_parts_48 : decode cX10_parts 48 = .ok (.iload_n 1, 1) := by decide +kernel
theorem dX10_parts_49 : decode cX10_parts 49 = .ok (.iload_n 2, 1) := by decide +kernel
theorem dX10_parts_50 : decode cX10_parts 50 = .ok (.iload_n 3, 1) := by decide +kernel
theorem dX10_parts_51 : decode cX10_parts 51 = .ok (.invokevirtual 144, 3) := by decide +kernel
theorem dX10_parts_54 : decode cX10_parts 54 = .ok (.ireturn, 1) := by decide +kernel
theorem dX10_likeliest_0 : decode cX10_likeliest 0 = .ok (.aload_n 0, 1) := by decide +kernel
theorem dX10_likeliest_1 : decode cX10_likeliest 1 = .ok (.iload_n 1, 1) := by decide +kernel
theorem dX10_likeliest_2 : decode cX10_likeliest 2 = .ok (.iload_n 2, 1) := by decide +kernel
theorem dX10_likeliest_3 : decode cX10_likeliest 3 = .ok (.invokevirtual 128, 3) := by decide +kernel
theorem dX10_likeliest_6 : decode cX10_likeliest 6 = .ok (.ifCond .eq 23, 3) := by decide +kernel
theorem dX10_likeliest_9 : decode cX10_likeliest 9 = .ok (.aload_n 0, 1) := by decide +kernel
theorem dX10_likeliest_10 : decode cX10_likeliest 10 = .ok (.aload_n 0, 1) := by decide +kernel
theorem dX10_likeliest_11 : decode cX10_likeliest 11 = .ok (.invokevirtual 132, 3) := by decide +kernel
theorem dX10_likeliest_14 : decode cX10_likeliest 14 = .ok (.invokevirtual 136, 3) := by decide +kernel
theorem dX10_likeliest_17 : decode cX10_likeliest 17 = .ok (.aload_n 0, 1) := by decide +kernel
theorem dX10_likeliest_18 : decode cX10_likeliest 18 = .ok (.getfield 12, 3) := by decide +kernel
theorem dX10_likeliest_21 : decode cX10_likeliest 21 = .ok (.iload_n 1, 1) := by decide +kernel
theorem dX10_likeliest_22 : decode cX10_likeliest 22 = .ok (.iload_n 2, 1) := by decide +kernel
theorem dX10_likeliest_23 : decode cX10_likeliest 23 = .ok (.invokevirtual 147, 3) := by decide +kernel
theorem dX10_likeliest_26 : decode cX10_likeliest 26 = .ok (.goto 4, 3) := by decide +kernel
theorem dX10_likeliest_29 : decode cX10_likeliest 29 = .ok (.iconst (-1), 1) := by decide +kernel
theorem dX10_likeliest_30 : decode cX10_likeliest 30 = .ok (.ireturn, 1) := by decide +kernel
theorem dX10_quarrel_0 : decode cX10_quarrel 0 = .ok (.aload_n 0, 1) := by decide +kernel
theorem dX10_quarrel_1 : decode cX10_quarrel 1 = .ok (.getfield 12, 3) := by decide +kernel
theorem dX10_quarrel_4 : decode cX10_quarrel 4 = .ok (.getfield 88, 3) := by decide +kernel
theorem dX10_quarrel_7 : decode cX10_quarrel 7 = .ok (.iload_n 1, 1) := by decide +kernel
theorem dX10_quarrel_8 : decode cX10_quarrel 8 = .ok (.invokevirtual 118, 3) := by decide +kernel
theorem dX10_quarrel_11 : decode cX10_quarrel 11 = .ok (.ifCond .eq 23, 3) := by decide +kernel
theorem dX10_quarrel_14 : decode cX10_quarrel 14 = .ok (.aload_n 0, 1) := by decide +kernel
theorem dX10_quarrel_15 : decode cX10_quarrel 15 = .ok (.aload_n 0, 1) := by decide +kernel
theorem dX10_quarrel_16 : decode cX10_quarrel 16 = .ok (.invokevirtual 132, 3) := by decide +kernel
theorem dX10_quarrel_19 : decode cX10_quarrel 19 = .ok (.invokevirtual 136, 3) := by decide +kernel
theorem dX10_quarrel_22 : decode cX10_quarrel 22 = .ok (.aload_n 0, 1) := by decide +kernel
theorem dX10_quarrel_23 : decode cX10_quarrel 23 = .ok (.getfield 12, 3) := by decide +kernel
theorem dX10_quarrel_26 : decode cX10_quarrel 26 = .ok (.iload_n 1, 1) := by decide +kernel
theorem dX10_quarrel_27 : decode cX10_quarrel 27 = .ok (.iload_n 2, 1) := by decide +kernel
theorem dX10_quarrel_28 : decode cX10_quarrel 28 = .ok (.invokevirtual 151, 3) := by decide +kernel
theorem dX10_quarrel_31 : decode cX10_quarrel 31 = .ok (.goto 4, 3) := by decide +kernel
theorem dX10_quarrel_34 : decode cX10_quarrel 34 = .ok (.iconst (-1), 1) := by decide +kernel
theorem dX10_quarrel_35 : decode cX10_quarrel 35 = .ok (.ireturn, 1) := by decide +kernel
theorem dX10_book_0 : decode cX10_book 0 = .ok (.iload_n 1, 1) := by decide +kernel
theorem dX10_book_1 : decode cX10_book 1 = .ok (.iconst 0, 1) := by decide +kernel
theorem dX10_book_2 : decode cX10_book 2 = .ok (.bipush 7, 2) := by decide +kernel
theorem dX10_book_4 : decode cX10_book 4 = .ok (.invokestatic 77, 3) := by decide +kernel
theorem dX10_book_7 : decode cX10_book 7 = .ok (.ifCond .eq 46, 3) := by decide +kernel
theorem dX10_book_10 : decode cX10_book 10 = .ok (.iload_n 2, 1) := by decide +kernel
theorem dX10_book_11 : decode cX10_book 11 = .ok (.iconst 0, 1) := by decide +kernel
theorem dX10_book_12 : decode cX10_book 12 = .ok (.iconst 3, 1) := by decide +kernel
theorem dX10_book_13 : decode cX10_book 13 = .ok (.invokestatic 77, 3) := by decide +kernel
theorem dX10_book_16 : decode cX10_book 16 = .ok (.ifCond .eq 37, 3) := by decide +kernel
theorem dX10_book_19 : decode cX10_book 19 = .ok (.iload_n 3, 1) := by decide +kernel
theorem dX10_book_20 : decode cX10_book 20 = .ok (.iconst 0, 1) := by decide +kernel
theorem dX10_book_21 : decode cX10_book 21 = .ok (.bipush 9, 2) := by decide +kernel
theorem dX10_book_23 : decode cX10_book 23 = .ok (.invokestatic 77, 3) := by decide +kernel
theorem dX10_book_26 : decode cX10_book 26 = .ok (.ifCond .eq 27, 3) := by decide +kernel
theorem dX10_book_29 : decode cX10_book 29 = .ok (.iload 4, 2) := by decide +kernel
theorem dX10_book_31 : decode cX10_book 31 = .ok (.iconst 1, 1) := by decide +kernel
theorem dX10_book_32 : decode cX10_book 32 = .ok (.sipush 400, 3) := by decide +kernel
theorem dX10_book_35 : decode cX10_book 35 = .ok (.invokestatic 77, 3) := by decide +kernel
theorem dX10_book_38 : decode cX10_book 38 = .ok (.ifCond .eq 15, 3) := by decide +kernel
theorem dX10_book_41 : decode cX10_book 41 = .ok (.iload 5, 2) := by decide +kernel
theorem dX10_book_43 : decode cX10_book 43 = .ok (.iconst 1, 1) := by decide +kernel
theorem dX10_book_44 : decode cX10_book 44 = .ok (.sipush 2000, 3) := by decide +kernel
theorem dX10_book_47 : decode cX10_book 47 = .ok (.invokestatic 77, 3) := by decide +kernel
theorem dX10_book_50 : decode cX10_book 50 = .ok (.ifCond .ne 5, 3) := by decide +kernel
theorem dX10_book_53 : decode cX10_book 53 = .ok (.iconst (-1), 1) := by decide +kernel
theorem dX10_book_54 : decode cX10_book 54 = .ok (.ireturn, 1) := by decide +kernel
theorem dX10_book_55 : decode cX10_book 55 = .ok (.aload_n 0, 1) := by decide +kernel
theorem dX10_book_56 : decode cX10_book 56 = .ok (.getfield 12, 3) := by decide +kernel
theorem dX10_book_59 : decode cX10_book 59 = .ok (.getfield 154, 3) := by decide +kernel
theorem dX10_book_62 : decode cX10_book 62 = .ok (.iload_n 1, 1) := by decide +kernel
theorem dX10_book_63 : decode cX10_book 63 = .ok (.iload_n 2, 1) := by decide +kernel
theorem dX10_book_64 : decode cX10_book 64 = .ok (.iload_n 3, 1) := by decide +kernel
theorem dX10_book_65 : decode cX10_book 65 = .ok (.iload 4, 2) := by decide +kernel
theorem dX10_book_67 : decode cX10_book 67 = .ok (.iload 5, 2) := by decide +kernel
theorem dX10_book_69 : decode cX10_book 69 = .ok (.invokevirtual 158, 3) := by decide +kernel
theorem dX10_book_72 : decode cX10_book 72 = .ok (.ireturn, 1) := by decide +kernel
theorem dX10_lend_0 : decode cX10_lend 0 = .ok (.aload_n 0, 1) := by decide +kernel
theorem dX10_lend_1 : decode cX10_lend 1 = .ok (.getfield 12, 3) := by decide +kernel
theorem dX10_lend_4 : decode cX10_lend 4 = .ok (.getfield 154, 3) := by decide +kernel
theorem dX10_lend_7 : decode cX10_lend 7 = .ok (.astore_n 3, 1) := by decide +kernel
theorem dX10_lend_8 : decode cX10_lend 8 = .ok (.aload_n 0, 1) := by decide +kernel
theorem dX10_lend_9 : decode cX10_lend 9 = .ok (.getfield 12, 3) := by decide +kernel
theorem dX10_lend_12 : decode cX10_lend 12 = .ok (.getfield 92, 3) := by decide +kernel
theorem dX10_lend_15 : decode cX10_lend 15 = .ok (.istore 4, 2) := by decide +kernel
theorem dX10_lend_17 : decode cX10_lend 17 = .ok (.aload_n 3, 1) := by decide +kernel
theorem dX10_lend_18 : decode cX10_lend 18 = .ok (.invokevirtual 164, 3) := by decide +kernel
theorem dX10_lend_21 : decode cX10_lend 21 = .ok (.ifCond .eq 38, 3) := by decide +kernel
theorem dX10_lend_24 : decode cX10_lend 24 = .ok (.aload_n 3, 1) := by decide +kernel
theorem dX10_lend_25 : decode cX10_lend 25 = .ok (.iload_n 1, 1) := by decide +kernel
theorem dX10_lend_26 : decode cX10_lend 26 = .ok (.invokevirtual 168, 3) := by decide +kernel
theorem dX10_lend_29 : decode cX10_lend 29 = .ok (.ifCond .eq 30, 3) := by decide +kernel
theorem dX10_lend_32 : decode cX10_lend 32 = .ok (.aload_n 0, 1) := by decide +kernel
theorem dX10_lend_33 : decode cX10_lend 33 = .ok (.getfield 12, 3) := by decide +kernel
theorem dX10_lend_36 : decode cX10_lend 36 = .ok (.getfield 88, 3) := by decide +kernel
theorem dX10_lend_39 : decode cX10_lend 39 = .ok (.iload_n 2, 1) := by decide +kernel
theorem dX10_lend_40 : decode cX10_lend 40 = .ok (.invokevirtual 118, 3) := by decide +kernel
theorem dX10_lend_43 : decode cX10_lend 43 = .ok (.ifCond .eq 16, 3) := by decide +kernel
theorem dX10_lend_46 : decode cX10_lend 46 = .ok (.aload_n 3, 1) := by decide +kernel
theorem dX10_lend_47 : decode cX10_lend 47 = .ok (.iload_n 1, 1) := by decide +kernel
theorem dX10_lend_48 : decode cX10_lend 48 = .ok (.iload 4, 2) := by decide +kernel
theorem dX10_lend_50 : decode cX10_lend 50 = .ok (.bipush 99, 2) := by decide +kernel
theorem dX10_lend_52 : decode cX10_lend 52 = .ok (.invokevirtual 171, 3) := by decide +kernel
theorem dX10_lend_55 : decode cX10_lend 55 = .ok (.iconst (-1), 1) := by decide +kernel
theorem dX10_lend_56 : decode cX10_lend 56 = .ok (.if_icmp .eq 5, 3) := by decide +kernel
theorem dX10_lend_59 : decode cX10_lend 59 = .ok (.iconst (-1), 1) := by decide +kernel
theorem dX10_lend_60 : decode cX10_lend 60 = .ok (.ireturn, 1) := by decide +kernel
theorem dX10_lend_61 : decode cX10_lend 61 = .ok (.aload_n 0, 1) := by decide +kernel
theorem dX10_lend_62 : decode cX10_lend 62 = .ok (.iload_n 2, 1) := by decide +kernel
theorem dX10_lend_63 : decode cX10_lend 63 = .ok (.iload 4, 2) := by decide +kernel
theorem dX10_lend_65 : decode cX10_lend 65 = .ok (.bipush 99, 2) := by decide +kernel
theorem dX10_lend_67 : decode cX10_lend 67 = .ok (.invokevirtual 174, 3) := by decide +kernel
theorem dX10_lend_70 : decode cX10_lend 70 = .ok (.aload_n 0, 1) := by decide +kernel
theorem dX10_lend_71 : decode cX10_lend 71 = .ok (.iload_n 2, 1) := by decide +kernel
theorem dX10_lend_72 : decode cX10_lend 72 = .ok (.iload_n 1, 1) := by decide +kernel
theorem dX10_lend_73 : decode cX10_lend 73 = .ok (.iload 4, 2) := by decide +kernel
theorem dX10_lend_75 : decode cX10_lend 75 = .ok (.bipush 99, 2) := by decide +kernel
theorem dX10_lend_77 : decode cX10_lend 77 = .ok (.invokevirtual 177, 3) := by decide +kernel
theorem dX10_lend_80 : decode cX10_lend 80 = .ok (.aload_n 0, 1) := by decide +kernel
theorem dX10_lend_81 : decode cX10_lend 81 = .ok (.getfield 12, 3) := by decide +kernel
theorem dX10_lend_84 : decode cX10_lend 84 = .ok (.getfield 181, 3) := by decide +kernel
theorem dX10_lend_87 : decode cX10_lend 87 = .ok (.iconst 0, 1) := by decide +kernel
theorem dX10_lend_88 : decode cX10_lend 88 = .ok (.aload_n 0, 1) := by decide +kernel
theorem dX10_lend_89 : decode cX10_lend 89 = .ok (.getfield 53, 3) := by decide +kernel
theorem dX10_lend_92 : decode cX10_lend 92 = .ok (.invokevirtual 185, 3) := by decide +kernel
theorem dX10_lend_95 : decode cX10_lend 95 = .ok (.iconst (-1), 1) := by decide +kernel
theorem dX10_lend_96 : decode cX10_lend 96 = .ok (.if_icmp .eq 5, 3) := by decide +kernel
theorem dX10_lend_99 : decode cX10_lend 99 = .ok (.iconst (-1), 1) := by decide +kernel
theorem dX10_lend_100 : decode cX10_lend 100 = .ok (.ireturn, 1) := by decide +kernel
theorem dX10_lend_101 : decode cX10_lend 101 = .ok (.aload_n 0, 1) := by decide +kernel
theorem dX10_lend_102 : decode cX10_lend 102 = .ok (.getfield 12, 3) := by decide +kernel
theorem dX10_lend_105 : decode cX10_lend 105 = .ok (.getfield 181, 3) := by decide +kernel
theorem dX10_lend_108 : decode cX10_lend 108 = .ok (.iconst 1, 1) := by decide +kernel
theorem dX10_lend_109 : decode cX10_lend 109 = .ok (.aload_n 0, 1) := by decide +kernel
theorem dX10_lend_110 : decode cX10_lend 110 = .ok (.getfield 53, 3) := by decide +kernel
theorem dX10_lend_113 : decode cX10_lend 113 = .ok (.iconst 4, 1) := by decide +kernel
theorem dX10_lend_114 : decode cX10_lend 114 = .ok (.invokevirtual 191, 3) := by decide +kernel
theorem dX10_lend_117 : decode cX10_lend 117 = .ok (.istore 5, 2) := by decide +kernel
theorem dX10_lend_119 : decode cX10_lend 119 = .ok (.aload_n 3, 1) := by decide +kernel
theorem dX10_lend_120 : decode cX10_lend 120 = .ok (.iload_n 1, 1) := by decide +kernel
theorem dX10_lend_121 : decode cX10_lend 121 = .ok (.iconst 0, 1) := by decide +kernel
theorem dX10_lend_122 : decode cX10_lend 122 = .ok (.iload_n 2, 1) := by decide +kernel
theorem dX10_lend_123 : decode cX10_lend 123 = .ok (.iload 4, 2) := by decide +kernel
theorem dX10_lend_125 : decode cX10_lend 125 = .ok (.iload 4, 2) := by decide +kernel
theorem dX10_lend_127 : decode cX10_lend 127 = .ok (.iload 5, 2) := by decide +kernel
theorem dX10_lend_129 : decode cX10_lend 129 = .ok (.iconst 0, 1) := by decide +kernel
theorem dX10_lend_130 : decode cX10_lend 130 = .ok (.invokevirtual 195, 3) := by decide +kernel
theorem dX10_lend_133 : decode cX10_lend 133 = .ok (.ireturn, 1) := by decide +kernel
theorem dX10_pass_0 : decode cX10_pass 0 = .ok (.aload_n 0, 1) := by decide +kernel
theorem dX10_pass_1 : decode cX10_pass 1 = .ok (.getfield 12, 3) := by decide +kernel
theorem dX10_pass_4 : decode cX10_pass 4 = .ok (.getfield 154, 3) := by decide +kernel
theorem dX10_pass_7 : decode cX10_pass 7 = .ok (.astore 4, 2) := by decide +kernel
theorem dX10_pass_9 : decode cX10_pass 9 = .ok (.aload 4, 2) := by decide +kernel
theorem dX10_pass_11 : decode cX10_pass 11 = .ok (.invokevirtual 164, 3) := by decide +kernel
theorem dX10_pass_14 : decode cX10_pass 14 = .ok (.ifCond .eq 34, 3) := by decide +kernel
theorem dX10_pass_17 : decode cX10_pass 17 = .ok (.aload 4, 2) := by decide +kernel
theorem dX10_pass_19 : decode cX10_pass 19 = .ok (.iload_n 1, 1) := by decide +kernel
theorem dX10_pass_20 : decode cX10_pass 20 = .ok (.invokevirtual 168, 3) := by decide +kernel
theorem dX10_pass_23 : decode cX10_pass 23 = .ok (.ifCond .eq 25, 3) := by decide +kernel
theorem dX10_pass_26 : decode cX10_pass 26 = .ok (.aload_n 0, 1) := by decide +kernel
theorem dX10_pass_27 : decode cX10_pass 27 = .ok (.getfield 12, 3) := by decide +kernel
theorem dX10_pass_30 : decode cX10_pass 30 = .ok (.getfield 88, 3) := by decide +kernel
theorem dX10_pass_33 : decode cX10_pass 33 = .ok (.iload_n 2, 1) := by decide +kernel
theorem dX10_pass_34 : decode cX10_pass 34 = .ok (.invokevirtual 118, 3) := by decide +kernel
theorem dX10_pass_37 : decode cX10_pass 37 = .ok (.ifCond .eq 11, 3) := by decide +kernel
theorem dX10_pass_40 : decode cX10_pass 40 = .ok (.aload_n 0, 1) := by decide +kernel
theorem dX10_pass_41 : decode cX10_pass 41 = .ok (.iload_n 3, 1) := by decide +kernel
theorem dX10_pass_42 : decode cX10_pass 42 = .ok (.invokevirtual 112, 3) := by decide +kernel
theorem dX10_pass_45 : decode cX10_pass 45 = .ok (.ifCond .ne 5, 3) := by decide +kernel
theorem dX10_pass_48 : decode cX10_pass 48 = .ok (.iconst (-1), 1) := by decide +kernel
theorem dX10_pass_49 : decode cX10_pass 49 = .ok (.ireturn, 1) := by decide +kernel
theorem dX10_pass_50 : decode cX10_pass 50 = .ok (.aload 4, 2) := by decide +kernel
theorem dX10_pass_52 : decode cX10_pass 52 = .ok (.iload_n 1, 1) := by decide +kernel
theorem dX10_pass_53 : decode cX10_pass 53 = .ok (.iload_n 3, 1) := by decide +kernel
theorem dX10_pass_54 : decode cX10_pass 54 = .ok (.bipush 99, 2) := by decide +kernel
theorem dX10_pass_56 : decode cX10_pass 56 = .ok (.invokevirtual 171, 3) := by decide +kernel
theorem dX10_pass_59 : decode cX10_pass 59 = .ok (.istore 5, 2) := by decide +kernel
theorem dX10_pass_61 : decode cX10_pass 61 = .ok (.iload 5, 2) := by decide +kernel
theorem dX10_pass_63 : decode cX10_pass 63 = .ok (.iconst (-1), 1) := by decide +kernel
theorem dX10_pass_64 : decode cX10_pass 64 = .ok (.if_icmp .eq 9, 3) := by decide +kernel
theorem dX10_pass_67 : decode cX10_pass 67 = .ok (.iload 5, 2) := by decide +kernel
theorem dX10_pass_69 : decode cX10_pass 69 = .ok (.iload_n 2, 1) := by decide +kernel
theorem dX10_pass_70 : decode cX10_pass 70 = .ok (.if_icmp .ne 5, 3) := by decide +kernel
theorem dX10_pass_73 : decode cX10_pass 73 = .ok (.iconst (-1), 1) := by decide +kernel
theorem dX10_pass_74 : decode cX10_pass 74 = .ok (.ireturn, 1) := by decide +kernel
theorem dX10_pass_75 : decode cX10_pass 75 = .ok (.aload 4, 2) := by decide +kernel
theorem dX10_pass_77 : decode cX10_pass 77 = .ok (.iload_n 1, 1) := by decide +kernel
theorem dX10_pass_78 : decode cX10_pass 78 = .ok (.iconst 1, 1) := by decide +kernel
theorem dX10_pass_79 : decode cX10_pass 79 = .ok (.iload_n 2, 1) := by decide +kernel
theorem dX10_pass_80 : decode cX10_pass 80 = .ok (.iload_n 3, 1) := by decide +kernel
theorem dX10_pass_81 : decode cX10_pass 81 = .ok (.aload_n 0, 1) := by decide +kernel
theorem dX10_pass_82 : decode cX10_pass 82 = .ok (.getfield 12, 3) := by decide +kernel
theorem dX10_pass_85 : decode cX10_pass 85 = .ok (.getfield 92, 3) := by decide +kernel
theorem dX10_pass_88 : decode cX10_pass 88 = .ok (.iconst 0, 1) := by decide +kernel
theorem dX10_pass_89 : decode cX10_pass 89 = .ok (.iconst 0, 1) := by decide +kernel
theorem dX10_pass_90 : decode cX10_pass 90 = .ok (.invokevirtual 195, 3) := by decide +kernel
theorem dX10_pass_93 : decode cX10_pass 93 = .ok (.ireturn, 1) := by decide +kernel
theorem dX10_back_0 : decode cX10_back 0 = .ok (.aload_n 0, 1) := by decide +kernel
theorem dX10_back_1 : decode cX10_back 1 = .ok (.getfield 12, 3) := by decide +kernel
theorem dX10_back_4 : decode cX10_back 4 = .ok (.getfield 154, 3) := by decide +kernel
theorem dX10_back_7 : decode cX10_back 7 = .ok (.astore_n 2, 1) := by decide +kernel
theorem dX10_back_8 : decode cX10_back 8 = .ok (.aload_n 0, 1) := by decide +kernel
theorem dX10_back_9 : decode cX10_back 9 = .ok (.getfield 12, 3) := by decide +kernel
theorem dX10_back_12 : decode cX10_back 12 = .ok (.getfield 92, 3) := by decide +kernel
theorem dX10_back_15 : decode cX10_back 15 = .ok (.istore_n 3, 1) := by decide +kernel
theorem dX10_back_16 : decode cX10_back 16 = .ok (.aload_n 2, 1) := by decide +kernel
theorem dX10_back_17 : decode cX10_back 17 = .ok (.invokevirtual 164, 3) := by decide +kernel
theorem dX10_back_20 : decode cX10_back 20 = .ok (.ifCond .eq 23, 3) := by decide +kernel
theorem dX10_back_23 : decode cX10_back 23 = .ok (.aload_n 2, 1) := by decide +kernel
theorem dX10_back_24 : decode cX10_back 24 = .ok (.iload_n 1, 1) := by decide +kernel
theorem dX10_back_25 : decode cX10_back 25 = .ok (.invokevirtual 168, 3) := by decide +kernel
theorem dX10_back_28 : decode cX10_back 28 = .ok (.ifCond .eq 15, 3) := by decide +kernel
theorem dX10_back_31 : decode cX10_back 31 = .ok (.aload_n 2, 1) := by decide +kernel
theorem dX10_back_32 : decode cX10_back 32 = .ok (.iload_n 1, 1) := by decide +kernel
theorem dX10_back_33 : decode cX10_back 33 = .ok (.iload_n 3, 1) := by decide +kernel
theorem dX10_back_34 : decode cX10_back 34 = .ok (.bipush 99, 2) := by decide +kernel
theorem dX10_back_36 : decode cX10_back 36 = .ok (.invokevirtual 171, 3) := by decide +kernel
theorem dX10_back_39 : decode cX10_back 39 = .ok (.iconst (-1), 1) := by decide +kernel
theorem dX10_back_40 : decode cX10_back 40 = .ok (.if_icmp .ne 5, 3) := by decide +kernel
theorem dX10_back_43 : decode cX10_back 43 = .ok (.iconst (-1), 1) := by decide +kernel
theorem dX10_back_44 : decode cX10_back 44 = .ok (.ireturn, 1) := by decide +kernel
theorem dX10_back_45 : decode cX10_back 45 = .ok (.aload_n 2, 1) := by decide +kernel
theorem dX10_back_46 : decode cX10_back 46 = .ok (.iload_n 1, 1) := by decide +kernel
theorem dX10_back_47 : decode cX10_back 47 = .ok (.iconst 2, 1) := by decide +kernel
theorem dX10_back_48 : decode cX10_back 48 = .ok (.iconst (-1), 1) := by decide +kernel
theorem dX10_back_49 : decode cX10_back 49 = .ok (.iload_n 3, 1) := by decide +kernel
theorem dX10_back_50 : decode cX10_back 50 = .ok (.iload_n 3, 1) := by decide +kernel
theorem dX10_back_51 : decode cX10_back 51 = .ok (.iconst 0, 1) := by decide +kernel
theorem dX10_back_52 : decode cX10_back 52 = .ok (.iconst 0, 1) := by decide +kernel
theorem dX10_back_53 : decode cX10_back 53 = .ok (.invokevirtual 195, 3) := by decide +kernel
theorem dX10_back_56 : decode cX10_back 56 = .ok (.ireturn, 1) := by decide +kernel
theorem dX10_tear_0 : decode cX10_tear 0 = .ok (.aload_n 0, 1) := by decide +kernel
theorem dX10_tear_1 : decode cX10_tear 1 = .ok (.getfield 12, 3) := by decide +kernel
theorem dX10_tear_4 : decode cX10_tear 4 = .ok (.getfield 154, 3) := by decide +kernel
theorem dX10_tear_7 : decode cX10_tear 7 = .ok (.astore 4, 2) := by decide +kernel
theorem dX10_tear_9 : decode cX10_tear 9 = .ok (.aload 4, 2) := by decide +kernel
theorem dX10_tear_11 : decode cX10_tear 11 = .ok (.invokevirtual 164, 3) := by decide +kernel
theorem dX10_tear_14 : decode cX10_tear 14 = .ok (.ifCond .eq 20, 3) := by decide +kernel
theorem dX10_tear_17 : decode cX10_tear 17 = .ok (.aload 4, 2) := by decide +kernel
theorem dX10_tear_19 : decode cX10_tear 19 = .ok (.iload_n 1, 1) := by decide +kernel
theorem dX10_tear_20 : decode cX10_tear 20 = .ok (.invokevirtual 168, 3) := by decide +kernel
theorem dX10_tear_23 : decode cX10_tear 23 = .ok (.ifCond .eq 11, 3) := by decide +kernel
theorem dX10_tear_26 : decode cX10_tear 26 = .ok (.aload_n 0, 1) := by decide +kernel
theorem dX10_tear_27 : decode cX10_tear 27 = .ok (.iload_n 3, 1) := by decide +kernel
theorem dX10_tear_28 : decode cX10_tear 28 = .ok (.invokevirtual 112, 3) := by decide +kernel
theorem dX10_tear_31 : decode cX10_tear 31 = .ok (.ifCond .ne 5, 3) := by decide +kernel
theorem dX10_tear_34 : decode cX10_tear 34 = .ok (.iconst (-1), 1) := by decide +kernel
theorem dX10_tear_35 : decode cX10_tear 35 = .ok (.ireturn, 1) := by decide +kernel
theorem dX10_tear_36 : decode cX10_tear 36 = .ok (.aload 4, 2) := by decide +kernel
theorem dX10_tear_38 : decode cX10_tear 38 = .ok (.iload_n 1, 1) := by decide +kernel
theorem dX10_tear_39 : decode cX10_tear 39 = .ok (.iload_n 3, 1) := by decide +kernel
theorem dX10_tear_40 : decode cX10_tear 40 = .ok (.bipush 99, 2) := by decide +kernel
theorem dX10_tear_42 : decode cX10_tear 42 = .ok (.invokevirtual 171, 3) := by decide +kernel
theorem dX10_tear_45 : decode cX10_tear 45 = .ok (.istore 5, 2) := by decide +kernel
theorem dX10_tear_47 : decode cX10_tear 47 = .ok (.iload 5, 2) := by decide +kernel
theorem dX10_tear_49 : decode cX10_tear 49 = .ok (.iconst (-1), 1) := by decide +kernel
theorem dX10_tear_50 : decode cX10_tear 50 = .ok (.if_icmp .eq 21, 3) := by decide +kernel
theorem dX10_tear_53 : decode cX10_tear 53 = .ok (.iload_n 2, 1) := by decide +kernel
theorem dX10_tear_54 : decode cX10_tear 54 = .ok (.iconst 1, 1) := by decide +kernel
theorem dX10_tear_55 : decode cX10_tear 55 = .ok (.aload 4, 2) := by decide +kernel
theorem dX10_tear_57 : decode cX10_tear 57 = .ok (.iload_n 1, 1) := by decide +kernel
theorem dX10_tear_58 : decode cX10_tear 58 = .ok (.bipush 99, 2) := by decide +kernel
theorem dX10_tear_60 : decode cX10_tear 60 = .ok (.bipush 99, 2) := by decide +kernel
theorem dX10_tear_62 : decode cX10_tear 62 = .ok (.invokevirtual 199, 3) := by decide +kernel
theorem dX10_tear_65 : decode cX10_tear 65 = .ok (.invokestatic 77, 3) := by decide +kernel
theorem dX10_tear_68 : decode cX10_tear 68 = .ok (.ifCond .ne 5, 3) := by decide +kernel
theorem dX10_tear_71 : decode cX10_tear 71 = .ok (.iconst (-1), 1) := by decide +kernel
theorem dX10_tear_72 : decode cX10_tear 72 = .ok (.ireturn, 1) := by decide +kernel
theorem dX10_tear_73 : decode cX10_tear 73 = .ok (.aload_n 0, 1) := by decide +kernel
theorem dX10_tear_74 : decode cX10_tear 74 = .ok (.iload 5, 2) := by decide +kernel
theorem dX10_tear_76 : decode cX10_tear 76 = .ok (.iload_n 3, 1) := by decide +kernel
theorem dX10_tear_77 : decode cX10_tear 77 = .ok (.bipush 99, 2) := by decide +kernel
theorem dX10_tear_79 : decode cX10_tear 79 = .ok (.invokevirtual 174, 3) := by decide +kernel
theorem dX10_tear_82 : decode cX10_tear 82 = .ok (.aload_n 0, 1) := by decide +kernel
theorem dX10_tear_83 : decode cX10_tear 83 = .ok (.iload 5, 2) := by decide +kernel
theorem dX10_tear_85 : decode cX10_tear 85 = .ok (.iload_n 1, 1) := by decide +kernel
theorem dX10_tear_86 : decode cX10_tear 86 = .ok (.iload_n 3, 1) := by decide +kernel
theorem dX10_tear_87 : decode cX10_tear 87 = .ok (.bipush 99, 2) := by decide +kernel
theorem dX10_tear_89 : decode cX10_tear 89 = .ok (.invokevirtual 177, 3) := by decide +kernel
theorem dX10_tear_92 : decode cX10_tear 92 = .ok (.aload_n 0, 1) := by decide +kernel
theorem dX10_tear_93 : decode cX10_tear 93 = .ok (.getfield 12, 3) := by decide +kernel
theorem dX10_tear_96 : decode cX10_tear 96 = .ok (.getfield 181, 3) := by decide +kernel
theorem dX10_tear_99 : decode cX10_tear 99 = .ok (.iconst 2, 1) := by decide +kernel
theorem dX10_tear_100 : decode cX10_tear 100 = .ok (.aload_n 0, 1) := by decide +kernel
theorem dX10_tear_101 : decode cX10_tear 101 = .ok (.getfield 53, 3) := by decide +kernel
theorem dX10_tear_104 : decode cX10_tear 104 = .ok (.iconst 0, 1) := by decide +kernel
theorem dX10_tear_105 : decode cX10_tear 105 = .ok (.invokevirtual 191, 3) := by decide +kernel
theorem dX10_tear_108 : decode cX10_tear 108 = .ok (.istore 6, 2) := by decide +kernel
theorem dX10_tear_110 : decode cX10_tear 110 = .ok (.aload 4, 2) := by decide +kernel
theorem dX10_tear_112 : decode cX10_tear 112 = .ok (.iload_n 1, 1) := by decide +kernel
theorem dX10_tear_113 : decode cX10_tear 113 = .ok (.iconst 3, 1) := by decide +kernel
theorem dX10_tear_114 : decode cX10_tear 114 = .ok (.iload 5, 2) := by decide +kernel
theorem dX10_tear_116 : decode cX10_tear 116 = .ok (.iload_n 3, 1) := by decide +kernel
theorem dX10_tear_117 : decode cX10_tear 117 = .ok (.aload_n 0, 1) := by decide +kernel
theorem dX10_tear_118 : decode cX10_tear 118 = .ok (.getfield 12, 3) := by decide +kernel
theorem dX10_tear_121 : decode cX10_tear 121 = .ok (.getfield 92, 3) := by decide +kernel
theorem dX10_tear_124 : decode cX10_tear 124 = .ok (.iload_n 2, 1) := by decide +kernel
theorem dX10_tear_125 : decode cX10_tear 125 = .ok (.iload 6, 2) := by decide +kernel
theorem dX10_tear_127 : decode cX10_tear 127 = .ok (.invokevirtual 195, 3) := by decide +kernel
theorem dX10_tear_130 : decode cX10_tear 130 = .ok (.ireturn, 1) := by decide +kernel
theorem dX10_act_0 : decode cX10_act 0 = .ok (.aload_n 0, 1) := by decide +kernel
theorem dX10_act_1 : decode cX10_act 1 = .ok (.getfield 12, 3) := by decide +kernel
theorem dX10_act_4 : decode cX10_act 4 = .ok (.getfield 154, 3) := by decide +kernel
theorem dX10_act_7 : decode cX10_act 7 = .ok (.astore_n 3, 1) := by decide +kernel
theorem dX10_act_8 : decode cX10_act 8 = .ok (.iload_n 1, 1) := by decide +kernel
theorem dX10_act_9 : decode cX10_act 9 = .ok (.iconst 0, 1) := by decide +kernel
theorem dX10_act_10 : decode cX10_act 10 = .ok (.aload_n 3, 1) := by decide +kernel
theorem dX10_act_11 : decode cX10_act 11 = .ok (.getfield 202, 3) := by decide +kernel
theorem dX10_act_14 : decode cX10_act 14 = .ok (.iconst 1, 1) := by decide +kernel
theorem dX10_act_15 : decode cX10_act 15 = .ok (.isub, 1) := by decide +kernel
theorem dX10_act_16 : decode cX10_act 16 = .ok (.invokestatic 77, 3) := by decide +kernel
theorem dX10_act_19 : decode cX10_act 19 = .ok (.ifCond .ne 6, 3) := by decide +kernel
theorem dX10_act_22 : decode cX10_act 22 = .ok (.bipush (-2), 2) := by decide +kernel
theorem dX10_act_24 : decode cX10_act 24 = .ok (.ireturn, 1) := by decide +kernel
theorem dX10_act_25 : decode cX10_act 25 = .ok (.iload_n 2, 1) := by decide +kernel
theorem dX10_act_26 : decode cX10_act 26 = .ok (.tableswitch 91 0 6 #[42, 49, 56, 63, 70, 77, 84], 42) := by decide +kernel
theorem dX10_act_68 : decode cX10_act 68 = .ok (.aload_n 3, 1) := by decide +kernel
theorem dX10_act_69 : decode cX10_act 69 = .ok (.getfield 205, 3) := by decide +kernel
theorem dX10_act_72 : decode cX10_act 72 = .ok (.iload_n 1, 1) := by decide +kernel
theorem dX10_act_73 : decode cX10_act 73 = .ok (.iaload, 1) := by decide +kernel
theorem dX10_act_74 : decode cX10_act 74 = .ok (.ireturn, 1) := by decide +kernel
theorem dX10_act_75 : decode cX10_act 75 = .ok (.aload_n 3, 1) := by decide +kernel
theorem dX10_act_76 : decode cX10_act 76 = .ok (.getfield 208, 3) := by decide +kernel
theorem dX10_act_79 : decode cX10_act 79 = .ok (.iload_n 1, 1) := by decide +kernel
theorem dX10_act_80 : decode cX10_act 80 = .ok (.iaload, 1) := by decide +kernel
theorem dX10_act_81 : decode cX10_act 81 = .ok (.ireturn, 1) := by decide +kernel
theorem dX10_act_82 : decode cX10_act 82 = .ok (.aload_n 3, 1) := by decide +kernel
theorem dX10_act_83 : decode cX10_act 83 = .ok (.getfield 211, 3) := by decide +kernel
theorem dX10_act_86 : decode cX10_act 86 = .ok (.iload_n 1, 1) := by decide +kernel
theorem dX10_act_87 : decode cX10_act 87 = .ok (.iaload, 1) := by decide +kernel
theorem dX10_act_88 : decode cX10_act 88 = .ok (.ireturn, 1) := by decide +kernel
theorem dX10_act_89 : decode cX10_act 89 = .ok (.aload_n 3, 1) := by decide +kernel
theorem dX10_act_90 : decode cX10_act 90 = .ok (.getfield 214, 3) := by decide +kernel
theorem dX10_act_93 : decode cX10_act 93 = .ok (.iload_n 1, 1) := by decide +kernel
theorem dX10_act_94 : decode cX10_act 94 = .ok (.iaload, 1) := by decide +kernel
theorem dX10_act_95 : decode cX10_act 95 = .ok (.ireturn, 1) := by decide +kernel
theorem dX10_act_96 : decode cX10_act 96 = .ok (.aload_n 3, 1) := by decide +kernel
theorem dX10_act_97 : decode cX10_act 97 = .ok (.getfield 217, 3) := by decide +kernel
theorem dX10_act_100 : decode cX10_act 100 = .ok (.iload_n 1, 1) := by decide +kernel
theorem dX10_act_101 : decode cX10_act 101 = .ok (.iaload, 1) := by decide +kernel
theorem dX10_act_102 : decode cX10_act 102 = .ok (.ireturn, 1) := by decide +kernel
theorem dX10_act_103 : decode cX10_act 103 = .ok (.aload_n 3, 1) := by decide +kernel
theorem dX10_act_104 : decode cX10_act 104 = .ok (.getfield 220, 3) := by decide +kernel
theorem dX10_act_107 : decode cX10_act 107 = .ok (.iload_n 1, 1) := by decide +kernel
theorem dX10_act_108 : decode cX10_act 108 = .ok (.iaload, 1) := by decide +kernel
theorem dX10_act_109 : decode cX10_act 109 = .ok (.ireturn, 1) := by decide +kernel
theorem dX10_act_110 : decode cX10_act 110 = .ok (.aload_n 3, 1) := by decide +kernel
theorem dX10_act_111 : decode cX10_act 111 = .ok (.getfield 223, 3) := by decide +kernel
theorem dX10_act_114 : decode cX10_act 114 = .ok (.iload_n 1, 1) := by decide +kernel
theorem dX10_act_115 : decode cX10_act 115 = .ok (.iaload, 1) := by decide +kernel
theorem dX10_act_116 : decode cX10_act 116 = .ok (.ireturn, 1) := by decide +kernel
theorem dX10_act_117 : decode cX10_act 117 = .ok (.bipush (-2), 2) := by decide +kernel
theorem dX10_act_119 : decode cX10_act 119 = .ok (.ireturn, 1) := by decide +kernel
theorem dX10_who_0 : decode cX10_who 0 = .ok (.aload_n 0, 1) := by decide +kernel
theorem dX10_who_1 : decode cX10_who 1 = .ok (.getfield 12, 3) := by decide +kernel
theorem dX10_who_4 : decode cX10_who 4 = .ok (.getfield 154, 3) := by decide +kernel
theorem dX10_who_7 : decode cX10_who 7 = .ok (.iload_n 1, 1) := by decide +kernel
theorem dX10_who_8 : decode cX10_who 8 = .ok (.invokevirtual 168, 3) := by decide +kernel
theorem dX10_who_11 : decode cX10_who 11 = .ok (.ifCond .eq 10, 3) := by decide +kernel
theorem dX10_who_14 : decode cX10_who 14 = .ok (.iload_n 2, 1) := by decide +kernel
theorem dX10_who_15 : decode cX10_who 15 = .ok (.invokestatic 102, 3) := by decide +kernel
theorem dX10_who_18 : decode cX10_who 18 = .ok (.ifCond .ne 6, 3) := by decide +kernel
theorem dX10_who_21 : decode cX10_who 21 = .ok (.bipush (-2), 2) := by decide +kernel
theorem dX10_who_23 : decode cX10_who 23 = .ok (.ireturn, 1) := by decide +kernel
theorem dX10_who_24 : decode cX10_who 24 = .ok (.aload_n 0, 1) := by decide +kernel
theorem dX10_who_25 : decode cX10_who 25 = .ok (.getfield 12, 3) := by decide +kernel
theorem dX10_who_28 : decode cX10_who 28 = .ok (.getfield 154, 3) := by decide +kernel
theorem dX10_who_31 : decode cX10_who 31 = .ok (.iload_n 1, 1) := by decide +kernel
theorem dX10_who_32 : decode cX10_who 32 = .ok (.iload_n 2, 1) := by decide +kernel
theorem dX10_who_33 : decode cX10_who 33 = .ok (.aload_n 0, 1) := by decide +kernel
theorem dX10_who_34 : decode cX10_who 34 = .ok (.invokevirtual 132, 3) := by decide +kernel
theorem dX10_who_37 : decode cX10_who 37 = .ok (.invokevirtual 171, 3) := by decide +kernel
theorem dX10_who_40 : decode cX10_who 40 = .ok (.ireturn, 1) := by decide +kernel
theorem dX10_had_0 : decode cX10_had 0 = .ok (.aload_n 0, 1) := by decide +kernel
theorem dX10_had_1 : decode cX10_had 1 = .ok (.getfield 12, 3) := by decide +kernel
theorem dX10_had_4 : decode cX10_had 4 = .ok (.getfield 154, 3) := by decide +kernel
theorem dX10_had_7 : decode cX10_had 7 = .ok (.iload_n 1, 1) := by decide +kernel
theorem dX10_had_8 : decode cX10_had 8 = .ok (.invokevirtual 168, 3) := by decide +kernel
theorem dX10_had_11 : decode cX10_had 11 = .ok (.ifCond .eq 22, 3) := by decide +kernel
theorem dX10_had_14 : decode cX10_had 14 = .ok (.aload_n 0, 1) := by decide +kernel
theorem dX10_had_15 : decode cX10_had 15 = .ok (.getfield 12, 3) := by decide +kernel
theorem dX10_had_18 : decode cX10_had 18 = .ok (.getfield 154, 3) := by decide +kernel
theorem dX10_had_21 : decode cX10_had 21 = .ok (.iload_n 1, 1) := by decide +kernel
theorem dX10_had_22 : decode cX10_had 22 = .ok (.iload_n 2, 1) := by decide +kernel
theorem dX10_had_23 : decode cX10_had 23 = .ok (.aload_n 0, 1) := by decide +kernel
theorem dX10_had_24 : decode cX10_had 24 = .ok (.invokevirtual 132, 3) := by decide +kernel
theorem dX10_had_27 : decode cX10_had 27 = .ok (.invokevirtual 226, 3) := by decide +kernel
theorem dX10_had_30 : decode cX10_had 30 = .ok (.goto 4, 3) := by decide +kernel
theorem dX10_had_33 : decode cX10_had 33 = .ok (.iconst (-1), 1) := by decide +kernel
theorem dX10_had_34 : decode cX10_had 34 = .ok (.ireturn, 1) := by decide +kernel
theorem dX10_due_0 : decode cX10_due 0 = .ok (.aload_n 0, 1) := by decide +kernel
theorem dX10_due_1 : decode cX10_due 1 = .ok (.getfield 12, 3) := by decide +kernel
theorem dX10_due_4 : decode cX10_due 4 = .ok (.getfield 154, 3) := by decide +kernel
theorem dX10_due_7 : decode cX10_due 7 = .ok (.astore_n 3, 1) := by decide +kernel
theorem dX10_due_8 : decode cX10_due 8 = .ok (.aload_n 3, 1) := by decide +kernel
theorem dX10_due_9 : decode cX10_due 9 = .ok (.iload_n 1, 1) := by decide +kernel
theorem dX10_due_10 : decode cX10_due 10 = .ok (.invokevirtual 168, 3) := by decide +kernel
theorem dX10_due_13 : decode cX10_due 13 = .ok (.ifCond .eq 24, 3) := by decide +kernel
theorem dX10_due_16 : decode cX10_due 16 = .ok (.iload_n 2, 1) := by decide +kernel
theorem dX10_due_17 : decode cX10_due 17 = .ok (.invokestatic 102, 3) := by decide +kernel
theorem dX10_due_20 : decode cX10_due 20 = .ok (.ifCond .eq 17, 3) := by decide +kernel
theorem dX10_due_23 : decode cX10_due 23 = .ok (.aload_n 3, 1) := by decide +kernel
theorem dX10_due_24 : decode cX10_due 24 = .ok (.iload_n 1, 1) := by decide +kernel
theorem dX10_due_25 : decode cX10_due 25 = .ok (.iload_n 2, 1) := by decide +kernel
theorem dX10_due_26 : decode cX10_due 26 = .ok (.aload_n 0, 1) := by decide +kernel
theorem dX10_due_27 : decode cX10_due 27 = .ok (.invokevirtual 132, 3) := by decide +kernel
theorem dX10_due_30 : decode cX10_due 30 = .ok (.invokevirtual 171, 3) := by decide +kernel
theorem dX10_due_33 : decode cX10_due 33 = .ok (.iconst (-1), 1) := by decide +kernel
theorem dX10_due_34 : decode cX10_due 34 = .ok (.if_icmp .ne 5, 3) := by decide +kernel
theorem dX10_due_37 : decode cX10_due 37 = .ok (.iconst (-1), 1) := by decide +kernel
theorem dX10_due_38 : decode cX10_due 38 = .ok (.ireturn, 1) := by decide +kernel
theorem dX10_due_39 : decode cX10_due 39 = .ok (.aload_n 3, 1) := by decide +kernel
theorem dX10_due_40 : decode cX10_due 40 = .ok (.iload_n 1, 1) := by decide +kernel
theorem dX10_due_41 : decode cX10_due 41 = .ok (.iload_n 2, 1) := by decide +kernel
theorem dX10_due_42 : decode cX10_due 42 = .ok (.aload_n 0, 1) := by decide +kernel
theorem dX10_due_43 : decode cX10_due 43 = .ok (.invokevirtual 132, 3) := by decide +kernel
theorem dX10_due_46 : decode cX10_due 46 = .ok (.aload_n 0, 1) := by decide +kernel
theorem dX10_due_47 : decode cX10_due 47 = .ok (.getfield 12, 3) := by decide +kernel
theorem dX10_due_50 : decode cX10_due 50 = .ok (.getfield 60, 3) := by decide +kernel
theorem dX10_due_53 : decode cX10_due 53 = .ok (.getfield 109, 3) := by decide +kernel
theorem dX10_due_56 : decode cX10_due 56 = .ok (.invokevirtual 229, 3) := by decide +kernel
theorem dX10_due_59 : decode cX10_due 59 = .ok (.ireturn, 1) := by decide +kernel
theorem dX10_owes_0 : decode cX10_owes 0 = .ok (.aload_n 0, 1) := by decide +kernel
theorem dX10_owes_1 : decode cX10_owes 1 = .ok (.getfield 12, 3) := by decide +kernel
theorem dX10_owes_4 : decode cX10_owes 4 = .ok (.getfield 154, 3) := by decide +kernel
theorem dX10_owes_7 : decode cX10_owes 7 = .ok (.astore 4, 2) := by decide +kernel
theorem dX10_owes_9 : decode cX10_owes 9 = .ok (.aload_n 0, 1) := by decide +kernel
theorem dX10_owes_10 : decode cX10_owes 10 = .ok (.getfield 12, 3) := by decide +kernel
theorem dX10_owes_13 : decode cX10_owes 13 = .ok (.getfield 88, 3) := by decide +kernel
theorem dX10_owes_16 : decode cX10_owes 16 = .ok (.iload_n 1, 1) := by decide +kernel
theorem dX10_owes_17 : decode cX10_owes 17 = .ok (.invokevirtual 118, 3) := by decide +kernel
theorem dX10_owes_20 : decode cX10_owes 20 = .ok (.ifCond .eq 10, 3) := by decide +kernel
theorem dX10_owes_23 : decode cX10_owes 23 = .ok (.iload_n 2, 1) := by decide +kernel
theorem dX10_owes_24 : decode cX10_owes 24 = .ok (.invokestatic 102, 3) := by decide +kernel
theorem dX10_owes_27 : decode cX10_owes 27 = .ok (.ifCond .ne 5, 3) := by decide +kernel
theorem dX10_owes_30 : decode cX10_owes 30 = .ok (.iconst (-1), 1) := by decide +kernel
theorem dX10_owes_31 : decode cX10_owes 31 = .ok (.ireturn, 1) := by decide +kernel
theorem dX10_owes_32 : decode cX10_owes 32 = .ok (.iload_n 3, 1) := by decide +kernel
theorem dX10_owes_33 : decode cX10_owes 33 = .ok (.tableswitch 89 0 3 #[31, 43, 65, 77], 31) := by decide +kernel
theorem dX10_owes_64 : decode cX10_owes 64 = .ok (.aload 4, 2) := by decide +kernel
theorem dX10_owes_66 : decode cX10_owes 66 = .ok (.iload_n 1, 1) := by decide +kernel
theorem dX10_owes_67 : decode cX10_owes 67 = .ok (.iload_n 2, 1) := by decide +kernel
theorem dX10_owes_68 : decode cX10_owes 68 = .ok (.aload_n 0, 1) := by decide +kernel
theorem dX10_owes_69 : decode cX10_owes 69 = .ok (.invokevirtual 132, 3) := by decide +kernel
theorem dX10_owes_72 : decode cX10_owes 72 = .ok (.invokevirtual 233, 3) := by decide +kernel
theorem dX10_owes_75 : decode cX10_owes 75 = .ok (.ireturn, 1) := by decide +kernel
theorem dX10_owes_76 : decode cX10_owes 76 = .ok (.aload 4, 2) := by decide +kernel
theorem dX10_owes_78 : decode cX10_owes 78 = .ok (.iload_n 1, 1) := by decide +kernel
theorem dX10_owes_79 : decode cX10_owes 79 = .ok (.iload_n 2, 1) := by decide +kernel
theorem dX10_owes_80 : decode cX10_owes 80 = .ok (.aload_n 0, 1) := by decide +kernel
theorem dX10_owes_81 : decode cX10_owes 81 = .ok (.invokevirtual 132, 3) := by decide +kernel
theorem dX10_owes_84 : decode cX10_owes 84 = .ok (.aload_n 0, 1) := by decide +kernel
theorem dX10_owes_85 : decode cX10_owes 85 = .ok (.getfield 12, 3) := by decide +kernel
theorem dX10_owes_88 : decode cX10_owes 88 = .ok (.getfield 60, 3) := by decide +kernel
theorem dX10_owes_91 : decode cX10_owes 91 = .ok (.getfield 109, 3) := by decide +kernel
theorem dX10_owes_94 : decode cX10_owes 94 = .ok (.invokevirtual 236, 3) := by decide +kernel
theorem dX10_owes_97 : decode cX10_owes 97 = .ok (.ireturn, 1) := by decide +kernel
theorem dX10_owes_98 : decode cX10_owes 98 = .ok (.aload 4, 2) := by decide +kernel
theorem dX10_owes_100 : decode cX10_owes 100 = .ok (.iload_n 1, 1) := by decide +kernel
theorem dX10_owes_101 : decode cX10_owes 101 = .ok (.iload_n 2, 1) := by decide +kernel
theorem dX10_owes_102 : decode cX10_owes 102 = .ok (.aload_n 0, 1) := by decide +kernel
theorem dX10_owes_103 : decode cX10_owes 103 = .ok (.invokevirtual 132, 3) := by decide +kernel
theorem dX10_owes_106 : decode cX10_owes 106 = .ok (.invokevirtual 239, 3) := by decide +kernel
theorem dX10_owes_109 : decode cX10_owes 109 = .ok (.ireturn, 1) := by decide +kernel
theorem dX10_owes_110 : decode cX10_owes 110 = .ok (.aload 4, 2) := by decide +kernel
theorem dX10_owes_112 : decode cX10_owes 112 = .ok (.iload_n 1, 1) := by decide +kernel
theorem dX10_owes_113 : decode cX10_owes 113 = .ok (.iload_n 2, 1) := by decide +kernel
theorem dX10_owes_114 : decode cX10_owes 114 = .ok (.aload_n 0, 1) := by decide +kernel
theorem dX10_owes_115 : decode cX10_owes 115 = .ok (.invokevirtual 132, 3) := by decide +kernel
theorem dX10_owes_118 : decode cX10_owes 118 = .ok (.invokevirtual 242, 3) := by decide +kernel
theorem dX10_owes_121 : decode cX10_owes 121 = .ok (.ireturn, 1) := by decide +kernel
theorem dX10_owes_122 : decode cX10_owes 122 = .ok (.iconst (-1), 1) := by decide +kernel
theorem dX10_owes_123 : decode cX10_owes 123 = .ok (.ireturn, 1) := by decide +kernel
theorem dX10_feed_0 : decode cX10_feed 0 = .ok (.aload_n 0, 1) := by decide +kernel
theorem dX10_feed_1 : decode cX10_feed 1 = .ok (.getfield 12, 3) := by decide +kernel
theorem dX10_feed_4 : decode cX10_feed 4 = .ok (.getfield 245, 3) := by decide +kernel
theorem dX10_feed_7 : decode cX10_feed 7 = .ok (.sipush 480, 3) := by decide +kernel
theorem dX10_feed_10 : decode cX10_feed 10 = .ok (.if_icmp .le 5, 3) := by decide +kernel
theorem dX10_feed_13 : decode cX10_feed 13 = .ok (.iconst (-1), 1) := by decide +kernel
theorem dX10_feed_14 : decode cX10_feed 14 = .ok (.ireturn, 1) := by decide +kernel
theorem dX10_feed_15 : decode cX10_feed 15 = .ok (.aload_n 0, 1) := by decide +kernel
theorem dX10_feed_16 : decode cX10_feed 16 = .ok (.getfield 12, 3) := by decide +kernel
theorem dX10_feed_19 : decode cX10_feed 19 = .ok (.iload_n 1, 1) := by decide +kernel
theorem dX10_feed_20 : decode cX10_feed 20 = .ok (.invokevirtual 248, 3) := by decide +kernel
theorem dX10_feed_23 : decode cX10_feed 23 = .ok (.aload_n 0, 1) := by decide +kernel
theorem dX10_feed_24 : decode cX10_feed 24 = .ok (.getfield 12, 3) := by decide +kernel
theorem dX10_feed_27 : decode cX10_feed 27 = .ok (.iload_n 2, 1) := by decide +kernel
theorem dX10_feed_28 : decode cX10_feed 28 = .ok (.invokevirtual 248, 3) := by decide +kernel
theorem dX10_feed_31 : decode cX10_feed 31 = .ok (.aload_n 0, 1) := by decide +kernel
theorem dX10_feed_32 : decode cX10_feed 32 = .ok (.getfield 12, 3) := by decide +kernel
theorem dX10_feed_35 : decode cX10_feed 35 = .ok (.iload_n 3, 1) := by decide +kernel
theorem dX10_feed_36 : decode cX10_feed 36 = .ok (.invokevirtual 248, 3) := by decide +kernel
theorem dX10_feed_39 : decode cX10_feed 39 = .ok (.aload_n 0, 1) := by decide +kernel
theorem dX10_feed_40 : decode cX10_feed 40 = .ok (.getfield 12, 3) := by decide +kernel
theorem dX10_feed_43 : decode cX10_feed 43 = .ok (.iload 4, 2) := by decide +kernel
theorem dX10_feed_45 : decode cX10_feed 45 = .ok (.invokevirtual 248, 3) := by decide +kernel
theorem dX10_feed_48 : decode cX10_feed 48 = .ok (.aload_n 0, 1) := by decide +kernel
theorem dX10_feed_49 : decode cX10_feed 49 = .ok (.getfield 12, 3) := by decide +kernel
theorem dX10_feed_52 : decode cX10_feed 52 = .ok (.iload 5, 2) := by decide +kernel
theorem dX10_feed_54 : decode cX10_feed 54 = .ok (.invokevirtual 248, 3) := by decide +kernel
theorem dX10_feed_57 : decode cX10_feed 57 = .ok (.aload_n 0, 1) := by decide +kernel
theorem dX10_feed_58 : decode cX10_feed 58 = .ok (.getfield 12, 3) := by decide +kernel
theorem dX10_feed_61 : decode cX10_feed 61 = .ok (.getfield 245, 3) := by decide +kernel
theorem dX10_feed_64 : decode cX10_feed 64 = .ok (.ireturn, 1) := by decide +kernel
theorem dX10_end_0 : decode cX10_end 0 = .ok (.iload_n 1, 1) := by decide +kernel
theorem dX10_end_1 : decode cX10_end 1 = .ok (.iconst 0, 1) := by decide +kernel
theorem dX10_end_2 : decode cX10_end 2 = .ok (.aload_n 0, 1) := by decide +kernel
theorem dX10_end_3 : decode cX10_end 3 = .ok (.getfield 12, 3) := by decide +kernel
theorem dX10_end_6 : decode cX10_end 6 = .ok (.getfield 245, 3) := by decide +kernel
theorem dX10_end_9 : decode cX10_end 9 = .ok (.invokestatic 77, 3) := by decide +kernel
theorem dX10_end_12 : decode cX10_end 12 = .ok (.ifCond .ne 5, 3) := by decide +kernel
theorem dX10_end_15 : decode cX10_end 15 = .ok (.iconst (-1), 1) := by decide +kernel
theorem dX10_end_16 : decode cX10_end 16 = .ok (.ireturn, 1) := by decide +kernel
theorem dX10_end_17 : decode cX10_end 17 = .ok (.aload_n 0, 1) := by decide +kernel
theorem dX10_end_18 : decode cX10_end 18 = .ok (.getfield 12, 3) := by decide +kernel
theorem dX10_end_21 : decode cX10_end 21 = .ok (.iload_n 1, 1) := by decide +kernel
theorem dX10_end_22 : decode cX10_end 22 = .ok (.putfield 245, 3) := by decide +kernel
theorem dX10_end_25 : decode cX10_end 25 = .ok (.iload_n 1, 1) := by decide +kernel
theorem dX10_end_26 : decode cX10_end 26 = .ok (.ireturn, 1) := by decide +kernel
theorem dX10_rules_0 : decode cX10_rules 0 = .ok (.aload_n 0, 1) := by decide +kernel
theorem dX10_rules_1 : decode cX10_rules 1 = .ok (.getfield 42, 3) := by decide +kernel
theorem dX10_rules_4 : decode cX10_rules 4 = .ok (.aload_n 0, 1) := by decide +kernel
theorem dX10_rules_5 : decode cX10_rules 5 = .ok (.getfield 12, 3) := by decide +kernel
theorem dX10_rules_8 : decode cX10_rules 8 = .ok (.getfield 251, 3) := by decide +kernel
theorem dX10_rules_11 : decode cX10_rules 11 = .ok (.aload_n 0, 1) := by decide +kernel
theorem dX10_rules_12 : decode cX10_rules 12 = .ok (.getfield 12, 3) := by decide +kernel
theorem dX10_rules_15 : decode cX10_rules 15 = .ok (.getfield 245, 3) := by decide +kernel
theorem dX10_rules_18 : decode cX10_rules 18 = .ok (.invokevirtual 254, 3) := by decide +kernel
theorem dX10_rules_21 : decode cX10_rules 21 = .ok (.aload_n 0, 1) := by decide +kernel
theorem dX10_rules_22 : decode cX10_rules 22 = .ok (.getfield 12, 3) := by decide +kernel
theorem dX10_rules_25 : decode cX10_rules 25 = .ok (.iconst 0, 1) := by decide +kernel
theorem dX10_rules_26 : decode cX10_rules 26 = .ok (.putfield 245, 3) := by decide +kernel
theorem dX10_rules_29 : decode cX10_rules 29 = .ok (.aload_n 0, 1) := by decide +kernel
theorem dX10_rules_30 : decode cX10_rules 30 = .ok (.getfield 12, 3) := by decide +kernel
theorem dX10_rules_33 : decode cX10_rules 33 = .ok (.aload_n 0, 1) := by decide +kernel
theorem dX10_rules_34 : decode cX10_rules 34 = .ok (.getfield 42, 3) := by decide +kernel
theorem dX10_rules_37 : decode cX10_rules 37 = .ok (.getfield 258, 3) := by decide +kernel
theorem dX10_rules_40 : decode cX10_rules 40 = .ok (.putfield 261, 3) := by decide +kernel
theorem dX10_rules_43 : decode cX10_rules 43 = .ok (.aload_n 0, 1) := by decide +kernel
theorem dX10_rules_44 : decode cX10_rules 44 = .ok (.getfield 12, 3) := by decide +kernel
theorem dX10_rules_47 : decode cX10_rules 47 = .ok (.aload_n 0, 1) := by decide +kernel
theorem dX10_rules_48 : decode cX10_rules 48 = .ok (.getfield 42, 3) := by decide +kernel
theorem dX10_rules_51 : decode cX10_rules 51 = .ok (.getfield 262, 3) := by decide +kernel
theorem dX10_rules_54 : decode cX10_rules 54 = .ok (.putfield 265, 3) := by decide +kernel
theorem dX10_rules_57 : decode cX10_rules 57 = .ok (.aload_n 0, 1) := by decide +kernel
theorem dX10_rules_58 : decode cX10_rules 58 = .ok (.getfield 42, 3) := by decide +kernel
theorem dX10_rules_61 : decode cX10_rules 61 = .ok (.getfield 258, 3) := by decide +kernel
theorem dX10_rules_64 : decode cX10_rules 64 = .ok (.ifCond .eq 5, 3) := by decide +kernel
theorem dX10_rules_67 : decode cX10_rules 67 = .ok (.iconst (-1), 1) := by decide +kernel
theorem dX10_rules_68 : decode cX10_rules 68 = .ok (.ireturn, 1) := by decide +kernel
theorem dX10_rules_69 : decode cX10_rules 69 = .ok (.aload_n 0, 1) := by decide +kernel
theorem dX10_rules_70 : decode cX10_rules 70 = .ok (.getfield 12, 3) := by decide +kernel
theorem dX10_rules_73 : decode cX10_rules 73 = .ok (.getfield 181, 3) := by decide +kernel
theorem dX10_rules_76 : decode cX10_rules 76 = .ok (.aload_n 0, 1) := by decide +kernel
theorem dX10_rules_77 : decode cX10_rules 77 = .ok (.getfield 42, 3) := by decide +kernel
theorem dX10_rules_80 : decode cX10_rules 80 = .ok (.getfield 268, 3) := by decide +kernel
theorem dX10_rules_83 : decode cX10_rules 83 = .ok (.invokevirtual 271, 3) := by decide +kernel
theorem dX10_rules_86 : decode cX10_rules 86 = .ok (.aload_n 0, 1) := by decide +kernel
theorem dX10_rules_87 : decode cX10_rules 87 = .ok (.getfield 12, 3) := by decide +kernel
theorem dX10_rules_90 : decode cX10_rules 90 = .ok (.getfield 181, 3) := by decide +kernel
theorem dX10_rules_93 : decode cX10_rules 93 = .ok (.getfield 275, 3) := by decide +kernel
theorem dX10_rules_96 : decode cX10_rules 96 = .ok (.ireturn, 1) := by decide +kernel
theorem dX10_fault_0 : decode cX10_fault 0 = .ok (.iload_n 1, 1) := by decide +kernel
theorem dX10_fault_1 : decode cX10_fault 1 = .ok (.lookupswitch 43 #[(0, 27), (1, 35)], 27) := by decide +kernel
theorem dX10_fault_28 : decode cX10_fault 28 = .ok (.aload_n 0, 1) := by decide +kernel
theorem dX10_fault_29 : decode cX10_fault 29 = .ok (.getfield 12, 3) := by decide +kernel
theorem dX10_fault_32 : decode cX10_fault 32 = .ok (.getfield 261, 3) := by decide +kernel
theorem dX10_fault_35 : decode cX10_fault 35 = .ok (.ireturn, 1) := by decide +kernel
theorem dX10_fault_36 : decode cX10_fault 36 = .ok (.aload_n 0, 1) := by decide +kernel
theorem dX10_fault_37 : decode cX10_fault 37 = .ok (.getfield 12, 3) := by decide +kernel
theorem dX10_fault_40 : decode cX10_fault 40 = .ok (.getfield 265, 3) := by decide +kernel
theorem dX10_fault_43 : decode cX10_fault 43 = .ok (.ireturn, 1) := by decide +kernel
theorem dX10_fault_44 : decode cX10_fault 44 = .ok (.iconst (-1), 1) := by decide +kernel
theorem dX10_fault_45 : decode cX10_fault 45 = .ok (.ireturn, 1) := by decide +kernel
theorem dX10_rule_0 : decode cX10_rule 0 = .ok (.aload_n 0, 1) := by decide +kernel
theorem dX10_rule_1 : decode cX10_rule 1 = .ok (.iload_n 1, 1) := by decide +kernel
theorem dX10_rule_2 : decode cX10_rule 2 = .ok (.iload_n 3, 1) := by decide +kernel
theorem dX10_rule_3 : decode cX10_rule 3 = .ok (.invokevirtual 128, 3) := by decide +kernel
theorem dX10_rule_6 : decode cX10_rule 6 = .ok (.ifCond .eq 27, 3) := by decide +kernel
theorem dX10_rule_9 : decode cX10_rule 9 = .ok (.aload_n 0, 1) := by decide +kernel
theorem dX10_rule_10 : decode cX10_rule 10 = .ok (.getfield 12, 3) := by decide +kernel
theorem dX10_rule_13 : decode cX10_rule 13 = .ok (.getfield 154, 3) := by decide +kernel
theorem dX10_rule_16 : decode cX10_rule 16 = .ok (.iload_n 2, 1) := by decide +kernel
theorem dX10_rule_17 : decode cX10_rule 17 = .ok (.invokevirtual 168, 3) := by decide +kernel
theorem dX10_rule_20 : decode cX10_rule 20 = .ok (.ifCond .eq 13, 3) := by decide +kernel
theorem dX10_rule_23 : decode cX10_rule 23 = .ok (.iload 4, 2) := by decide +kernel
theorem dX10_rule_25 : decode cX10_rule 25 = .ok (.iconst 0, 1) := by decide +kernel
theorem dX10_rule_26 : decode cX10_rule 26 = .ok (.iconst 2, 1) := by decide +kernel
theorem dX10_rule_27 : decode cX10_rule 27 = .ok (.invokestatic 77, 3) := by decide +kernel
