theorem dX10_rule_30 : decode cX10_rule 30 = .ok (.ifCond .ne 6, 3) := by decide +kernel
theorem dX10_rule_33 : decode cX10_rule 33 = .ok (.bipush (-2), 2) := by decide +kernel
theorem dX10_rule_35 : decode cX10_rule 35 = .ok (.ireturn, 1) := by decide +kernel
theorem dX10_rule_36 : decode cX10_rule 36 = .ok (.aload_n 0, 1) := by decide +kernel
theorem dX10_rule_37 : decode cX10_rule 37 = .ok (.iload_n 1, 1) := by decide +kernel
theorem dX10_rule_38 : decode cX10_rule 38 = .ok (.iload_n 3, 1) := by decide +kernel
theorem dX10_rule_39 : decode cX10_rule 39 = .ok (.aload_n 0, 1) := by decide +kernel
theorem dX10_rule_40 : decode cX10_rule 40 = .ok (.invokevirtual 132, 3) := by decide +kernel
theorem dX10_rule_43 : decode cX10_rule 43 = .ok (.invokevirtual 174, 3) := by decide +kernel
theorem dX10_rule_46 : decode cX10_rule 46 = .ok (.aload_n 0, 1) := by decide +kernel
theorem dX10_rule_47 : decode cX10_rule 47 = .ok (.iload_n 1, 1) := by decide +kernel
theorem dX10_rule_48 : decode cX10_rule 48 = .ok (.iload_n 2, 1) := by decide +kernel
theorem dX10_rule_49 : decode cX10_rule 49 = .ok (.iload_n 3, 1) := by decide +kernel
theorem dX10_rule_50 : decode cX10_rule 50 = .ok (.aload_n 0, 1) := by decide +kernel
theorem dX10_rule_51 : decode cX10_rule 51 = .ok (.invokevirtual 132, 3) := by decide +kernel
theorem dX10_rule_54 : decode cX10_rule 54 = .ok (.invokevirtual 177, 3) := by decide +kernel
theorem dX10_rule_57 : decode cX10_rule 57 = .ok (.iload 4, 2) := by decide +kernel
theorem dX10_rule_59 : decode cX10_rule 59 = .ok (.lookupswitch 58 #[(0, 25), (1, 41)], 25) := by decide +kernel
theorem dX10_rule_84 : decode cX10_rule 84 = .ok (.aload_n 0, 1) := by decide +kernel
theorem dX10_rule_85 : decode cX10_rule 85 = .ok (.getfield 12, 3) := by decide +kernel
theorem dX10_rule_88 : decode cX10_rule 88 = .ok (.getfield 181, 3) := by decide +kernel
theorem dX10_rule_91 : decode cX10_rule 91 = .ok (.iconst 0, 1) := by decide +kernel
theorem dX10_rule_92 : decode cX10_rule 92 = .ok (.aload_n 0, 1) := by decide +kernel
theorem dX10_rule_93 : decode cX10_rule 93 = .ok (.getfield 53, 3) := by decide +kernel
theorem dX10_rule_96 : decode cX10_rule 96 = .ok (.invokevirtual 185, 3) := by decide +kernel
theorem dX10_rule_99 : decode cX10_rule 99 = .ok (.ireturn, 1) := by decide +kernel
theorem dX10_rule_100 : decode cX10_rule 100 = .ok (.aload_n 0, 1) := by decide +kernel
theorem dX10_rule_101 : decode cX10_rule 101 = .ok (.getfield 12, 3) := by decide +kernel
theorem dX10_rule_104 : decode cX10_rule 104 = .ok (.getfield 181, 3) := by decide +kernel
theorem dX10_rule_107 : decode cX10_rule 107 = .ok (.iconst 1, 1) := by decide +kernel
theorem dX10_rule_108 : decode cX10_rule 108 = .ok (.aload_n 0, 1) := by decide +kernel
theorem dX10_rule_109 : decode cX10_rule 109 = .ok (.getfield 53, 3) := by decide +kernel
theorem dX10_rule_112 : decode cX10_rule 112 = .ok (.iconst 4, 1) := by decide +kernel
theorem dX10_rule_113 : decode cX10_rule 113 = .ok (.invokevirtual 191, 3) := by decide +kernel
theorem dX10_rule_116 : decode cX10_rule 116 = .ok (.ireturn, 1) := by decide +kernel
theorem dX10_rule_117 : decode cX10_rule 117 = .ok (.aload_n 0, 1) := by decide +kernel
theorem dX10_rule_118 : decode cX10_rule 118 = .ok (.getfield 12, 3) := by decide +kernel
theorem dX10_rule_121 : decode cX10_rule 121 = .ok (.getfield 181, 3) := by decide +kernel
theorem dX10_rule_124 : decode cX10_rule 124 = .ok (.iconst 2, 1) := by decide +kernel
theorem dX10_rule_125 : decode cX10_rule 125 = .ok (.aload_n 0, 1) := by decide +kernel
theorem dX10_rule_126 : decode cX10_rule 126 = .ok (.getfield 53, 3) := by decide +kernel
theorem dX10_rule_129 : decode cX10_rule 129 = .ok (.iconst 0, 1) := by decide +kernel
theorem dX10_rule_130 : decode cX10_rule 130 = .ok (.invokevirtual 191, 3) := by decide +kernel
theorem dX10_rule_133 : decode cX10_rule 133 = .ok (.ireturn, 1) := by decide +kernel
theorem dX10_round_0 : decode cX10_round 0 = .ok (.aload_n 0, 1) := by decide +kernel
theorem dX10_round_1 : decode cX10_round 1 = .ok (.iload_n 1, 1) := by decide +kernel
theorem dX10_round_2 : decode cX10_round 2 = .ok (.iload_n 2, 1) := by decide +kernel
theorem dX10_round_3 : decode cX10_round 3 = .ok (.invokevirtual 278, 3) := by decide +kernel
theorem dX10_round_6 : decode cX10_round 6 = .ok (.ifCond .ne 5, 3) := by decide +kernel
theorem dX10_round_9 : decode cX10_round 9 = .ok (.iconst (-1), 1) := by decide +kernel
theorem dX10_round_10 : decode cX10_round 10 = .ok (.ireturn, 1) := by decide +kernel
theorem dX10_round_11 : decode cX10_round 11 = .ok (.iload_n 3, 1) := by decide +kernel
theorem dX10_round_12 : decode cX10_round 12 = .ok (.tableswitch 54 0 2 #[28, 36, 44], 28) := by decide +kernel
theorem dX10_round_40 : decode cX10_round 40 = .ok (.aload_n 0, 1) := by decide +kernel
theorem dX10_round_41 : decode cX10_round 41 = .ok (.getfield 35, 3) := by decide +kernel
theorem dX10_round_44 : decode cX10_round 44 = .ok (.getfield 281, 3) := by decide +kernel
theorem dX10_round_47 : decode cX10_round 47 = .ok (.ireturn, 1) := by decide +kernel
theorem dX10_round_48 : decode cX10_round 48 = .ok (.aload_n 0, 1) := by decide +kernel
theorem dX10_round_49 : decode cX10_round 49 = .ok (.getfield 35, 3) := by decide +kernel
theorem dX10_round_52 : decode cX10_round 52 = .ok (.getfield 284, 3) := by decide +kernel
theorem dX10_round_55 : decode cX10_round 55 = .ok (.ireturn, 1) := by decide +kernel
theorem dX10_round_56 : decode cX10_round 56 = .ok (.aload_n 0, 1) := by decide +kernel
theorem dX10_round_57 : decode cX10_round 57 = .ok (.getfield 35, 3) := by decide +kernel
theorem dX10_round_60 : decode cX10_round 60 = .ok (.getfield 287, 3) := by decide +kernel
theorem dX10_round_63 : decode cX10_round 63 = .ok (.iconst 1, 1) := by decide +kernel
theorem dX10_round_64 : decode cX10_round 64 = .ok (.ishl, 1) := by decide +kernel
theorem dX10_round_65 : decode cX10_round 65 = .ok (.ireturn, 1) := by decide +kernel
theorem dX10_round_66 : decode cX10_round 66 = .ok (.iconst (-1), 1) := by decide +kernel
theorem dX10_round_67 : decode cX10_round 67 = .ok (.ireturn, 1) := by decide +kernel
theorem dX10_stop_0 : decode cX10_stop 0 = .ok (.aload_n 0, 1) := by decide +kernel
theorem dX10_stop_1 : decode cX10_stop 1 = .ok (.iload_n 1, 1) := by decide +kernel
theorem dX10_stop_2 : decode cX10_stop 2 = .ok (.iload_n 2, 1) := by decide +kernel
theorem dX10_stop_3 : decode cX10_stop 3 = .ok (.invokevirtual 278, 3) := by decide +kernel
theorem dX10_stop_6 : decode cX10_stop 6 = .ok (.ifCond .eq 14, 3) := by decide +kernel
theorem dX10_stop_9 : decode cX10_stop 9 = .ok (.aload_n 0, 1) := by decide +kernel
theorem dX10_stop_10 : decode cX10_stop 10 = .ok (.getfield 35, 3) := by decide +kernel
theorem dX10_stop_13 : decode cX10_stop 13 = .ok (.iload_n 3, 1) := by decide +kernel
theorem dX10_stop_14 : decode cX10_stop 14 = .ok (.invokevirtual 290, 3) := by decide +kernel
theorem dX10_stop_17 : decode cX10_stop 17 = .ok (.goto 4, 3) := by decide +kernel
theorem dX10_stop_20 : decode cX10_stop 20 = .ok (.iconst (-1), 1) := by decide +kernel
theorem dX10_stop_21 : decode cX10_stop 21 = .ok (.ireturn, 1) := by decide +kernel
theorem dX10_wish_0 : decode cX10_wish 0 = .ok (.aload_n 0, 1) := by decide +kernel
theorem dX10_wish_1 : decode cX10_wish 1 = .ok (.getfield 12, 3) := by decide +kernel
theorem dX10_wish_4 : decode cX10_wish 4 = .ok (.getfield 88, 3) := by decide +kernel
theorem dX10_wish_7 : decode cX10_wish 7 = .ok (.iload_n 1, 1) := by decide +kernel
theorem dX10_wish_8 : decode cX10_wish 8 = .ok (.invokevirtual 118, 3) := by decide +kernel
theorem dX10_wish_11 : decode cX10_wish 11 = .ok (.ifCond .eq 23, 3) := by decide +kernel
theorem dX10_wish_14 : decode cX10_wish 14 = .ok (.iload_n 2, 1) := by decide +kernel
theorem dX10_wish_15 : decode cX10_wish 15 = .ok (.iconst 0, 1) := by decide +kernel
theorem dX10_wish_16 : decode cX10_wish 16 = .ok (.bipush 7, 2) := by decide +kernel
theorem dX10_wish_18 : decode cX10_wish 18 = .ok (.invokestatic 77, 3) := by decide +kernel
theorem dX10_wish_21 : decode cX10_wish 21 = .ok (.ifCond .eq 13, 3) := by decide +kernel
theorem dX10_wish_24 : decode cX10_wish 24 = .ok (.iload_n 3, 1) := by decide +kernel
theorem dX10_wish_25 : decode cX10_wish 25 = .ok (.iconst 0, 1) := by decide +kernel
theorem dX10_wish_26 : decode cX10_wish 26 = .ok (.bipush 99, 2) := by decide +kernel
theorem dX10_wish_28 : decode cX10_wish 28 = .ok (.invokestatic 77, 3) := by decide +kernel
theorem dX10_wish_31 : decode cX10_wish 31 = .ok (.ifCond .ne 5, 3) := by decide +kernel
theorem dX10_wish_34 : decode cX10_wish 34 = .ok (.iconst 0, 1) := by decide +kernel
theorem dX10_wish_35 : decode cX10_wish 35 = .ok (.ireturn, 1) := by decide +kernel
theorem dX10_wish_36 : decode cX10_wish 36 = .ok (.aload_n 0, 1) := by decide +kernel
theorem dX10_wish_37 : decode cX10_wish 37 = .ok (.getfield 12, 3) := by decide +kernel
theorem dX10_wish_40 : decode cX10_wish 40 = .ok (.getfield 88, 3) := by decide +kernel
theorem dX10_wish_43 : decode cX10_wish 43 = .ok (.getfield 294, 3) := by decide +kernel
theorem dX10_wish_46 : decode cX10_wish 46 = .ok (.iload_n 1, 1) := by decide +kernel
theorem dX10_wish_47 : decode cX10_wish 47 = .ok (.bipush 8, 2) := by decide +kernel
theorem dX10_wish_49 : decode cX10_wish 49 = .ok (.imul, 1) := by decide +kernel
theorem dX10_wish_50 : decode cX10_wish 50 = .ok (.iload_n 2, 1) := by decide +kernel
theorem dX10_wish_51 : decode cX10_wish 51 = .ok (.iadd, 1) := by decide +kernel
theorem dX10_wish_52 : decode cX10_wish 52 = .ok (.iload_n 3, 1) := by decide +kernel
theorem dX10_wish_53 : decode cX10_wish 53 = .ok (.iastore, 1) := by decide +kernel
theorem dX10_wish_54 : decode cX10_wish 54 = .ok (.iconst 1, 1) := by decide +kernel
theorem dX10_wish_55 : decode cX10_wish 55 = .ok (.ireturn, 1) := by decide +kernel
theorem dX10_load_0 : decode cX10_load 0 = .ok (.aload_n 0, 1) := by decide +kernel
theorem dX10_load_1 : decode cX10_load 1 = .ok (.getfield 12, 3) := by decide +kernel
theorem dX10_load_4 : decode cX10_load 4 = .ok (.getfield 88, 3) := by decide +kernel
theorem dX10_load_7 : decode cX10_load 7 = .ok (.iload_n 1, 1) := by decide +kernel
theorem dX10_load_8 : decode cX10_load 8 = .ok (.invokevirtual 118, 3) := by decide +kernel
theorem dX10_load_11 : decode cX10_load 11 = .ok (.ifCond .eq 23, 3) := by decide +kernel
theorem dX10_load_14 : decode cX10_load 14 = .ok (.iload_n 2, 1) := by decide +kernel
theorem dX10_load_15 : decode cX10_load 15 = .ok (.iconst 1, 1) := by decide +kernel
theorem dX10_load_16 : decode cX10_load 16 = .ok (.sipush 20000, 3) := by decide +kernel
theorem dX10_load_19 : decode cX10_load 19 = .ok (.invokestatic 77, 3) := by decide +kernel
theorem dX10_load_22 : decode cX10_load 22 = .ok (.ifCond .eq 12, 3) := by decide +kernel
theorem dX10_load_25 : decode cX10_load 25 = .ok (.iload_n 3, 1) := by decide +kernel
theorem dX10_load_26 : decode cX10_load 26 = .ok (.iconst 0, 1) := by decide +kernel
theorem dX10_load_27 : decode cX10_load 27 = .ok (.iconst 2, 1) := by decide +kernel
theorem dX10_load_28 : decode cX10_load 28 = .ok (.invokestatic 77, 3) := by decide +kernel
theorem dX10_load_31 : decode cX10_load 31 = .ok (.ifCond .ne 5, 3) := by decide +kernel
theorem dX10_load_34 : decode cX10_load 34 = .ok (.iconst (-1), 1) := by decide +kernel
theorem dX10_load_35 : decode cX10_load 35 = .ok (.ireturn, 1) := by decide +kernel
theorem dX10_load_36 : decode cX10_load 36 = .ok (.aload_n 0, 1) := by decide +kernel
theorem dX10_load_37 : decode cX10_load 37 = .ok (.iload_n 1, 1) := by decide +kernel
theorem dX10_load_38 : decode cX10_load 38 = .ok (.aload_n 0, 1) := by decide +kernel
theorem dX10_load_39 : decode cX10_load 39 = .ok (.getfield 12, 3) := by decide +kernel
theorem dX10_load_42 : decode cX10_load 42 = .ok (.getfield 92, 3) := by decide +kernel
theorem dX10_load_45 : decode cX10_load 45 = .ok (.aload_n 0, 1) := by decide +kernel
theorem dX10_load_46 : decode cX10_load 46 = .ok (.invokevirtual 132, 3) := by decide +kernel
theorem dX10_load_49 : decode cX10_load 49 = .ok (.invokevirtual 174, 3) := by decide +kernel
theorem dX10_load_52 : decode cX10_load 52 = .ok (.aload_n 0, 1) := by decide +kernel
theorem dX10_load_53 : decode cX10_load 53 = .ok (.iload_n 1, 1) := by decide +kernel
theorem dX10_load_54 : decode cX10_load 54 = .ok (.invokevirtual 297, 3) := by decide +kernel
theorem dX10_load_57 : decode cX10_load 57 = .ok (.aload_n 0, 1) := by decide +kernel
theorem dX10_load_58 : decode cX10_load 58 = .ok (.getfield 49, 3) := by decide +kernel
theorem dX10_load_61 : decode cX10_load 61 = .ok (.aload_n 0, 1) := by decide +kernel
theorem dX10_load_62 : decode cX10_load 62 = .ok (.getfield 12, 3) := by decide +kernel
theorem dX10_load_65 : decode cX10_load 65 = .ok (.iload_n 1, 1) := by decide +kernel
theorem dX10_load_66 : decode cX10_load 66 = .ok (.iload_n 2, 1) := by decide +kernel
theorem dX10_load_67 : decode cX10_load 67 = .ok (.invokevirtual 300, 3) := by decide +kernel
theorem dX10_load_70 : decode cX10_load 70 = .ok (.iload_n 3, 1) := by decide +kernel
theorem dX10_load_71 : decode cX10_load 71 = .ok (.lookupswitch 41 #[(0, 25), (1, 33)], 25) := by decide +kernel
theorem dX10_load_96 : decode cX10_load 96 = .ok (.aload_n 0, 1) := by decide +kernel
theorem dX10_load_97 : decode cX10_load 97 = .ok (.getfield 49, 3) := by decide +kernel
theorem dX10_load_100 : decode cX10_load 100 = .ok (.getfield 303, 3) := by decide +kernel
theorem dX10_load_103 : decode cX10_load 103 = .ok (.ireturn, 1) := by decide +kernel
theorem dX10_load_104 : decode cX10_load 104 = .ok (.aload_n 0, 1) := by decide +kernel
theorem dX10_load_105 : decode cX10_load 105 = .ok (.getfield 49, 3) := by decide +kernel
theorem dX10_load_108 : decode cX10_load 108 = .ok (.getfield 306, 3) := by decide +kernel
theorem dX10_load_111 : decode cX10_load 111 = .ok (.ireturn, 1) := by decide +kernel
theorem dX10_load_112 : decode cX10_load 112 = .ok (.aload_n 0, 1) := by decide +kernel
theorem dX10_load_113 : decode cX10_load 113 = .ok (.getfield 49, 3) := by decide +kernel
theorem dX10_load_116 : decode cX10_load 116 = .ok (.getfield 309, 3) := by decide +kernel
theorem dX10_load_119 : decode cX10_load 119 = .ok (.ireturn, 1) := by decide +kernel
theorem dX10_reader_0 : decode cX10_reader 0 = .ok (.aload_n 0, 1) := by decide +kernel
theorem dX10_reader_1 : decode cX10_reader 1 = .ok (.getfield 12, 3) := by decide +kernel
theorem dX10_reader_4 : decode cX10_reader 4 = .ok (.getfield 88, 3) := by decide +kernel
theorem dX10_reader_7 : decode cX10_reader 7 = .ok (.iload_n 1, 1) := by decide +kernel
theorem dX10_reader_8 : decode cX10_reader 8 = .ok (.invokevirtual 118, 3) := by decide +kernel
theorem dX10_reader_11 : decode cX10_reader 11 = .ok (.ifCond .eq 17, 3) := by decide +kernel
theorem dX10_reader_14 : decode cX10_reader 14 = .ok (.aload_n 0, 1) := by decide +kernel
theorem dX10_reader_15 : decode cX10_reader 15 = .ok (.getfield 12, 3) := by decide +kernel
theorem dX10_reader_18 : decode cX10_reader 18 = .ok (.getfield 310, 3) := by decide +kernel
theorem dX10_reader_21 : decode cX10_reader 21 = .ok (.iload_n 1, 1) := by decide +kernel
theorem dX10_reader_22 : decode cX10_reader 22 = .ok (.invokevirtual 314, 3) := by decide +kernel
theorem dX10_reader_25 : decode cX10_reader 25 = .ok (.goto 4, 3) := by decide +kernel
theorem dX10_reader_28 : decode cX10_reader 28 = .ok (.iconst (-1), 1) := by decide +kernel
theorem dX10_reader_29 : decode cX10_reader 29 = .ok (.ireturn, 1) := by decide +kernel
theorem dX10_read_0 : decode cX10_read 0 = .ok (.aload_n 0, 1) := by decide +kernel
theorem dX10_read_1 : decode cX10_read 1 = .ok (.getfield 12, 3) := by decide +kernel
theorem dX10_read_4 : decode cX10_read 4 = .ok (.getfield 310, 3) := by decide +kernel
theorem dX10_read_7 : decode cX10_read 7 = .ok (.iload_n 1, 1) := by decide +kernel
theorem dX10_read_8 : decode cX10_read 8 = .ok (.invokevirtual 319, 3) := by decide +kernel
theorem dX10_read_11 : decode cX10_read 11 = .ok (.ifCond .eq 32, 3) := by decide +kernel
theorem dX10_read_14 : decode cX10_read 14 = .ok (.aload_n 0, 1) := by decide +kernel
theorem dX10_read_15 : decode cX10_read 15 = .ok (.getfield 12, 3) := by decide +kernel
theorem dX10_read_18 : decode cX10_read 18 = .ok (.getfield 154, 3) := by decide +kernel
theorem dX10_read_21 : decode cX10_read 21 = .ok (.iload_n 2, 1) := by decide +kernel
theorem dX10_read_22 : decode cX10_read 22 = .ok (.invokevirtual 168, 3) := by decide +kernel
theorem dX10_read_25 : decode cX10_read 25 = .ok (.ifCond .eq 18, 3) := by decide +kernel
theorem dX10_read_28 : decode cX10_read 28 = .ok (.aload_n 0, 1) := by decide +kernel
theorem dX10_read_29 : decode cX10_read 29 = .ok (.getfield 12, 3) := by decide +kernel
theorem dX10_read_32 : decode cX10_read 32 = .ok (.getfield 310, 3) := by decide +kernel
theorem dX10_read_35 : decode cX10_read 35 = .ok (.iload_n 1, 1) := by decide +kernel
theorem dX10_read_36 : decode cX10_read 36 = .ok (.iload_n 2, 1) := by decide +kernel
theorem dX10_read_37 : decode cX10_read 37 = .ok (.invokevirtual 322, 3) := by decide +kernel
theorem dX10_read_40 : decode cX10_read 40 = .ok (.ifCond .eq 5, 3) := by decide +kernel
theorem dX10_read_43 : decode cX10_read 43 = .ok (.iconst 0, 1) := by decide +kernel
theorem dX10_read_44 : decode cX10_read 44 = .ok (.ireturn, 1) := by decide +kernel
theorem dX10_read_45 : decode cX10_read 45 = .ok (.aload_n 0, 1) := by decide +kernel
theorem dX10_read_46 : decode cX10_read 46 = .ok (.getfield 12, 3) := by decide +kernel
theorem dX10_read_49 : decode cX10_read 49 = .ok (.getfield 310, 3) := by decide +kernel
theorem dX10_read_52 : decode cX10_read 52 = .ok (.getfield 325, 3) := by decide +kernel
theorem dX10_read_55 : decode cX10_read 55 = .ok (.iload_n 1, 1) := by decide +kernel
theorem dX10_read_56 : decode cX10_read 56 = .ok (.dup2, 1) := by decide +kernel
theorem dX10_read_57 : decode cX10_read 57 = .ok (.iaload, 1) := by decide +kernel
theorem dX10_read_58 : decode cX10_read 58 = .ok (.iconst 1, 1) := by decide +kernel
theorem dX10_read_59 : decode cX10_read 59 = .ok (.iload_n 2, 1) := by decide +kernel
theorem dX10_read_60 : decode cX10_read 60 = .ok (.ishl, 1) := by decide +kernel
theorem dX10_read_61 : decode cX10_read 61 = .ok (.ior, 1) := by decide +kernel
theorem dX10_read_62 : decode cX10_read 62 = .ok (.iastore, 1) := by decide +kernel
theorem dX10_read_63 : decode cX10_read 63 = .ok (.iconst 1, 1) := by decide +kernel
theorem dX10_read_64 : decode cX10_read 64 = .ok (.ireturn, 1) := by decide +kernel
theorem dX10_learns_0 : decode cX10_learns 0 = .ok (.aload_n 0, 1) := by decide +kernel
theorem dX10_learns_1 : decode cX10_learns 1 = .ok (.getfield 12, 3) := by decide +kernel
theorem dX10_learns_4 : decode cX10_learns 4 = .ok (.getfield 310, 3) := by decide +kernel
theorem dX10_learns_7 : decode cX10_learns 7 = .ok (.astore_n 3, 1) := by decide +kernel
theorem dX10_learns_8 : decode cX10_learns 8 = .ok (.aload_n 3, 1) := by decide +kernel
theorem dX10_learns_9 : decode cX10_learns 9 = .ok (.iload_n 1, 1) := by decide +kernel
theorem dX10_learns_10 : decode cX10_learns 10 = .ok (.invokevirtual 319, 3) := by decide +kernel
theorem dX10_learns_13 : decode cX10_learns 13 = .ok (.ifCond .ne 6, 3) := by decide +kernel
theorem dX10_learns_16 : decode cX10_learns 16 = .ok (.bipush (-2), 2) := by decide +kernel
theorem dX10_learns_18 : decode cX10_learns 18 = .ok (.ireturn, 1) := by decide +kernel
theorem dX10_learns_19 : decode cX10_learns 19 = .ok (.iload_n 2, 1) := by decide +kernel
theorem dX10_learns_20 : decode cX10_learns 20 = .ok (.tableswitch 65 0 3 #[32, 39, 52, 59], 32) := by decide +kernel
theorem dX10_learns_52 : decode cX10_learns 52 = .ok (.aload_n 3, 1) := by decide +kernel
theorem dX10_learns_53 : decode cX10_learns 53 = .ok (.getfield 328, 3) := by decide +kernel
theorem dX10_learns_56 : decode cX10_learns 56 = .ok (.iload_n 1, 1) := by decide +kernel
theorem dX10_learns_57 : decode cX10_learns 57 = .ok (.iaload, 1) := by decide +kernel
theorem dX10_learns_58 : decode cX10_learns 58 = .ok (.ireturn, 1) := by decide +kernel
theorem dX10_learns_59 : decode cX10_learns 59 = .ok (.aload_n 3, 1) := by decide +kernel
theorem dX10_learns_60 : decode cX10_learns 60 = .ok (.iload_n 1, 1) := by decide +kernel
theorem dX10_learns_61 : decode cX10_learns 61 = .ok (.aload_n 0, 1) := by decide +kernel
theorem dX10_learns_62 : decode cX10_learns 62 = .ok (.getfield 12, 3) := by decide +kernel
theorem dX10_learns_65 : decode cX10_learns 65 = .ok (.getfield 154, 3) := by decide +kernel
theorem dX10_learns_68 : decode cX10_learns 68 = .ok (.invokevirtual 331, 3) := by decide +kernel
theorem dX10_learns_71 : decode cX10_learns 71 = .ok (.ireturn, 1) := by decide +kernel
theorem dX10_learns_72 : decode cX10_learns 72 = .ok (.aload_n 3, 1) := by decide +kernel
theorem dX10_learns_73 : decode cX10_learns 73 = .ok (.getfield 325, 3) := by decide +kernel
theorem dX10_learns_76 : decode cX10_learns 76 = .ok (.iload_n 1, 1) := by decide +kernel
theorem dX10_learns_77 : decode cX10_learns 77 = .ok (.iaload, 1) := by decide +kernel
theorem dX10_learns_78 : decode cX10_learns 78 = .ok (.ireturn, 1) := by decide +kernel
theorem dX10_learns_79 : decode cX10_learns 79 = .ok (.aload_n 0, 1) := by decide +kernel
theorem dX10_learns_80 : decode cX10_learns 80 = .ok (.iload_n 1, 1) := by decide +kernel
theorem dX10_learns_81 : decode cX10_learns 81 = .ok (.invokevirtual 335, 3) := by decide +kernel
theorem dX10_learns_84 : decode cX10_learns 84 = .ok (.ireturn, 1) := by decide +kernel
theorem dX10_learns_85 : decode cX10_learns 85 = .ok (.bipush (-2), 2) := by decide +kernel
theorem dX10_learns_87 : decode cX10_learns 87 = .ok (.ireturn, 1) := by decide +kernel
theorem dX10_giver_0 : decode cX10_giver 0 = .ok (.iload_n 1, 1) := by decide +kernel
theorem dX10_giver_1 : decode cX10_giver 1 = .ok (.iconst 0, 1) := by decide +kernel
theorem dX10_giver_2 : decode cX10_giver 2 = .ok (.bipush 7, 2) := by decide +kernel
theorem dX10_giver_4 : decode cX10_giver 4 = .ok (.invokestatic 77, 3) := by decide +kernel
theorem dX10_giver_7 : decode cX10_giver 7 = .ok (.ifCond .ne 5, 3) := by decide +kernel
theorem dX10_giver_10 : decode cX10_giver 10 = .ok (.iconst (-1), 1) := by decide +kernel
theorem dX10_giver_11 : decode cX10_giver 11 = .ok (.ireturn, 1) := by decide +kernel
theorem dX10_giver_12 : decode cX10_giver 12 = .ok (.aload_n 0, 1) := by decide +kernel
theorem dX10_giver_13 : decode cX10_giver 13 = .ok (.getfield 12, 3) := by decide +kernel
theorem dX10_giver_16 : decode cX10_giver 16 = .ok (.getfield 310, 3) := by decide +kernel
theorem dX10_giver_19 : decode cX10_giver 19 = .ok (.iload_n 1, 1) := by decide +kernel
theorem dX10_giver_20 : decode cX10_giver 20 = .ok (.aload_n 0, 1) := by decide +kernel
theorem dX10_giver_21 : decode cX10_giver 21 = .ok (.getfield 12, 3) := by decide +kernel
theorem dX10_giver_24 : decode cX10_giver 24 = .ok (.getfield 154, 3) := by decide +kernel
theorem dX10_giver_27 : decode cX10_giver 27 = .ok (.invokevirtual 338, 3) := by decide +kernel
theorem dX10_giver_30 : decode cX10_giver 30 = .ok (.istore_n 2, 1) := by decide +kernel
theorem dX10_giver_31 : decode cX10_giver 31 = .ok (.iload_n 2, 1) := by decide +kernel
theorem dX10_giver_32 : decode cX10_giver 32 = .ok (.invokestatic 341, 3) := by decide +kernel
theorem dX10_giver_35 : decode cX10_giver 35 = .ok (.ifCond .ne 11, 3) := by decide +kernel
theorem dX10_giver_38 : decode cX10_giver 38 = .ok (.iload_n 1, 1) := by decide +kernel
theorem dX10_giver_39 : decode cX10_giver 39 = .ok (.aload_n 0, 1) := by decide +kernel
theorem dX10_giver_40 : decode cX10_giver 40 = .ok (.invokevirtual 344, 3) := by decide +kernel
theorem dX10_giver_43 : decode cX10_giver 43 = .ok (.if_icmp .ne 6, 3) := by decide +kernel
theorem dX10_giver_46 : decode cX10_giver 46 = .ok (.bipush (-3), 2) := by decide +kernel
theorem dX10_giver_48 : decode cX10_giver 48 = .ok (.ireturn, 1) := by decide +kernel
theorem dX10_giver_49 : decode cX10_giver 49 = .ok (.iload_n 2, 1) := by decide +kernel
theorem dX10_giver_50 : decode cX10_giver 50 = .ok (.ireturn, 1) := by decide +kernel
theorem dX10_house_0 : decode cX10_house 0 = .ok (.iload_n 1, 1) := by decide +kernel
theorem dX10_house_1 : decode cX10_house 1 = .ok (.invokestatic 102, 3) := by decide +kernel
theorem dX10_house_4 : decode cX10_house 4 = .ok (.ifCond .eq 28, 3) := by decide +kernel
theorem dX10_house_7 : decode cX10_house 7 = .ok (.iload_n 2, 1) := by decide +kernel
theorem dX10_house_8 : decode cX10_house 8 = .ok (.invokestatic 102, 3) := by decide +kernel
theorem dX10_house_11 : decode cX10_house 11 = .ok (.ifCond .eq 21, 3) := by decide +kernel
theorem dX10_house_14 : decode cX10_house 14 = .ok (.iload_n 1, 1) := by decide +kernel
theorem dX10_house_15 : decode cX10_house 15 = .ok (.iload_n 2, 1) := by decide +kernel
theorem dX10_house_16 : decode cX10_house 16 = .ok (.if_icmp .gt 16, 3) := by decide +kernel
theorem dX10_house_19 : decode cX10_house 19 = .ok (.aload_n 0, 1) := by decide +kernel
theorem dX10_house_20 : decode cX10_house 20 = .ok (.getfield 12, 3) := by decide +kernel
theorem dX10_house_23 : decode cX10_house 23 = .ok (.getfield 60, 3) := by decide +kernel
theorem dX10_house_26 : decode cX10_house 26 = .ok (.getfield 347, 3) := by decide +kernel
theorem dX10_house_29 : decode cX10_house 29 = .ok (.ifCond .ne 5, 3) := by decide +kernel
theorem dX10_house_32 : decode cX10_house 32 = .ok (.iconst (-1), 1) := by decide +kernel
theorem dX10_house_33 : decode cX10_house 33 = .ok (.ireturn, 1) := by decide +kernel
theorem dX10_house_34 : decode cX10_house 34 = .ok (.aload_n 0, 1) := by decide +kernel
theorem dX10_house_35 : decode cX10_house 35 = .ok (.iload_n 1, 1) := by decide +kernel
theorem dX10_house_36 : decode cX10_house 36 = .ok (.iload_n 2, 1) := by decide +kernel
theorem dX10_house_37 : decode cX10_house 37 = .ok (.invokevirtual 350, 3) := by decide +kernel
theorem dX10_house_40 : decode cX10_house 40 = .ok (.iconst 0, 1) := by decide +kernel
theorem dX10_house_41 : decode cX10_house 41 = .ok (.istore 4, 2) := by decide +kernel
theorem dX10_house_43 : decode cX10_house 43 = .ok (.iconst 1, 1) := by decide +kernel
theorem dX10_house_44 : decode cX10_house 44 = .ok (.istore 5, 2) := by decide +kernel
theorem dX10_house_46 : decode cX10_house 46 = .ok (.iload 5, 2) := by decide +kernel
theorem dX10_house_48 : decode cX10_house 48 = .ok (.aload_n 0, 1) := by decide +kernel
theorem dX10_house_49 : decode cX10_house 49 = .ok (.getfield 12, 3) := by decide +kernel
theorem dX10_house_52 : decode cX10_house 52 = .ok (.getfield 60, 3) := by decide +kernel
theorem dX10_house_55 : decode cX10_house 55 = .ok (.getfield 347, 3) := by decide +kernel
theorem dX10_house_58 : decode cX10_house 58 = .ok (.if_icmp .ge 30, 3) := by decide +kernel
theorem dX10_house_61 : decode cX10_house 61 = .ok (.aload_n 0, 1) := by decide +kernel
theorem dX10_house_62 : decode cX10_house 62 = .ok (.getfield 57, 3) := by decide +kernel
theorem dX10_house_65 : decode cX10_house 65 = .ok (.iload 5, 2) := by decide +kernel
theorem dX10_house_67 : decode cX10_house 67 = .ok (.iaload, 1) := by decide +kernel
theorem dX10_house_68 : decode cX10_house 68 = .ok (.aload_n 0, 1) := by decide +kernel
theorem dX10_house_69 : decode cX10_house 69 = .ok (.getfield 57, 3) := by decide +kernel
theorem dX10_house_72 : decode cX10_house 72 = .ok (.iload 4, 2) := by decide +kernel
theorem dX10_house_74 : decode cX10_house 74 = .ok (.iaload, 1) := by decide +kernel
theorem dX10_house_75 : decode cX10_house 75 = .ok (.if_icmp .le 7, 3) := by decide +kernel
theorem dX10_house_78 : decode cX10_house 78 = .ok (.iload 5, 2) := by decide +kernel
theorem dX10_house_80 : decode cX10_house 80 = .ok (.istore 4, 2) := by decide +kernel
theorem dX10_house_82 : decode cX10_house 82 = .ok (.iinc 5 1, 3) := by decide +kernel
theorem dX10_house_85 : decode cX10_house 85 = .ok (.goto (-39), 3) := by decide +kernel
theorem dX10_house_88 : decode cX10_house 88 = .ok (.iload_n 3, 1) := by decide +kernel
theorem dX10_house_89 : decode cX10_house 89 = .ok (.lookupswitch 38 #[(0, 27), (1, 30)], 27) := by decide +kernel
theorem dX10_house_116 : decode cX10_house 116 = .ok (.iload 4, 2) := by decide +kernel
theorem dX10_house_118 : decode cX10_house 118 = .ok (.ireturn, 1) := by decide +kernel
theorem dX10_house_119 : decode cX10_house 119 = .ok (.aload_n 0, 1) := by decide +kernel
theorem dX10_house_120 : decode cX10_house 120 = .ok (.getfield 57, 3) := by decide +kernel
theorem dX10_house_123 : decode cX10_house 123 = .ok (.iload 4, 2) := by decide +kernel
theorem dX10_house_125 : decode cX10_house 125 = .ok (.iaload, 1) := by decide +kernel
theorem dX10_house_126 : decode cX10_house 126 = .ok (.ireturn, 1) := by decide +kernel
theorem dX10_house_127 : decode cX10_house 127 = .ok (.iconst (-1), 1) := by decide +kernel
theorem dX10_house_128 : decode cX10_house 128 = .ok (.ireturn, 1) := by decide +kernel
theorem dX10_count_0 : decode cX10_count 0 = .ok (.iload_n 1, 1) := by decide +kernel
theorem dX10_count_1 : decode cX10_count 1 = .ok (.tableswitch 234 0 11 #[63, 74, 85, 96, 107, 118, 129, 137, 145, 156, 178, 206], 63) := by decide +kernel
theorem dX10_count_64 : decode cX10_count 64 = .ok (.aload_n 0, 1) := by decide +kernel
theorem dX10_count_65 : decode cX10_count 65 = .ok (.getfield 12, 3) := by decide +kernel
theorem dX10_count_68 : decode cX10_count 68 = .ok (.getfield 60, 3) := by decide +kernel
theorem dX10_count_71 : decode cX10_count 71 = .ok (.getfield 347, 3) := by decide +kernel
theorem dX10_count_74 : decode cX10_count 74 = .ok (.ireturn, 1) := by decide +kernel
theorem dX10_count_75 : decode cX10_count 75 = .ok (.aload_n 0, 1) := by decide +kernel
theorem dX10_count_76 : decode cX10_count 76 = .ok (.getfield 12, 3) := by decide +kernel
theorem dX10_count_79 : decode cX10_count 79 = .ok (.getfield 88, 3) := by decide +kernel
theorem dX10_count_82 : decode cX10_count 82 = .ok (.getfield 354, 3) := by decide +kernel
theorem dX10_count_85 : decode cX10_count 85 = .ok (.ireturn, 1) := by decide +kernel
theorem dX10_count_86 : decode cX10_count 86 = .ok (.aload_n 0, 1) := by decide +kernel
theorem dX10_count_87 : decode cX10_count 87 = .ok (.getfield 12, 3) := by decide +kernel
theorem dX10_count_90 : decode cX10_count 90 = .ok (.getfield 154, 3) := by decide +kernel
theorem dX10_count_93 : decode cX10_count 93 = .ok (.getfield 356, 3) := by decide +kernel
theorem dX10_count_96 : decode cX10_count 96 = .ok (.ireturn, 1) := by decide +kernel
theorem dX10_count_97 : decode cX10_count 97 = .ok (.aload_n 0, 1) := by decide +kernel
theorem dX10_count_98 : decode cX10_count 98 = .ok (.getfield 12, 3) := by decide +kernel
theorem dX10_count_101 : decode cX10_count 101 = .ok (.getfield 88, 3) := by decide +kernel
theorem dX10_count_104 : decode cX10_count 104 = .ok (.getfield 358, 3) := by decide +kernel
theorem dX10_count_107 : decode cX10_count 107 = .ok (.ireturn, 1) := by decide +kernel
theorem dX10_count_108 : decode cX10_count 108 = .ok (.aload_n 0, 1) := by decide +kernel
theorem dX10_count_109 : decode cX10_count 109 = .ok (.getfield 12, 3) := by decide +kernel
theorem dX10_count_112 : decode cX10_count 112 = .ok (.getfield 154, 3) := by decide +kernel
theorem dX10_count_115 : decode cX10_count 115 = .ok (.getfield 202, 3) := by decide +kernel
theorem dX10_count_118 : decode cX10_count 118 = .ok (.ireturn, 1) := by decide +kernel
theorem dX10_count_119 : decode cX10_count 119 = .ok (.aload_n 0, 1) := by decide +kernel
theorem dX10_count_120 : decode cX10_count 120 = .ok (.getfield 12, 3) := by decide +kernel
theorem dX10_count_123 : decode cX10_count 123 = .ok (.getfield 310, 3) := by decide +kernel
theorem dX10_count_126 : decode cX10_count 126 = .ok (.getfield 361, 3) := by decide +kernel
theorem dX10_count_129 : decode cX10_count 129 = .ok (.ireturn, 1) := by decide +kernel
theorem dX10_count_130 : decode cX10_count 130 = .ok (.aload_n 0, 1) := by decide +kernel
theorem dX10_count_131 : decode cX10_count 131 = .ok (.getfield 12, 3) := by decide +kernel
theorem dX10_count_134 : decode cX10_count 134 = .ok (.getfield 92, 3) := by decide +kernel
theorem dX10_count_137 : decode cX10_count 137 = .ok (.ireturn, 1) := by decide +kernel
theorem dX10_count_138 : decode cX10_count 138 = .ok (.aload_n 0, 1) := by decide +kernel
theorem dX10_count_139 : decode cX10_count 139 = .ok (.getfield 12, 3) := by decide +kernel
theorem dX10_count_142 : decode cX10_count 142 = .ok (.getfield 115, 3) := by decide +kernel
theorem dX10_count_145 : decode cX10_count 145 = .ok (.ireturn, 1) := by decide +kernel
theorem dX10_count_146 : decode cX10_count 146 = .ok (.aload_n 0, 1) := by decide +kernel
theorem dX10_count_147 : decode cX10_count 147 = .ok (.getfield 12, 3) := by decide +kernel
theorem dX10_count_150 : decode cX10_count 150 = .ok (.getfield 181, 3) := by decide +kernel
theorem dX10_count_153 : decode cX10_count 153 = .ok (.getfield 275, 3) := by decide +kernel
theorem dX10_count_156 : decode cX10_count 156 = .ok (.ireturn, 1) := by decide +kernel
theorem dX10_count_157 : decode cX10_count 157 = .ok (.aload_n 0, 1) := by decide +kernel
theorem dX10_count_158 : decode cX10_count 158 = .ok (.getfield 12, 3) := by decide +kernel
theorem dX10_count_161 : decode cX10_count 161 = .ok (.getfield 154, 3) := by decide +kernel
theorem dX10_count_164 : decode cX10_count 164 = .ok (.aload_n 0, 1) := by decide +kernel
theorem dX10_count_165 : decode cX10_count 165 = .ok (.getfield 12, 3) := by decide +kernel
theorem dX10_count_168 : decode cX10_count 168 = .ok (.getfield 92, 3) := by decide +kernel
theorem dX10_count_171 : decode cX10_count 171 = .ok (.aload_n 0, 1) := by decide +kernel
theorem dX10_count_172 : decode cX10_count 172 = .ok (.invokevirtual 132, 3) := by decide +kernel
theorem dX10_count_175 : decode cX10_count 175 = .ok (.invokevirtual 363, 3) := by decide +kernel
theorem dX10_count_178 : decode cX10_count 178 = .ok (.ireturn, 1) := by decide +kernel
theorem dX10_count_179 : decode cX10_count 179 = .ok (.aload_n 0, 1) := by decide +kernel
theorem dX10_count_180 : decode cX10_count 180 = .ok (.getfield 12, 3) := by decide +kernel
theorem dX10_count_183 : decode cX10_count 183 = .ok (.getfield 88, 3) := by decide +kernel
theorem dX10_count_186 : decode cX10_count 186 = .ok (.getfield 367, 3) := by decide +kernel
theorem dX10_count_189 : decode cX10_count 189 = .ok (.aload_n 0, 1) := by decide +kernel
theorem dX10_count_190 : decode cX10_count 190 = .ok (.getfield 12, 3) := by decide +kernel
theorem dX10_count_193 : decode cX10_count 193 = .ok (.getfield 88, 3) := by decide +kernel
theorem dX10_count_196 : decode cX10_count 196 = .ok (.getfield 358, 3) := by decide +kernel
theorem dX10_count_199 : decode cX10_count 199 = .ok (.aload_n 0, 1) := by decide +kernel
theorem dX10_count_200 : decode cX10_count 200 = .ok (.invokevirtual 132, 3) := by decide +kernel
theorem dX10_count_203 : decode cX10_count 203 = .ok (.invokestatic 370, 3) := by decide +kernel
theorem dX10_count_206 : decode cX10_count 206 = .ok (.ireturn, 1) := by decide +kernel
theorem dX10_count_207 : decode cX10_count 207 = .ok (.aload_n 0, 1) := by decide +kernel
theorem dX10_count_208 : decode cX10_count 208 = .ok (.getfield 12, 3) := by decide +kernel
theorem dX10_count_211 : decode cX10_count 211 = .ok (.getfield 154, 3) := by decide +kernel
theorem dX10_count_214 : decode cX10_count 214 = .ok (.getfield 217, 3) := by decide +kernel
theorem dX10_count_217 : decode cX10_count 217 = .ok (.aload_n 0, 1) := by decide +kernel
theorem dX10_count_218 : decode cX10_count 218 = .ok (.getfield 12, 3) := by decide +kernel
theorem dX10_count_221 : decode cX10_count 221 = .ok (.getfield 154, 3) := by decide +kernel
theorem dX10_count_224 : decode cX10_count 224 = .ok (.getfield 202, 3) := by decide +kernel
theorem dX10_count_227 : decode cX10_count 227 = .ok (.aload_n 0, 1) := by decide +kernel
theorem dX10_count_228 : decode cX10_count 228 = .ok (.invokevirtual 132, 3) := by decide +kernel
theorem dX10_count_231 : decode cX10_count 231 = .ok (.invokestatic 370, 3) := by decide +kernel
theorem dX10_count_234 : decode cX10_count 234 = .ok (.ireturn, 1) := by decide +kernel
theorem dX10_count_235 : decode cX10_count 235 = .ok (.bipush (-2), 2) := by decide +kernel
theorem dX10_count_237 : decode cX10_count 237 = .ok (.ireturn, 1) := by decide +kernel
theorem dX10_image_0 : decode cX10_image 0 = .ok (.iload_n 1, 1) := by decide +kernel
theorem dX10_image_1 : decode cX10_image 1 = .ok (.iconst 0, 1) := by decide +kernel
theorem dX10_image_2 : decode cX10_image 2 = .ok (.iconst 2, 1) := by decide +kernel
theorem dX10_image_3 : decode cX10_image 3 = .ok (.invokestatic 77, 3) := by decide +kernel
theorem dX10_image_6 : decode cX10_image 6 = .ok (.ifCond .ne 5, 3) := by decide +kernel
theorem dX10_image_9 : decode cX10_image 9 = .ok (.iconst 0, 1) := by decide +kernel
theorem dX10_image_10 : decode cX10_image 10 = .ok (.ireturn, 1) := by decide +kernel
theorem dX10_image_11 : decode cX10_image 11 = .ok (.aload_n 0, 1) := by decide +kernel
theorem dX10_image_12 : decode cX10_image 12 = .ok (.getfield 16, 3) := by decide +kernel
theorem dX10_image_15 : decode cX10_image 15 = .ok (.iload_n 1, 1) := by decide +kernel
theorem dX10_image_16 : decode cX10_image 16 = .ok (.aaload, 1) := by decide +kernel
theorem dX10_image_17 : decode cX10_image 17 = .ok (.ifnonnull 16, 3) := by decide +kernel
theorem dX10_image_20 : decode cX10_image 20 = .ok (.aload_n 0, 1) := by decide +kernel
theorem dX10_image_21 : decode cX10_image 21 = .ok (.getfield 16, 3) := by decide +kernel
theorem dX10_image_24 : decode cX10_image 24 = .ok (.iload_n 1, 1) := by decide +kernel
theorem dX10_image_25 : decode cX10_image 25 = .ok (.new 9, 3) := by decide +kernel
theorem dX10_image_28 : decode cX10_image 28 = .ok (.dup, 1) := by decide +kernel
theorem dX10_image_29 : decode cX10_image 29 = .ok (.invokespecial 11, 3) := by decide +kernel
theorem dX10_image_32 : decode cX10_image 32 = .ok (.aastore, 1) := by decide +kernel
theorem dX10_image_33 : decode cX10_image 33 = .ok (.aload_n 0, 1) := by decide +kernel
theorem dX10_image_34 : decode cX10_image 34 = .ok (.getfield 16, 3) := by decide +kernel
theorem dX10_image_37 : decode cX10_image 37 = .ok (.iload_n 1, 1) := by decide +kernel
theorem dX10_image_38 : decode cX10_image 38 = .ok (.aaload, 1) := by decide +kernel
theorem dX10_image_39 : decode cX10_image 39 = .ok (.aload_n 0, 1) := by decide +kernel
theorem dX10_image_40 : decode cX10_image 40 = .ok (.getfield 12, 3) := by decide +kernel
theorem dX10_image_43 : decode cX10_image 43 = .ok (.invokevirtual 374, 3) := by decide +kernel
theorem dX10_image_46 : decode cX10_image 46 = .ok (.iconst 1, 1) := by decide +kernel
theorem dX10_image_47 : decode cX10_image 47 = .ok (.ireturn, 1) := by decide +kernel
theorem dX10_again_0 : decode cX10_again 0 = .ok (.iload_n 1, 1) := by decide +kernel
theorem dX10_again_1 : decode cX10_again 1 = .ok (.iconst 0, 1) := by decide +kernel
theorem dX10_again_2 : decode cX10_again 2 = .ok (.iconst 2, 1) := by decide +kernel
theorem dX10_again_3 : decode cX10_again 3 = .ok (.invokestatic 77, 3) := by decide +kernel
theorem dX10_again_6 : decode cX10_again 6 = .ok (.ifCond .eq 12, 3) := by decide +kernel
theorem dX10_again_9 : decode cX10_again 9 = .ok (.aload_n 0, 1) := by decide +kernel
theorem dX10_again_10 : decode cX10_again 10 = .ok (.getfield 16, 3) := by decide +kernel
theorem dX10_again_13 : decode cX10_again 13 = .ok (.iload_n 1, 1) := by decide +kernel
theorem dX10_again_14 : decode cX10_again 14 = .ok (.aaload, 1) := by decide +kernel
theorem dX10_again_15 : decode cX10_again 15 = .ok (.ifnonnull 5, 3) := by decide +kernel
theorem dX10_again_18 : decode cX10_again 18 = .ok (.iconst 0, 1) := by decide +kernel
theorem dX10_again_19 : decode cX10_again 19 = .ok (.ireturn, 1) := by decide +kernel
theorem dX10_again_20 : decode cX10_again 20 = .ok (.aload_n 0, 1) := by decide +kernel
theorem dX10_again_21 : decode cX10_again 21 = .ok (.getfield 12, 3) := by decide +kernel
theorem dX10_again_24 : decode cX10_again 24 = .ok (.aload_n 0, 1) := by decide +kernel
theorem dX10_again_25 : decode cX10_again 25 = .ok (.getfield 16, 3) := by decide +kernel
theorem dX10_again_28 : decode cX10_again 28 = .ok (.iload_n 1, 1) := by decide +kernel
theorem dX10_again_29 : decode cX10_again 29 = .ok (.aaload, 1) := by decide +kernel
theorem dX10_again_30 : decode cX10_again 30 = .ok (.invokevirtual 374, 3) := by decide +kernel
theorem dX10_again_33 : decode cX10_again 33 = .ok (.aload_n 0, 1) := by decide +kernel
theorem dX10_again_34 : decode cX10_again 34 = .ok (.invokevirtual 70, 3) := by decide +kernel
theorem dX10_again_37 : decode cX10_again 37 = .ok (.iconst 1, 1) := by decide +kernel
theorem dX10_again_38 : decode cX10_again 38 = .ok (.ireturn, 1) := by decide +kernel
theorem dX10_isIn_0 : decode cX10_isIn 0 = .ok (.iload_n 0, 1) := by decide +kernel
theorem dX10_isIn_1 : decode cX10_isIn 1 = .ok (.iload_n 1, 1) := by decide +kernel
theorem dX10_isIn_2 : decode cX10_isIn 2 = .ok (.if_icmp .lt 12, 3) := by decide +kernel
theorem dX10_isIn_5 : decode cX10_isIn 5 = .ok (.iload_n 0, 1) := by decide +kernel
theorem dX10_isIn_6 : decode cX10_isIn 6 = .ok (.iload_n 2, 1) := by decide +kernel
theorem dX10_isIn_7 : decode cX10_isIn 7 = .ok (.if_icmp .gt 7, 3) := by decide +kernel
theorem dX10_isIn_10 : decode cX10_isIn 10 = .ok (.iconst 1, 1) := by decide +kernel
theorem dX10_isIn_11 : decode cX10_isIn 11 = .ok (.goto 4, 3) := by decide +kernel
theorem dX10_isIn_14 : decode cX10_isIn 14 = .ok (.iconst 0, 1) := by decide +kernel
theorem dX10_isIn_15 : decode cX10_isIn 15 = .ok (.ireturn, 1) := by decide +kernel
theorem dX10_isWeek_0 : decode cX10_isWeek 0 = .ok (.iload_n 0, 1) := by decide +kernel
theorem dX10_isWeek_1 : decode cX10_isWeek 1 = .ok (.iconst 0, 1) := by decide +kernel
theorem dX10_isWeek_2 : decode cX10_isWeek 2 = .ok (.bipush 99, 2) := by decide +kernel
theorem dX10_isWeek_4 : decode cX10_isWeek 4 = .ok (.invokestatic 77, 3) := by decide +kernel
theorem dX10_isWeek_7 : decode cX10_isWeek 7 = .ok (.ireturn, 1) := by decide +kernel
theorem dX10_isPast_0 : decode cX10_isPast 0 = .ok (.iload_n 1, 1) := by decide +kernel
theorem dX10_isPast_1 : decode cX10_isPast 1 = .ok (.iconst 0, 1) := by decide +kernel
theorem dX10_isPast_2 : decode cX10_isPast 2 = .ok (.aload_n 0, 1) := by decide +kernel
theorem dX10_isPast_3 : decode cX10_isPast 3 = .ok (.getfield 12, 3) := by decide +kernel
theorem dX10_isPast_6 : decode cX10_isPast 6 = .ok (.getfield 92, 3) := by decide +kernel
theorem dX10_isPast_9 : decode cX10_isPast 9 = .ok (.invokestatic 77, 3) := by decide +kernel
theorem dX10_isPast_12 : decode cX10_isPast 12 = .ok (.ireturn, 1) := by decide +kernel
theorem dX10_isThere_0 : decode cX10_isThere 0 = .ok (.aload_n 0, 1) := by decide +kernel
theorem dX10_isThere_1 : decode cX10_isThere 1 = .ok (.getfield 12, 3) := by decide +kernel
theorem dX10_isThere_4 : decode cX10_isThere 4 = .ok (.getfield 88, 3) := by decide +kernel
theorem dX10_isThere_7 : decode cX10_isThere 7 = .ok (.iload_n 1, 1) := by decide +kernel
theorem dX10_isThere_8 : decode cX10_isThere 8 = .ok (.invokevirtual 118, 3) := by decide +kernel
theorem dX10_isThere_11 : decode cX10_isThere 11 = .ok (.ifCond .eq 30, 3) := by decide +kernel
theorem dX10_isThere_14 : decode cX10_isThere 14 = .ok (.iload_n 2, 1) := by decide +kernel
theorem dX10_isThere_15 : decode cX10_isThere 15 = .ok (.invokestatic 102, 3) := by decide +kernel
theorem dX10_isThere_18 : decode cX10_isThere 18 = .ok (.ifCond .eq 23, 3) := by decide +kernel
theorem dX10_isThere_21 : decode cX10_isThere 21 = .ok (.iload_n 2, 1) := by decide +kernel
theorem dX10_isThere_22 : decode cX10_isThere 22 = .ok (.aload_n 0, 1) := by decide +kernel
theorem dX10_isThere_23 : decode cX10_isThere 23 = .ok (.getfield 12, 3) := by decide +kernel
theorem dX10_isThere_26 : decode cX10_isThere 26 = .ok (.getfield 88, 3) := by decide +kernel
theorem dX10_isThere_29 : decode cX10_isThere 29 = .ok (.getfield 121, 3) := by decide +kernel
theorem dX10_isThere_32 : decode cX10_isThere 32 = .ok (.iload_n 1, 1) := by decide +kernel
theorem dX10_isThere_33 : decode cX10_isThere 33 = .ok (.iaload, 1) := by decide +kernel
theorem dX10_isThere_34 : decode cX10_isThere 34 = .ok (.if_icmp .lt 7, 3) := by decide +kernel
theorem dX10_isThere_37 : decode cX10_isThere 37 = .ok (.iconst 1, 1) := by decide +kernel
theorem dX10_isThere_38 : decode cX10_isThere 38 = .ok (.goto 4, 3) := by decide +kernel
theorem dX10_isThere_41 : decode cX10_isThere 41 = .ok (.iconst 0, 1) := by decide +kernel
theorem dX10_isThere_42 : decode cX10_isThere 42 = .ok (.ireturn, 1) := by decide +kernel
theorem dX10_limit_0 : decode cX10_limit 0 = .ok (.aload_n 0, 1) := by decide +kernel
theorem dX10_limit_1 : decode cX10_limit 1 = .ok (.getfield 12, 3) := by decide +kernel
theorem dX10_limit_4 : decode cX10_limit 4 = .ok (.getfield 115, 3) := by decide +kernel
theorem dX10_limit_7 : decode cX10_limit 7 = .ok (.iconst (-1), 1) := by decide +kernel
theorem dX10_limit_8 : decode cX10_limit 8 = .ok (.if_icmp .ne 8, 3) := by decide +kernel
theorem dX10_limit_11 : decode cX10_limit 11 = .ok (.bipush 99, 2) := by decide +kernel
theorem dX10_limit_13 : decode cX10_limit 13 = .ok (.goto 10, 3) := by decide +kernel
theorem dX10_limit_16 : decode cX10_limit 16 = .ok (.aload_n 0, 1) := by decide +kernel
theorem dX10_limit_17 : decode cX10_limit 17 = .ok (.getfield 12, 3) := by decide +kernel
theorem dX10_limit_20 : decode cX10_limit 20 = .ok (.getfield 115, 3) := by decide +kernel
theorem dX10_limit_23 : decode cX10_limit 23 = .ok (.ireturn, 1) := by decide +kernel
theorem dX10_countUpTo_0 : decode cX10_countUpTo 0 = .ok (.iconst 0, 1) := by decide +kernel
theorem dX10_countUpTo_1 : decode cX10_countUpTo 1 = .ok (.istore_n 3, 1) := by decide +kernel
theorem dX10_countUpTo_2 : decode cX10_countUpTo 2 = .ok (.iconst 0, 1) := by decide +kernel
theorem dX10_countUpTo_3 : decode cX10_countUpTo 3 = .ok (.istore 4, 2) := by decide +kernel
theorem dX10_countUpTo_5 : decode cX10_countUpTo 5 = .ok (.iload 4, 2) := by decide +kernel
theorem dX10_countUpTo_7 : decode cX10_countUpTo 7 = .ok (.iload_n 1, 1) := by decide +kernel
theorem dX10_countUpTo_8 : decode cX10_countUpTo 8 = .ok (.if_icmp .ge 20, 3) := by decide +kernel
theorem dX10_countUpTo_11 : decode cX10_countUpTo 11 = .ok (.aload_n 0, 1) := by decide +kernel
theorem dX10_countUpTo_12 : decode cX10_countUpTo 12 = .ok (.iload 4, 2) := by decide +kernel
theorem dX10_countUpTo_14 : decode cX10_countUpTo 14 = .ok (.iaload, 1) := by decide +kernel
theorem dX10_countUpTo_15 : decode cX10_countUpTo 15 = .ok (.iload_n 2, 1) := by decide +kernel
theorem dX10_countUpTo_16 : decode cX10_countUpTo 16 = .ok (.if_icmp .gt 6, 3) := by decide +kernel
theorem dX10_countUpTo_19 : decode cX10_countUpTo 19 = .ok (.iinc 3 1, 3) := by decide +kernel
theorem dX10_countUpTo_22 : decode cX10_countUpTo 22 = .ok (.iinc 4 1, 3) := by decide +kernel
theorem dX10_countUpTo_25 : decode cX10_countUpTo 25 = .ok (.goto (-20), 3) := by decide +kernel
theorem dX10_countUpTo_28 : decode cX10_countUpTo 28 = .ok (.iload_n 3, 1) := by decide +kernel
theorem dX10_countUpTo_29 : decode cX10_countUpTo 29 = .ok (.ireturn, 1) := by decide +kernel
theorem dX10_forgetParts_0 : decode cX10_forgetParts 0 = .ok (.aload_n 0, 1) := by decide +kernel
theorem dX10_forgetParts_1 : decode cX10_forgetParts 1 = .ok (.getfield 25, 3) := by decide +kernel
theorem dX10_forgetParts_4 : decode cX10_forgetParts 4 = .ok (.invokevirtual 377, 3) := by decide +kernel
theorem dX10_forgetParts_7 : decode cX10_forgetParts 7 = .ok (.aload_n 0, 1) := by decide +kernel
theorem dX10_forgetParts_8 : decode cX10_forgetParts 8 = .ok (.getfield 29, 3) := by decide +kernel
theorem dX10_forgetParts_11 : decode cX10_forgetParts 11 = .ok (.invokevirtual 377, 3) := by decide +kernel
theorem dX10_forgetParts_14 : decode cX10_forgetParts 14 = .ok (.return_, 1) := by decide +kernel
theorem dX10_forgetWays_0 : decode cX10_forgetWays 0 = .ok (.aload_n 0, 1) := by decide +kernel
theorem dX10_forgetWays_1 : decode cX10_forgetWays 1 = .ok (.invokevirtual 85, 3) := by decide +kernel
theorem dX10_forgetWays_4 : decode cX10_forgetWays 4 = .ok (.aload_n 0, 1) := by decide +kernel
theorem dX10_forgetWays_5 : decode cX10_forgetWays 5 = .ok (.getfield 35, 3) := by decide +kernel
theorem dX10_forgetWays_8 : decode cX10_forgetWays 8 = .ok (.invokevirtual 380, 3) := by decide +kernel
theorem dX10_forgetWays_11 : decode cX10_forgetWays 11 = .ok (.return_, 1) := by decide +kernel
theorem dX10_whereBy_0 : decode cX10_whereBy 0 = .ok (.iload_n 1, 1) := by decide +kernel
theorem dX10_whereBy_1 : decode cX10_whereBy 1 = .ok (.bipush 99, 2) := by decide +kernel
theorem dX10_whereBy_3 : decode cX10_whereBy 3 = .ok (.if_icmp .ne 8, 3) := by decide +kernel
theorem dX10_whereBy_6 : decode cX10_whereBy 6 = .ok (.aload_n 0, 1) := by decide +kernel
theorem dX10_whereBy_7 : decode cX10_whereBy 7 = .ok (.getfield 25, 3) := by decide +kernel
theorem dX10_whereBy_10 : decode cX10_whereBy 10 = .ok (.areturn, 1) := by decide +kernel
theorem dX10_whereBy_11 : decode cX10_whereBy 11 = .ok (.aload_n 0, 1) := by decide +kernel
theorem dX10_whereBy_12 : decode cX10_whereBy 12 = .ok (.getfield 29, 3) := by decide +kernel
theorem dX10_whereBy_15 : decode cX10_whereBy 15 = .ok (.iload_n 1, 1) := by decide +kernel
theorem dX10_whereBy_16 : decode cX10_whereBy 16 = .ok (.invokevirtual 381, 3) := by decide +kernel
theorem dX10_whereBy_19 : decode cX10_whereBy 19 = .ok (.aload_n 0, 1) := by decide +kernel
theorem dX10_whereBy_20 : decode cX10_whereBy 20 = .ok (.getfield 29, 3) := by decide +kernel
theorem dX10_whereBy_23 : decode cX10_whereBy 23 = .ok (.areturn, 1) := by decide +kernel
theorem dX10_gatherCamp_0 : decode cX10_gatherCamp 0 = .ok (.aload_n 0, 1) := by decide +kernel
theorem dX10_gatherCamp_1 : decode cX10_gatherCamp 1 = .ok (.getfield 12, 3) := by decide +kernel
theorem dX10_gatherCamp_4 : decode cX10_gatherCamp 4 = .ok (.getfield 154, 3) := by decide +kernel
theorem dX10_gatherCamp_7 : decode cX10_gatherCamp 7 = .ok (.astore 4, 2) := by decide +kernel
theorem dX10_gatherCamp_9 : decode cX10_gatherCamp 9 = .ok (.aload_n 0, 1) := by decide +kernel
theorem dX10_gatherCamp_10 : decode cX10_gatherCamp 10 = .ok (.getfield 53, 3) := by decide +kernel
theorem dX10_gatherCamp_13 : decode cX10_gatherCamp 13 = .ok (.iconst 1, 1) := by decide +kernel
theorem dX10_gatherCamp_14 : decode cX10_gatherCamp 14 = .ok (.aload_n 0, 1) := by decide +kernel
theorem dX10_gatherCamp_15 : decode cX10_gatherCamp 15 = .ok (.getfield 12, 3) := by decide +kernel
theorem dX10_gatherCamp_18 : decode cX10_gatherCamp 18 = .ok (.getfield 60, 3) := by decide +kernel
theorem dX10_gatherCamp_21 : decode cX10_gatherCamp 21 = .ok (.getfield 109, 3) := by decide +kernel
theorem dX10_gatherCamp_24 : decode cX10_gatherCamp 24 = .ok (.iload_n 2, 1) := by decide +kernel
theorem dX10_gatherCamp_25 : decode cX10_gatherCamp 25 = .ok (.iaload, 1) := by decide +kernel
theorem dX10_gatherCamp_26 : decode cX10_gatherCamp 26 = .ok (.iastore, 1) := by decide +kernel
theorem dX10_gatherCamp_27 : decode cX10_gatherCamp 27 = .ok (.aload_n 0, 1) := by decide +kernel
theorem dX10_gatherCamp_28 : decode cX10_gatherCamp 28 = .ok (.getfield 53, 3) := by decide +kernel
theorem dX10_gatherCamp_31 : decode cX10_gatherCamp 31 = .ok (.iconst 2, 1) := by decide +kernel
theorem dX10_gatherCamp_32 : decode cX10_gatherCamp 32 = .ok (.iconst 0, 1) := by decide +kernel
theorem dX10_gatherCamp_33 : decode cX10_gatherCamp 33 = .ok (.iastore, 1) := by decide +kernel
theorem dX10_gatherCamp_34 : decode cX10_gatherCamp 34 = .ok (.iload_n 2, 1) := by decide +kernel
theorem dX10_gatherCamp_35 : decode cX10_gatherCamp 35 = .ok (.aload_n 0, 1) := by decide +kernel
theorem dX10_gatherCamp_36 : decode cX10_gatherCamp 36 = .ok (.getfield 12, 3) := by decide +kernel
theorem dX10_gatherCamp_39 : decode cX10_gatherCamp 39 = .ok (.getfield 88, 3) := by decide +kernel
theorem dX10_gatherCamp_42 : decode cX10_gatherCamp 42 = .ok (.getfield 121, 3) := by decide +kernel
theorem dX10_gatherCamp_45 : decode cX10_gatherCamp 45 = .ok (.iload_n 1, 1) := by decide +kernel
theorem dX10_gatherCamp_46 : decode cX10_gatherCamp 46 = .ok (.iaload, 1) := by decide +kernel
theorem dX10_gatherCamp_47 : decode cX10_gatherCamp 47 = .ok (.if_icmp .lt 37, 3) := by decide +kernel
theorem dX10_gatherCamp_50 : decode cX10_gatherCamp 50 = .ok (.aload_n 0, 1) := by decide +kernel
theorem dX10_gatherCamp_51 : decode cX10_gatherCamp 51 = .ok (.getfield 12, 3) := by decide +kernel
theorem dX10_gatherCamp_54 : decode cX10_gatherCamp 54 = .ok (.getfield 60, 3) := by decide +kernel
theorem dX10_gatherCamp_57 : decode cX10_gatherCamp 57 = .ok (.aload_n 0, 1) := by decide +kernel
theorem dX10_gatherCamp_58 : decode cX10_gatherCamp 58 = .ok (.iload_n 3, 1) := by decide +kernel
theorem dX10_gatherCamp_59 : decode cX10_gatherCamp 59 = .ok (.invokevirtual 136, 3) := by decide +kernel
theorem dX10_gatherCamp_62 : decode cX10_gatherCamp 62 = .ok (.aload_n 0, 1) := by decide +kernel
theorem dX10_gatherCamp_63 : decode cX10_gatherCamp 63 = .ok (.getfield 12, 3) := by decide +kernel
theorem dX10_gatherCamp_66 : decode cX10_gatherCamp 66 = .ok (.iload_n 1, 1) := by decide +kernel
theorem dX10_gatherCamp_67 : decode cX10_gatherCamp 67 = .ok (.iload_n 2, 1) := by decide +kernel
theorem dX10_gatherCamp_68 : decode cX10_gatherCamp 68 = .ok (.invokevirtual 147, 3) := by decide +kernel
theorem dX10_gatherCamp_71 : decode cX10_gatherCamp 71 = .ok (.invokevirtual 384, 3) := by decide +kernel
theorem dX10_gatherCamp_74 : decode cX10_gatherCamp 74 = .ok (.ifCond .eq 10, 3) := by decide +kernel
theorem dX10_gatherCamp_77 : decode cX10_gatherCamp 77 = .ok (.aload_n 0, 1) := by decide +kernel
theorem dX10_gatherCamp_78 : decode cX10_gatherCamp 78 = .ok (.getfield 53, 3) := by decide +kernel
theorem dX10_gatherCamp_81 : decode cX10_gatherCamp 81 = .ok (.iconst 2, 1) := by decide +kernel
theorem dX10_gatherCamp_82 : decode cX10_gatherCamp 82 = .ok (.iconst 1, 1) := by decide +kernel
theorem dX10_gatherCamp_83 : decode cX10_gatherCamp 83 = .ok (.iastore, 1) := by decide +kernel
theorem dX10_gatherCamp_84 : decode cX10_gatherCamp 84 = .ok (.aload_n 0, 1) := by decide +kernel
theorem dX10_gatherCamp_85 : decode cX10_gatherCamp 85 = .ok (.getfield 53, 3) := by decide +kernel
theorem dX10_gatherCamp_88 : decode cX10_gatherCamp 88 = .ok (.iconst 3, 1) := by decide +kernel
theorem dX10_gatherCamp_89 : decode cX10_gatherCamp 89 = .ok (.aload 4, 2) := by decide +kernel
theorem dX10_gatherCamp_91 : decode cX10_gatherCamp 91 = .ok (.iload_n 1, 1) := by decide +kernel
theorem dX10_gatherCamp_92 : decode cX10_gatherCamp 92 = .ok (.iload_n 2, 1) := by decide +kernel
theorem dX10_gatherCamp_93 : decode cX10_gatherCamp 93 = .ok (.iload_n 3, 1) := by decide +kernel
theorem dX10_gatherCamp_94 : decode cX10_gatherCamp 94 = .ok (.invokevirtual 233, 3) := by decide +kernel
theorem dX10_gatherCamp_97 : decode cX10_gatherCamp 97 = .ok (.iastore, 1) := by decide +kernel
theorem dX10_gatherCamp_98 : decode cX10_gatherCamp 98 = .ok (.aload_n 0, 1) := by decide +kernel
theorem dX10_gatherCamp_99 : decode cX10_gatherCamp 99 = .ok (.getfield 53, 3) := by decide +kernel
theorem dX10_gatherCamp_102 : decode cX10_gatherCamp 102 = .ok (.iconst 4, 1) := by decide +kernel
theorem dX10_gatherCamp_103 : decode cX10_gatherCamp 103 = .ok (.aload 4, 2) := by decide +kernel
theorem dX10_gatherCamp_105 : decode cX10_gatherCamp 105 = .ok (.iload_n 1, 1) := by decide +kernel
theorem dX10_gatherCamp_106 : decode cX10_gatherCamp 106 = .ok (.iload_n 2, 1) := by decide +kernel
theorem dX10_gatherCamp_107 : decode cX10_gatherCamp 107 = .ok (.iload_n 3, 1) := by decide +kernel
theorem dX10_gatherCamp_108 : decode cX10_gatherCamp 108 = .ok (.aload_n 0, 1) := by decide +kernel
theorem dX10_gatherCamp_109 : decode cX10_gatherCamp 109 = .ok (.getfield 12, 3) := by decide +kernel
theorem dX10_gatherCamp_112 : decode cX10_gatherCamp 112 = .ok (.getfield 60, 3) := by decide +kernel
theorem dX10_gatherCamp_115 : decode cX10_gatherCamp 115 = .ok (.getfield 109, 3) := by decide +kernel
theorem dX10_gatherCamp_118 : decode cX10_gatherCamp 118 = .ok (.invokevirtual 236, 3) := by decide +kernel
theorem dX10_gatherCamp_121 : decode cX10_gatherCamp 121 = .ok (.iastore, 1) := by decide +kernel
theorem dX10_gatherCamp_122 : decode cX10_gatherCamp 122 = .ok (.aload_n 0, 1) := by decide +kernel
theorem dX10_gatherCamp_123 : decode cX10_gatherCamp 123 = .ok (.getfield 53, 3) := by decide +kernel
theorem dX10_gatherCamp_126 : decode cX10_gatherCamp 126 = .ok (.bipush 8, 2) := by decide +kernel
theorem dX10_gatherCamp_128 : decode cX10_gatherCamp 128 = .ok (.aload 4, 2) := by decide +kernel
theorem dX10_gatherCamp_130 : decode cX10_gatherCamp 130 = .ok (.iload_n 1, 1) := by decide +kernel
theorem dX10_gatherCamp_131 : decode cX10_gatherCamp 131 = .ok (.iload_n 2, 1) := by decide +kernel
theorem dX10_gatherCamp_132 : decode cX10_gatherCamp 132 = .ok (.iload_n 3, 1) := by decide +kernel
theorem dX10_gatherCamp_133 : decode cX10_gatherCamp 133 = .ok (.invokevirtual 239, 3) := by decide +kernel
theorem dX10_gatherCamp_136 : decode cX10_gatherCamp 136 = .ok (.iastore, 1) := by decide +kernel
theorem dX10_gatherCamp_137 : decode cX10_gatherCamp 137 = .ok (.aload_n 0, 1) := by decide +kernel
theorem dX10_gatherCamp_138 : decode cX10_gatherCamp 138 = .ok (.getfield 53, 3) := by decide +kernel
theorem dX10_gatherCamp_141 : decode cX10_gatherCamp 141 = .ok (.bipush 9, 2) := by decide +kernel
theorem dX10_gatherCamp_143 : decode cX10_gatherCamp 143 = .ok (.iload_n 2, 1) := by decide +kernel
theorem dX10_gatherCamp_144 : decode cX10_gatherCamp 144 = .ok (.iastore, 1) := by decide +kernel
theorem dX10_gatherCamp_145 : decode cX10_gatherCamp 145 = .ok (.return_, 1) := by decide +kernel
theorem dX10_gatherBook_0 : decode cX10_gatherBook 0 = .ok (.aload_n 0, 1) := by decide +kernel
theorem dX10_gatherBook_1 : decode cX10_gatherBook 1 = .ok (.getfield 12, 3) := by decide +kernel
theorem dX10_gatherBook_4 : decode cX10_gatherBook 4 = .ok (.getfield 154, 3) := by decide +kernel
theorem dX10_gatherBook_7 : decode cX10_gatherBook 7 = .ok (.astore 5, 2) := by decide +kernel
theorem dX10_gatherBook_9 : decode cX10_gatherBook 9 = .ok (.aload_n 0, 1) := by decide +kernel
theorem dX10_gatherBook_10 : decode cX10_gatherBook 10 = .ok (.getfield 53, 3) := by decide +kernel
theorem dX10_gatherBook_13 : decode cX10_gatherBook 13 = .ok (.iconst 0, 1) := by decide +kernel
theorem dX10_gatherBook_14 : decode cX10_gatherBook 14 = .ok (.aload 5, 2) := by decide +kernel
theorem dX10_gatherBook_16 : decode cX10_gatherBook 16 = .ok (.getfield 387, 3) := by decide +kernel
theorem dX10_gatherBook_19 : decode cX10_gatherBook 19 = .ok (.iload_n 2, 1) := by decide +kernel
theorem dX10_gatherBook_20 : decode cX10_gatherBook 20 = .ok (.iaload, 1) := by decide +kernel
theorem dX10_gatherBook_21 : decode cX10_gatherBook 21 = .ok (.aload_n 0, 1) := by decide +kernel
theorem dX10_gatherBook_22 : decode cX10_gatherBook 22 = .ok (.getfield 12, 3) := by decide +kernel
theorem dX10_gatherBook_25 : decode cX10_gatherBook 25 = .ok (.getfield 88, 3) := by decide +kernel
theorem dX10_gatherBook_28 : decode cX10_gatherBook 28 = .ok (.getfield 390, 3) := by decide +kernel
theorem dX10_gatherBook_31 : decode cX10_gatherBook 31 = .ok (.iload_n 1, 1) := by decide +kernel
theorem dX10_gatherBook_32 : decode cX10_gatherBook 32 = .ok (.iaload, 1) := by decide +kernel
theorem dX10_gatherBook_33 : decode cX10_gatherBook 33 = .ok (.if_icmp .ne 7, 3) := by decide +kernel
theorem dX10_gatherBook_36 : decode cX10_gatherBook 36 = .ok (.iconst 1, 1) := by decide +kernel
theorem dX10_gatherBook_37 : decode cX10_gatherBook 37 = .ok (.goto 4, 3) := by decide +kernel
theorem dX10_gatherBook_40 : decode cX10_gatherBook 40 = .ok (.iconst 0, 1) := by decide +kernel
theorem dX10_gatherBook_41 : decode cX10_gatherBook 41 = .ok (.iastore, 1) := by decide +kernel
theorem dX10_gatherBook_42 : decode cX10_gatherBook 42 = .ok (.aload_n 0, 1) := by decide +kernel
theorem dX10_gatherBook_43 : decode cX10_gatherBook 43 = .ok (.getfield 53, 3) := by decide +kernel
theorem dX10_gatherBook_46 : decode cX10_gatherBook 46 = .ok (.iconst 5, 1) := by decide +kernel
theorem dX10_gatherBook_47 : decode cX10_gatherBook 47 = .ok (.aload 5, 2) := by decide +kernel
theorem dX10_gatherBook_49 : decode cX10_gatherBook 49 = .ok (.getfield 391, 3) := by decide +kernel
theorem dX10_gatherBook_52 : decode cX10_gatherBook 52 = .ok (.iload_n 2, 1) := by decide +kernel
theorem dX10_gatherBook_53 : decode cX10_gatherBook 53 = .ok (.iaload, 1) := by decide +kernel
theorem dX10_gatherBook_54 : decode cX10_gatherBook 54 = .ok (.iastore, 1) := by decide +kernel
theorem dX10_gatherBook_55 : decode cX10_gatherBook 55 = .ok (.aload_n 0, 1) := by decide +kernel
theorem dX10_gatherBook_56 : decode cX10_gatherBook 56 = .ok (.getfield 53, 3) := by decide +kernel
theorem dX10_gatherBook_59 : decode cX10_gatherBook 59 = .ok (.bipush 6, 2) := by decide +kernel
theorem dX10_gatherBook_61 : decode cX10_gatherBook 61 = .ok (.aload 5, 2) := by decide +kernel
theorem dX10_gatherBook_63 : decode cX10_gatherBook 63 = .ok (.getfield 394, 3) := by decide +kernel
theorem dX10_gatherBook_66 : decode cX10_gatherBook 66 = .ok (.iload_n 2, 1) := by decide +kernel
theorem dX10_gatherBook_67 : decode cX10_gatherBook 67 = .ok (.iaload, 1) := by decide +kernel
theorem dX10_gatherBook_68 : decode cX10_gatherBook 68 = .ok (.iastore, 1) := by decide +kernel
theorem dX10_gatherBook_69 : decode cX10_gatherBook 69 = .ok (.aload_n 0, 1) := by decide +kernel
theorem dX10_gatherBook_70 : decode cX10_gatherBook 70 = .ok (.getfield 53, 3) := by decide +kernel
theorem dX10_gatherBook_73 : decode cX10_gatherBook 73 = .ok (.bipush 7, 2) := by decide +kernel
theorem dX10_gatherBook_75 : decode cX10_gatherBook 75 = .ok (.aload 5, 2) := by decide +kernel
theorem dX10_gatherBook_77 : decode cX10_gatherBook 77 = .ok (.iload_n 2, 1) := by decide +kernel
theorem dX10_gatherBook_78 : decode cX10_gatherBook 78 = .ok (.iload_n 3, 1) := by decide +kernel
theorem dX10_gatherBook_79 : decode cX10_gatherBook 79 = .ok (.iload 4, 2) := by decide +kernel
theorem dX10_gatherBook_81 : decode cX10_gatherBook 81 = .ok (.invokevirtual 199, 3) := by decide +kernel
theorem dX10_gatherBook_84 : decode cX10_gatherBook 84 = .ok (.iastore, 1) := by decide +kernel
theorem dX10_gatherBook_85 : decode cX10_gatherBook 85 = .ok (.return_, 1) := by decide +kernel
theorem dX10_sumParts_0 : decode cX10_sumParts 0 = .ok (.aload_n 0, 1) := by decide +kernel
theorem dX10_sumParts_1 : decode cX10_sumParts 1 = .ok (.aload_n 0, 1) := by decide +kernel
theorem dX10_sumParts_2 : decode cX10_sumParts 2 = .ok (.invokevirtual 132, 3) := by decide +kernel
theorem dX10_sumParts_5 : decode cX10_sumParts 5 = .ok (.invokevirtual 136, 3) := by decide +kernel
theorem dX10_sumParts_8 : decode cX10_sumParts 8 = .ok (.astore_n 3, 1) := by decide +kernel
theorem dX10_sumParts_9 : decode cX10_sumParts 9 = .ok (.aload_n 0, 1) := by decide +kernel
theorem dX10_sumParts_10 : decode cX10_sumParts 10 = .ok (.getfield 57, 3) := by decide +kernel
theorem dX10_sumParts_13 : decode cX10_sumParts 13 = .ok (.iconst 0, 1) := by decide +kernel
theorem dX10_sumParts_14 : decode cX10_sumParts 14 = .ok (.invokestatic 397, 3) := by decide +kernel
theorem dX10_sumParts_17 : decode cX10_sumParts 17 = .ok (.iconst 0, 1) := by decide +kernel
theorem dX10_sumParts_18 : decode cX10_sumParts 18 = .ok (.istore 4, 2) := by decide +kernel
theorem dX10_sumParts_20 : decode cX10_sumParts 20 = .ok (.iload 4, 2) := by decide +kernel
theorem dX10_sumParts_22 : decode cX10_sumParts 22 = .ok (.aload_n 0, 1) := by decide +kernel
theorem dX10_sumParts_23 : decode cX10_sumParts 23 = .ok (.getfield 12, 3) := by decide +kernel
theorem dX10_sumParts_26 : decode cX10_sumParts 26 = .ok (.getfield 88, 3) := by decide +kernel
theorem dX10_sumParts_29 : decode cX10_sumParts 29 = .ok (.getfield 354, 3) := by decide +kernel
theorem dX10_sumParts_32 : decode cX10_sumParts 32 = .ok (.if_icmp .ge 95, 3) := by decide +kernel
theorem dX10_sumParts_35 : decode cX10_sumParts 35 = .ok (.aload_n 3, 1) := by decide +kernel
theorem dX10_sumParts_36 : decode cX10_sumParts 36 = .ok (.aload_n 0, 1) := by decide +kernel
theorem dX10_sumParts_37 : decode cX10_sumParts 37 = .ok (.getfield 12, 3) := by decide +kernel
theorem dX10_sumParts_40 : decode cX10_sumParts 40 = .ok (.iload 4, 2) := by decide +kernel
theorem dX10_sumParts_42 : decode cX10_sumParts 42 = .ok (.iload_n 2, 1) := by decide +kernel
theorem dX10_sumParts_43 : decode cX10_sumParts 43 = .ok (.invokevirtual 140, 3) := by decide +kernel
theorem dX10_sumParts_46 : decode cX10_sumParts 46 = .ok (.iload_n 1, 1) := by decide +kernel
theorem dX10_sumParts_47 : decode cX10_sumParts 47 = .ok (.aload_n 0, 1) := by decide +kernel
theorem dX10_sumParts_48 : decode cX10_sumParts 48 = .ok (.getfield 12, 3) := by decide +kernel
theorem dX10_sumParts_51 : decode cX10_sumParts 51 = .ok (.getfield 88, 3) := by decide +kernel
theorem dX10_sumParts_54 : decode cX10_sumParts 54 = .ok (.getfield 121, 3) := by decide +kernel
theorem dX10_sumParts_57 : decode cX10_sumParts 57 = .ok (.iload 4, 2) := by decide +kernel
theorem dX10_sumParts_59 : decode cX10_sumParts 59 = .ok (.iaload, 1) := by decide +kernel
theorem dX10_sumParts_60 : decode cX10_sumParts 60 = .ok (.invokestatic 402, 3) := by decide +kernel
theorem dX10_sumParts_63 : decode cX10_sumParts 63 = .ok (.istore 5, 2) := by decide +kernel
theorem dX10_sumParts_65 : decode cX10_sumParts 65 = .ok (.iload 5, 2) := by decide +kernel
theorem dX10_sumParts_67 : decode cX10_sumParts 67 = .ok (.iload_n 2, 1) := by decide +kernel
theorem dX10_sumParts_68 : decode cX10_sumParts 68 = .ok (.if_icmp .gt 53, 3) := by decide +kernel
theorem dX10_sumParts_71 : decode cX10_sumParts 71 = .ok (.iconst 0, 1) := by decide +kernel
theorem dX10_sumParts_72 : decode cX10_sumParts 72 = .ok (.istore 6, 2) := by decide +kernel
theorem dX10_sumParts_74 : decode cX10_sumParts 74 = .ok (.iload 6, 2) := by decide +kernel
theorem dX10_sumParts_76 : decode cX10_sumParts 76 = .ok (.aload_n 0, 1) := by decide +kernel
theorem dX10_sumParts_77 : decode cX10_sumParts 77 = .ok (.getfield 12, 3) := by decide +kernel
theorem dX10_sumParts_80 : decode cX10_sumParts 80 = .ok (.getfield 60, 3) := by decide +kernel
theorem dX10_sumParts_83 : decode cX10_sumParts 83 = .ok (.getfield 347, 3) := by decide +kernel
theorem dX10_sumParts_86 : decode cX10_sumParts 86 = .ok (.if_icmp .ge 29, 3) := by decide +kernel
theorem dX10_sumParts_89 : decode cX10_sumParts 89 = .ok (.aload_n 0, 1) := by decide +kernel
theorem dX10_sumParts_90 : decode cX10_sumParts 90 = .ok (.getfield 57, 3) := by decide +kernel
theorem dX10_sumParts_93 : decode cX10_sumParts 93 = .ok (.iload 6, 2) := by decide +kernel
theorem dX10_sumParts_95 : decode cX10_sumParts 95 = .ok (.dup2, 1) := by decide +kernel
theorem dX10_sumParts_96 : decode cX10_sumParts 96 = .ok (.iaload, 1) := by decide +kernel
theorem dX10_sumParts_97 : decode cX10_sumParts 97 = .ok (.aload_n 3, 1) := by decide +kernel
theorem dX10_sumParts_98 : decode cX10_sumParts 98 = .ok (.iload 4, 2) := by decide +kernel
theorem dX10_sumParts_100 : decode cX10_sumParts 100 = .ok (.iload 6, 2) := by decide +kernel
theorem dX10_sumParts_102 : decode cX10_sumParts 102 = .ok (.iload 5, 2) := by decide +kernel
theorem dX10_sumParts_104 : decode cX10_sumParts 104 = .ok (.invokevirtual 144, 3) := by decide +kernel
theorem dX10_sumParts_107 : decode cX10_sumParts 107 = .ok (.iadd, 1) := by decide +kernel
theorem dX10_sumParts_108 : decode cX10_sumParts 108 = .ok (.iastore, 1) := by decide +kernel
theorem dX10_sumParts_109 : decode cX10_sumParts 109 = .ok (.iinc 6 1, 3) := by decide +kernel
theorem dX10_sumParts_112 : decode cX10_sumParts 112 = .ok (.goto (-38), 3) := by decide +kernel
theorem dX10_sumParts_115 : decode cX10_sumParts 115 = .ok (.iinc 5 1, 3) := by decide +kernel
theorem dX10_sumParts_118 : decode cX10_sumParts 118 = .ok (.goto (-53), 3) := by decide +kernel
theorem dX10_sumParts_121 : decode cX10_sumParts 121 = .ok (.iinc 4 1, 3) := by decide +kernel
theorem dX10_sumParts_124 : decode cX10_sumParts 124 = .ok (.goto (-104), 3) := by decide +kernel
theorem dX10_sumParts_127 : decode cX10_sumParts 127 = .ok (.return_, 1) := by decide +kernel
theorem dX10_walkRound_0 : decode cX10_walkRound 0 = .ok (.iload_n 1, 1) := by decide +kernel
theorem dX10_walkRound_1 : decode cX10_walkRound 1 = .ok (.invokestatic 102, 3) := by decide +kernel
theorem dX10_walkRound_4 : decode cX10_walkRound 4 = .ok (.ifCond .eq 26, 3) := by decide +kernel
theorem dX10_walkRound_7 : decode cX10_walkRound 7 = .ok (.iload_n 2, 1) := by decide +kernel
theorem dX10_walkRound_8 : decode cX10_walkRound 8 = .ok (.iconst 1, 1) := by decide +kernel
theorem dX10_walkRound_9 : decode cX10_walkRound 9 = .ok (.bipush 60, 2) := by decide +kernel
theorem dX10_walkRound_11 : decode cX10_walkRound 11 = .ok (.invokestatic 77, 3) := by decide +kernel
theorem dX10_walkRound_14 : decode cX10_walkRound 14 = .ok (.ifCond .eq 16, 3) := by decide +kernel
theorem dX10_walkRound_17 : decode cX10_walkRound 17 = .ok (.aload_n 0, 1) := by decide +kernel
theorem dX10_walkRound_18 : decode cX10_walkRound 18 = .ok (.getfield 12, 3) := by decide +kernel
theorem dX10_walkRound_21 : decode cX10_walkRound 21 = .ok (.getfield 60, 3) := by decide +kernel
theorem dX10_walkRound_24 : decode cX10_walkRound 24 = .ok (.getfield 347, 3) := by decide +kernel
theorem dX10_walkRound_27 : decode cX10_walkRound 27 = .ok (.ifCond .ne 5, 3) := by decide +kernel
theorem dX10_walkRound_30 : decode cX10_walkRound 30 = .ok (.iconst 0, 1) := by decide +kernel
theorem dX10_walkRound_31 : decode cX10_walkRound 31 = .ok (.ireturn, 1) := by decide +kernel
theorem dX10_walkRound_32 : decode cX10_walkRound 32 = .ok (.aload_n 0, 1) := by decide +kernel
theorem dX10_walkRound_33 : decode cX10_walkRound 33 = .ok (.iload_n 1, 1) := by decide +kernel
theorem dX10_walkRound_34 : decode cX10_walkRound 34 = .ok (.iload_n 1, 1) := by decide +kernel
theorem dX10_walkRound_35 : decode cX10_walkRound 35 = .ok (.invokevirtual 350, 3) := by decide +kernel
theorem dX10_walkRound_38 : decode cX10_walkRound 38 = .ok (.aload_n 0, 1) := by decide +kernel
theorem dX10_walkRound_39 : decode cX10_walkRound 39 = .ok (.getfield 35, 3) := by decide +kernel
theorem dX10_walkRound_42 : decode cX10_walkRound 42 = .ok (.aload_n 0, 1) := by decide +kernel
theorem dX10_walkRound_43 : decode cX10_walkRound 43 = .ok (.getfield 12, 3) := by decide +kernel
theorem dX10_walkRound_46 : decode cX10_walkRound 46 = .ok (.getfield 60, 3) := by decide +kernel
theorem dX10_walkRound_49 : decode cX10_walkRound 49 = .ok (.aload_n 0, 1) := by decide +kernel
theorem dX10_walkRound_50 : decode cX10_walkRound 50 = .ok (.getfield 57, 3) := by decide +kernel
theorem dX10_walkRound_53 : decode cX10_walkRound 53 = .ok (.iload_n 2, 1) := by decide +kernel
theorem dX10_walkRound_54 : decode cX10_walkRound 54 = .ok (.invokevirtual 407, 3) := by decide +kernel
theorem dX10_walkRound_57 : decode cX10_walkRound 57 = .ok (.iconst 1, 1) := by decide +kernel
theorem dX10_walkRound_58 : decode cX10_walkRound 58 = .ok (.ireturn, 1) := by decide +kernel
theorem dX10_offerBooks_0 : decode cX10_offerBooks 0 = .ok (.aload_n 0, 1) := by decide +kernel
theorem dX10_offerBooks_1 : decode cX10_offerBooks 1 = .ok (.getfield 12, 3) := by decide +kernel
theorem dX10_offerBooks_4 : decode cX10_offerBooks 4 = .ok (.getfield 154, 3) := by decide +kernel
theorem dX10_offerBooks_7 : decode cX10_offerBooks 7 = .ok (.astore_n 2, 1) := by decide +kernel
theorem dX10_offerBooks_8 : decode cX10_offerBooks 8 = .ok (.aload_n 0, 1) := by decide +kernel
theorem dX10_offerBooks_9 : decode cX10_offerBooks 9 = .ok (.getfield 12, 3) := by decide +kernel
theorem dX10_offerBooks_12 : decode cX10_offerBooks 12 = .ok (.getfield 92, 3) := by decide +kernel
theorem dX10_offerBooks_15 : decode cX10_offerBooks 15 = .ok (.istore_n 3, 1) := by decide +kernel
theorem dX10_offerBooks_16 : decode cX10_offerBooks 16 = .ok (.aload_n 0, 1) := by decide +kernel
theorem dX10_offerBooks_17 : decode cX10_offerBooks 17 = .ok (.getfield 49, 3) := by decide +kernel
theorem dX10_offerBooks_20 : decode cX10_offerBooks 20 = .ok (.invokevirtual 410, 3) := by decide +kernel
theorem dX10_offerBooks_23 : decode cX10_offerBooks 23 = .ok (.iconst 0, 1) := by decide +kernel
theorem dX10_offerBooks_24 : decode cX10_offerBooks 24 = .ok (.istore 4, 2) := by decide +kernel
theorem dX10_offerBooks_26 : decode cX10_offerBooks 26 = .ok (.iload 4, 2) := by decide +kernel
theorem dX10_offerBooks_28 : decode cX10_offerBooks 28 = .ok (.aload_n 2, 1) := by decide +kernel
theorem dX10_offerBooks_29 : decode cX10_offerBooks 29 = .ok (.getfield 356, 3) := by decide +kernel
theorem dX10_offerBooks_32 : decode cX10_offerBooks 32 = .ok (.if_icmp .ge 89, 3) := by decide +kernel
theorem dX10_offerBooks_35 : decode cX10_offerBooks 35 = .ok (.aload_n 0, 1) := by decide +kernel
theorem dX10_offerBooks_36 : decode cX10_offerBooks 36 = .ok (.iload_n 1, 1) := by decide +kernel
theorem dX10_offerBooks_37 : decode cX10_offerBooks 37 = .ok (.iload 4, 2) := by decide +kernel
theorem dX10_offerBooks_39 : decode cX10_offerBooks 39 = .ok (.iload_n 3, 1) := by decide +kernel
theorem dX10_offerBooks_40 : decode cX10_offerBooks 40 = .ok (.aload_n 0, 1) := by decide +kernel
theorem dX10_offerBooks_41 : decode cX10_offerBooks 41 = .ok (.invokevirtual 132, 3) := by decide +kernel
theorem dX10_offerBooks_44 : decode cX10_offerBooks 44 = .ok (.invokevirtual 177, 3) := by decide +kernel
theorem dX10_offerBooks_47 : decode cX10_offerBooks 47 = .ok (.aload_n 0, 1) := by decide +kernel
theorem dX10_offerBooks_48 : decode cX10_offerBooks 48 = .ok (.getfield 53, 3) := by decide +kernel
theorem dX10_offerBooks_51 : decode cX10_offerBooks 51 = .ok (.iconst 0, 1) := by decide +kernel
theorem dX10_offerBooks_52 : decode cX10_offerBooks 52 = .ok (.iaload, 1) := by decide +kernel
theorem dX10_offerBooks_53 : decode cX10_offerBooks 53 = .ok (.iconst 1, 1) := by decide +kernel
theorem dX10_offerBooks_54 : decode cX10_offerBooks 54 = .ok (.if_icmp .ne 61, 3) := by decide +kernel
theorem dX10_offerBooks_57 : decode cX10_offerBooks 57 = .ok (.aload_n 2, 1) := by decide +kernel
theorem dX10_offerBooks_58 : decode cX10_offerBooks 58 = .ok (.iload 4, 2) := by decide +kernel
theorem dX10_offerBooks_60 : decode cX10_offerBooks 60 = .ok (.iload_n 3, 1) := by decide +kernel
theorem dX10_offerBooks_61 : decode cX10_offerBooks 61 = .ok (.aload_n 0, 1) := by decide +kernel
theorem dX10_offerBooks_62 : decode cX10_offerBooks 62 = .ok (.invokevirtual 132, 3) := by decide +kernel
theorem dX10_offerBooks_65 : decode cX10_offerBooks 65 = .ok (.invokevirtual 171, 3) := by decide +kernel
theorem dX10_offerBooks_68 : decode cX10_offerBooks 68 = .ok (.iconst (-1), 1) := by decide +kernel
theorem dX10_offerBooks_69 : decode cX10_offerBooks 69 = .ok (.if_icmp .ne 46, 3) := by decide +kernel
theorem dX10_offerBooks_72 : decode cX10_offerBooks 72 = .ok (.aload_n 2, 1) := by decide +kernel
theorem dX10_offerBooks_73 : decode cX10_offerBooks 73 = .ok (.iload 4, 2) := by decide +kernel
theorem dX10_offerBooks_75 : decode cX10_offerBooks 75 = .ok (.iload_n 1, 1) := by decide +kernel
theorem dX10_offerBooks_76 : decode cX10_offerBooks 76 = .ok (.aload_n 0, 1) := by decide +kernel
theorem dX10_offerBooks_77 : decode cX10_offerBooks 77 = .ok (.invokevirtual 132, 3) := by decide +kernel
theorem dX10_offerBooks_80 : decode cX10_offerBooks 80 = .ok (.invokevirtual 413, 3) := by decide +kernel
theorem dX10_offerBooks_83 : decode cX10_offerBooks 83 = .ok (.ifCond .ne 32, 3) := by decide +kernel
theorem dX10_offerBooks_86 : decode cX10_offerBooks 86 = .ok (.aload_n 0, 1) := by decide +kernel
theorem dX10_offerBooks_87 : decode cX10_offerBooks 87 = .ok (.getfield 12, 3) := by decide +kernel
theorem dX10_offerBooks_90 : decode cX10_offerBooks 90 = .ok (.getfield 181, 3) := by decide +kernel
theorem dX10_offerBooks_93 : decode cX10_offerBooks 93 = .ok (.iconst 0, 1) := by decide +kernel
theorem dX10_offerBooks_94 : decode cX10_offerBooks 94 = .ok (.aload_n 0, 1) := by decide +kernel
theorem dX10_offerBooks_95 : decode cX10_offerBooks 95 = .ok (.getfield 53, 3) := by decide +kernel
theorem dX10_offerBooks_98 : decode cX10_offerBooks 98 = .ok (.invokevirtual 185, 3) := by decide +kernel
theorem dX10_offerBooks_101 : decode cX10_offerBooks 101 = .ok (.iconst (-1), 1) := by decide +kernel
theorem dX10_offerBooks_102 : decode cX10_offerBooks 102 = .ok (.if_icmp .ne 13, 3) := by decide +kernel
theorem dX10_offerBooks_105 : decode cX10_offerBooks 105 = .ok (.aload_n 0, 1) := by decide +kernel
theorem dX10_offerBooks_106 : decode cX10_offerBooks 106 = .ok (.getfield 49, 3) := by decide +kernel
theorem dX10_offerBooks_109 : decode cX10_offerBooks 109 = .ok (.aload_n 2, 1) := by decide +kernel
theorem dX10_offerBooks_110 : decode cX10_offerBooks 110 = .ok (.iload 4, 2) := by decide +kernel
theorem dX10_offerBooks_112 : decode cX10_offerBooks 112 = .ok (.invokevirtual 416, 3) := by decide +kernel
theorem dX10_offerBooks_115 : decode cX10_offerBooks 115 = .ok (.iinc 4 1, 3) := by decide +kernel
theorem dX10_offerBooks_118 : decode cX10_offerBooks 118 = .ok (.goto (-92), 3) := by decide +kernel
theorem dX10_offerBooks_121 : decode cX10_offerBooks 121 = .ok (.return_, 1) := by decide +kernel
theorem dX10_nextFor_0 : decode cX10_nextFor 0 = .ok (.aload_n 0, 1) := by decide +kernel
theorem dX10_nextFor_1 : decode cX10_nextFor 1 = .ok (.getfield 12, 3) := by decide +kernel
theorem dX10_nextFor_4 : decode cX10_nextFor 4 = .ok (.getfield 154, 3) := by decide +kernel
theorem dX10_nextFor_7 : decode cX10_nextFor 7 = .ok (.astore_n 2, 1) := by decide +kernel
theorem dX10_nextFor_8 : decode cX10_nextFor 8 = .ok (.aload_n 0, 1) := by decide +kernel
theorem dX10_nextFor_9 : decode cX10_nextFor 9 = .ok (.getfield 12, 3) := by decide +kernel
theorem dX10_nextFor_12 : decode cX10_nextFor 12 = .ok (.getfield 88, 3) := by decide +kernel
theorem dX10_nextFor_15 : decode cX10_nextFor 15 = .ok (.getfield 390, 3) := by decide +kernel
theorem dX10_nextFor_18 : decode cX10_nextFor 18 = .ok (.aload_n 0, 1) := by decide +kernel
theorem dX10_nextFor_19 : decode cX10_nextFor 19 = .ok (.getfield 12, 3) := by decide +kernel
theorem dX10_nextFor_22 : decode cX10_nextFor 22 = .ok (.getfield 310, 3) := by decide +kernel
theorem dX10_nextFor_25 : decode cX10_nextFor 25 = .ok (.getfield 328, 3) := by decide +kernel
theorem dX10_nextFor_28 : decode cX10_nextFor 28 = .ok (.iload_n 1, 1) := by decide +kernel
theorem dX10_nextFor_29 : decode cX10_nextFor 29 = .ok (.iaload, 1) := by decide +kernel
theorem dX10_nextFor_30 : decode cX10_nextFor 30 = .ok (.iaload, 1) := by decide +kernel
theorem dX10_nextFor_31 : decode cX10_nextFor 31 = .ok (.istore_n 3, 1) := by decide +kernel
theorem dX10_nextFor_32 : decode cX10_nextFor 32 = .ok (.aload_n 0, 1) := by decide +kernel
theorem dX10_nextFor_33 : decode cX10_nextFor 33 = .ok (.getfield 12, 3) := by decide +kernel
theorem dX10_nextFor_36 : decode cX10_nextFor 36 = .ok (.getfield 310, 3) := by decide +kernel
theorem dX10_nextFor_39 : decode cX10_nextFor 39 = .ok (.iload_n 1, 1) := by decide +kernel
theorem dX10_nextFor_40 : decode cX10_nextFor 40 = .ok (.aload_n 2, 1) := by decide +kernel
theorem dX10_nextFor_41 : decode cX10_nextFor 41 = .ok (.invokevirtual 331, 3) := by decide +kernel
theorem dX10_nextFor_44 : decode cX10_nextFor 44 = .ok (.iconst 1, 1) := by decide +kernel
theorem dX10_nextFor_45 : decode cX10_nextFor 45 = .ok (.iadd, 1) := by decide +kernel
theorem dX10_nextFor_46 : decode cX10_nextFor 46 = .ok (.istore 4, 2) := by decide +kernel
theorem dX10_nextFor_48 : decode cX10_nextFor 48 = .ok (.iconst (-1), 1) := by decide +kernel
theorem dX10_nextFor_49 : decode cX10_nextFor 49 = .ok (.istore 5, 2) := by decide +kernel
theorem dX10_nextFor_51 : decode cX10_nextFor 51 = .ok (.bipush 11, 2) := by decide +kernel
theorem dX10_nextFor_53 : decode cX10_nextFor 53 = .ok (.istore 6, 2) := by decide +kernel
theorem dX10_nextFor_55 : decode cX10_nextFor 55 = .ok (.iconst 0, 1) := by decide +kernel
theorem dX10_nextFor_56 : decode cX10_nextFor 56 = .ok (.istore 7, 2) := by decide +kernel
theorem dX10_nextFor_58 : decode cX10_nextFor 58 = .ok (.iload 7, 2) := by decide +kernel
theorem dX10_nextFor_60 : decode cX10_nextFor 60 = .ok (.aload_n 2, 1) := by decide +kernel
theorem dX10_nextFor_61 : decode cX10_nextFor 61 = .ok (.getfield 356, 3) := by decide +kernel
theorem dX10_nextFor_64 : decode cX10_nextFor 64 = .ok (.if_icmp .ge 87, 3) := by decide +kernel
theorem dX10_nextFor_67 : decode cX10_nextFor 67 = .ok (.aload_n 2, 1) := by decide +kernel
theorem dX10_nextFor_68 : decode cX10_nextFor 68 = .ok (.getfield 394, 3) := by decide +kernel
theorem dX10_nextFor_71 : decode cX10_nextFor 71 = .ok (.iload 7, 2) := by decide +kernel
theorem dX10_nextFor_73 : decode cX10_nextFor 73 = .ok (.iaload, 1) := by decide +kernel
theorem dX10_nextFor_74 : decode cX10_nextFor 74 = .ok (.iload 4, 2) := by decide +kernel
theorem dX10_nextFor_76 : decode cX10_nextFor 76 = .ok (.isub, 1) := by decide +kernel
theorem dX10_nextFor_77 : decode cX10_nextFor 77 = .ok (.invokestatic 420, 3) := by decide +kernel
theorem dX10_nextFor_80 : decode cX10_nextFor 80 = .ok (.istore 8, 2) := by decide +kernel
theorem dX10_nextFor_82 : decode cX10_nextFor 82 = .ok (.iload 8, 2) := by decide +kernel
theorem dX10_nextFor_84 : decode cX10_nextFor 84 = .ok (.iload 6, 2) := by decide +kernel
theorem dX10_nextFor_86 : decode cX10_nextFor 86 = .ok (.if_icmp .ge 59, 3) := by decide +kernel
theorem dX10_nextFor_89 : decode cX10_nextFor 89 = .ok (.aload_n 2, 1) := by decide +kernel
theorem dX10_nextFor_90 : decode cX10_nextFor 90 = .ok (.getfield 387, 3) := by decide +kernel
theorem dX10_nextFor_93 : decode cX10_nextFor 93 = .ok (.iload 7, 2) := by decide +kernel
theorem dX10_nextFor_95 : decode cX10_nextFor 95 = .ok (.iaload, 1) := by decide +kernel
theorem dX10_nextFor_96 : decode cX10_nextFor 96 = .ok (.iload_n 3, 1) := by decide +kernel
theorem dX10_nextFor_97 : decode cX10_nextFor 97 = .ok (.if_icmp .ne 48, 3) := by decide +kernel
theorem dX10_nextFor_100 : decode cX10_nextFor 100 = .ok (.aload_n 0, 1) := by decide +kernel
theorem dX10_nextFor_101 : decode cX10_nextFor 101 = .ok (.getfield 12, 3) := by decide +kernel
theorem dX10_nextFor_104 : decode cX10_nextFor 104 = .ok (.getfield 310, 3) := by decide +kernel
theorem dX10_nextFor_107 : decode cX10_nextFor 107 = .ok (.iload_n 1, 1) := by decide +kernel
theorem dX10_nextFor_108 : decode cX10_nextFor 108 = .ok (.iload 7, 2) := by decide +kernel
theorem dX10_nextFor_110 : decode cX10_nextFor 110 = .ok (.invokevirtual 322, 3) := by decide +kernel
theorem dX10_nextFor_113 : decode cX10_nextFor 113 = .ok (.ifCond .ne 32, 3) := by decide +kernel
theorem dX10_nextFor_116 : decode cX10_nextFor 116 = .ok (.aload_n 2, 1) := by decide +kernel
theorem dX10_nextFor_117 : decode cX10_nextFor 117 = .ok (.iload 7, 2) := by decide +kernel
theorem dX10_nextFor_119 : decode cX10_nextFor 119 = .ok (.aload_n 0, 1) := by decide +kernel
theorem dX10_nextFor_120 : decode cX10_nextFor 120 = .ok (.getfield 12, 3) := by decide +kernel
theorem dX10_nextFor_123 : decode cX10_nextFor 123 = .ok (.getfield 92, 3) := by decide +kernel
theorem dX10_nextFor_126 : decode cX10_nextFor 126 = .ok (.aload_n 0, 1) := by decide +kernel
theorem dX10_nextFor_127 : decode cX10_nextFor 127 = .ok (.invokevirtual 132, 3) := by decide +kernel
theorem dX10_nextFor_130 : decode cX10_nextFor 130 = .ok (.invokevirtual 171, 3) := by decide +kernel
theorem dX10_nextFor_133 : decode cX10_nextFor 133 = .ok (.iconst (-1), 1) := by decide +kernel
theorem dX10_nextFor_134 : decode cX10_nextFor 134 = .ok (.if_icmp .ne 11, 3) := by decide +kernel
theorem dX10_nextFor_137 : decode cX10_nextFor 137 = .ok (.iload 7, 2) := by decide +kernel
theorem dX10_nextFor_139 : decode cX10_nextFor 139 = .ok (.istore 5, 2) := by decide +kernel
theorem dX10_nextFor_141 : decode cX10_nextFor 141 = .ok (.iload 8, 2) := by decide +kernel
theorem dX10_nextFor_143 : decode cX10_nextFor 143 = .ok (.istore 6, 2) := by decide +kernel
theorem dX10_nextFor_145 : decode cX10_nextFor 145 = .ok (.iinc 7 1, 3) := by decide +kernel
theorem dX10_nextFor_148 : decode cX10_nextFor 148 = .ok (.goto (-90), 3) := by decide +kernel
theorem dX10_nextFor_151 : decode cX10_nextFor 151 = .ok (.iload 5, 2) := by decide +kernel
theorem dX10_nextFor_153 : decode cX10_nextFor 153 = .ok (.ireturn, 1) := by decide +kernel
theorem dX10_isFew_0 : decode cX10_isFew 0 = .ok (.iload_n 0, 1) := by decide +kernel
theorem dX10_isFew_1 : decode cX10_isFew 1 = .ok (.iconst 1, 1) := by decide +kernel
theorem dX10_isFew_2 : decode cX10_isFew 2 = .ok (.if_icmp .eq 8, 3) := by decide +kernel
theorem dX10_isFew_5 : decode cX10_isFew 5 = .ok (.iload_n 0, 1) := by decide +kernel
theorem dX10_isFew_6 : decode cX10_isFew 6 = .ok (.iconst 2, 1) := by decide +kernel
theorem dX10_isFew_7 : decode cX10_isFew 7 = .ok (.if_icmp .ne 7, 3) := by decide +kernel
theorem dX10_isFew_10 : decode cX10_isFew 10 = .ok (.iconst 1, 1) := by decide +kernel
theorem dX10_isFew_11 : decode cX10_isFew 11 = .ok (.goto 4, 3) := by decide +kernel
theorem dX10_isFew_14 : decode cX10_isFew 14 = .ok (.iconst 0, 1) := by decide +kernel
theorem dX10_isFew_15 : decode cX10_isFew 15 = .ok (.ireturn, 1) := by decide +kernel
theorem dX10_hiddenBesides_0 : decode cX10_hiddenBesides 0 = .ok (.iconst 0, 1) := by decide +kernel
theorem dX10_hiddenBesides_1 : decode cX10_hiddenBesides 1 = .ok (.istore_n 1, 1) := by decide +kernel
theorem dX10_hiddenBesides_2 : decode cX10_hiddenBesides 2 = .ok (.iconst (-1), 1) := by decide +kernel
theorem dX10_hiddenBesides_3 : decode cX10_hiddenBesides 3 = .ok (.istore_n 2, 1) := by decide +kernel
theorem dX10_hiddenBesides_4 : decode cX10_hiddenBesides 4 = .ok (.bipush 13, 2) := by decide +kernel
theorem dX10_hiddenBesides_6 : decode cX10_hiddenBesides 6 = .ok (.istore_n 3, 1) := by decide +kernel
theorem dX10_hiddenBesides_7 : decode cX10_hiddenBesides 7 = .ok (.iconst 0, 1) := by decide +kernel
theorem dX10_hiddenBesides_8 : decode cX10_hiddenBesides 8 = .ok (.istore 4, 2) := by decide +kernel
theorem dX10_hiddenBesides_10 : decode cX10_hiddenBesides 10 = .ok (.iload 4, 2) := by decide +kernel
theorem dX10_hiddenBesides_12 : decode cX10_hiddenBesides 12 = .ok (.bipush 8, 2) := by decide +kernel
theorem dX10_hiddenBesides_14 : decode cX10_hiddenBesides 14 = .ok (.if_icmp .ge 61, 3) := by decide +kernel
theorem dX10_hiddenBesides_17 : decode cX10_hiddenBesides 17 = .ok (.aload_n 0, 1) := by decide +kernel
theorem dX10_hiddenBesides_18 : decode cX10_hiddenBesides 18 = .ok (.getfield 12, 3) := by decide +kernel
theorem dX10_hiddenBesides_21 : decode cX10_hiddenBesides 21 = .ok (.getfield 310, 3) := by decide +kernel
theorem dX10_hiddenBesides_24 : decode cX10_hiddenBesides 24 = .ok (.iload 4, 2) := by decide +kernel
theorem dX10_hiddenBesides_26 : decode cX10_hiddenBesides 26 = .ok (.aload_n 0, 1) := by decide +kernel
theorem dX10_hiddenBesides_27 : decode cX10_hiddenBesides 27 = .ok (.getfield 12, 3) := by decide +kernel
theorem dX10_hiddenBesides_30 : decode cX10_hiddenBesides 30 = .ok (.getfield 154, 3) := by decide +kernel
theorem dX10_hiddenBesides_33 : decode cX10_hiddenBesides 33 = .ok (.invokevirtual 338, 3) := by decide +kernel
theorem dX10_hiddenBesides_36 : decode cX10_hiddenBesides 36 = .ok (.istore 5, 2) := by decide +kernel
theorem dX10_hiddenBesides_38 : decode cX10_hiddenBesides 38 = .ok (.iload 5, 2) := by decide +kernel
theorem dX10_hiddenBesides_40 : decode cX10_hiddenBesides 40 = .ok (.invokestatic 341, 3) := by decide +kernel
theorem dX10_hiddenBesides_43 : decode cX10_hiddenBesides 43 = .ok (.ifCond .eq 9, 3) := by decide +kernel
theorem dX10_hiddenBesides_46 : decode cX10_hiddenBesides 46 = .ok (.iinc 1 1, 3) := by decide +kernel
theorem dX10_hiddenBesides_49 : decode cX10_hiddenBesides 49 = .ok (.goto 20, 3) := by decide +kernel
theorem dX10_hiddenBesides_52 : decode cX10_hiddenBesides 52 = .ok (.iload 5, 2) := by decide +kernel
theorem dX10_hiddenBesides_54 : decode cX10_hiddenBesides 54 = .ok (.ifCond .le 15, 3) := by decide +kernel
theorem dX10_hiddenBesides_57 : decode cX10_hiddenBesides 57 = .ok (.iload 5, 2) := by decide +kernel
theorem dX10_hiddenBesides_59 : decode cX10_hiddenBesides 59 = .ok (.iload_n 3, 1) := by decide +kernel
theorem dX10_hiddenBesides_60 : decode cX10_hiddenBesides 60 = .ok (.if_icmp .ge 9, 3) := by decide +kernel
theorem dX10_hiddenBesides_63 : decode cX10_hiddenBesides 63 = .ok (.iload 4, 2) := by decide +kernel
theorem dX10_hiddenBesides_65 : decode cX10_hiddenBesides 65 = .ok (.istore_n 2, 1) := by decide +kernel
theorem dX10_hiddenBesides_66 : decode cX10_hiddenBesides 66 = .ok (.iload 5, 2) := by decide +kernel
theorem dX10_hiddenBesides_68 : decode cX10_hiddenBesides 68 = .ok (.istore_n 3, 1) := by decide +kernel
theorem dX10_hiddenBesides_69 : decode cX10_hiddenBesides 69 = .ok (.iinc 4 1, 3) := by decide +kernel
theorem dX10_hiddenBesides_72 : decode cX10_hiddenBesides 72 = .ok (.goto (-62), 3) := by decide +kernel
theorem dX10_hiddenBesides_75 : decode cX10_hiddenBesides 75 = .ok (.iload_n 1, 1) := by decide +kernel
theorem dX10_hiddenBesides_76 : decode cX10_hiddenBesides 76 = .ok (.iconst 1, 1) := by decide +kernel
theorem dX10_hiddenBesides_77 : decode cX10_hiddenBesides 77 = .ok (.if_icmp .ne 7, 3) := by decide +kernel
theorem dX10_hiddenBesides_80 : decode cX10_hiddenBesides 80 = .ok (.iload_n 2, 1) := by decide +kernel
theorem dX10_hiddenBesides_81 : decode cX10_hiddenBesides 81 = .ok (.goto 4, 3) := by decide +kernel
theorem dX10_hiddenBesides_84 : decode cX10_hiddenBesides 84 = .ok (.iconst (-1), 1) := by decide +kernel
theorem dX10_hiddenBesides_85 : decode cX10_hiddenBesides 85 = .ok (.ireturn, 1) := by decide +kernel
theorem dX11_init_0 : decode cX11_init 0 = .ok (.aload_n 0, 1) := by decide +kernel
theorem dX11_init_1 : decode cX11_init 1 = .ok (.invokespecial 1, 3) := by decide +kernel
theorem dX11_init_4 : decode cX11_init 4 = .ok (.aload_n 0, 1) := by decide +kernel
theorem dX11_init_5 : decode cX11_init 5 = .ok (.sipush 2000, 3) := by decide +kernel
theorem dX11_init_8 : decode cX11_init 8 = .ok (.newarray .byte, 2) := by decide +kernel
theorem dX11_init_10 : decode cX11_init 10 = .ok (.putfield 7, 3) := by decide +kernel
theorem dX11_init_13 : decode cX11_init 13 = .ok (.aload_n 0, 1) := by decide +kernel
theorem dX11_init_14 : decode cX11_init 14 = .ok (.iconst 4, 1) := by decide +kernel
theorem dX11_init_15 : decode cX11_init 15 = .ok (.newarray .int, 2) := by decide +kernel
theorem dX11_init_17 : decode cX11_init 17 = .ok (.putfield 13, 3) := by decide +kernel
theorem dX11_init_20 : decode cX11_init 20 = .ok (.aload_n 0, 1) := by decide +kernel
theorem dX11_init_21 : decode cX11_init 21 = .ok (.iconst 4, 1) := by decide +kernel
theorem dX11_init_22 : decode cX11_init 22 = .ok (.newarray .int, 2) := by decide +kernel
theorem dX11_init_24 : decode cX11_init 24 = .ok (.putfield 17, 3) := by decide +kernel
theorem dX11_init_27 : decode cX11_init 27 = .ok (.aload_n 0, 1) := by decide +kernel
theorem dX11_init_28 : decode cX11_init 28 = .ok (.iconst 4, 1) := by decide +kernel
theorem dX11_init_29 : decode cX11_init 29 = .ok (.newarray .int, 2) := by decide +kernel
theorem dX11_init_31 : decode cX11_init 31 = .ok (.putfield 20, 3) := by decide +kernel
theorem dX11_init_34 : decode cX11_init 34 = .ok (.aload_n 0, 1) := by decide +kernel
theorem dX11_init_35 : decode cX11_init 35 = .ok (.iconst 4, 1) := by decide +kernel
theorem dX11_init_36 : decode cX11_init 36 = .ok (.newarray .int, 2) := by decide +kernel
theorem dX11_init_38 : decode cX11_init 38 = .ok (.putfield 23, 3) := by decide +kernel
theorem dX11_init_41 : decode cX11_init 41 = .ok (.aload_n 0, 1) := by decide +kernel
theorem dX11_init_42 : decode cX11_init 42 = .ok (.iconst 4, 1) := by decide +kernel
theorem dX11_init_43 : decode cX11_init 43 = .ok (.newarray .int, 2) := by decide +kernel
theorem dX11_init_45 : decode cX11_init 45 = .ok (.putfield 26, 3) := by decide +kernel
theorem dX11_init_48 : decode cX11_init 48 = .ok (.aload_n 0, 1) := by decide +kernel
theorem dX11_init_49 : decode cX11_init 49 = .ok (.iconst 4, 1) := by decide +kernel
theorem dX11_init_50 : decode cX11_init 50 = .ok (.newarray .int, 2) := by decide +kernel
theorem dX11_init_52 : decode cX11_init 52 = .ok (.putfield 29, 3) := by decide +kernel
theorem dX11_init_55 : decode cX11_init 55 = .ok (.aload_n 0, 1) := by decide +kernel
theorem dX11_init_56 : decode cX11_init 56 = .ok (.bipush 40, 2) := by decide +kernel
theorem dX11_init_58 : decode cX11_init 58 = .ok (.newarray .boolean, 2) := by decide +kernel
theorem dX11_init_60 : decode cX11_init 60 = .ok (.putfield 32, 3) := by decide +kernel
theorem dX11_init_63 : decode cX11_init 63 = .ok (.aload_n 0, 1) := by decide +kernel
theorem dX11_init_64 : decode cX11_init 64 = .ok (.sipush 400, 3) := by decide +kernel
theorem dX11_init_67 : decode cX11_init 67 = .ok (.newarray .int, 2) := by decide +kernel
theorem dX11_init_69 : decode cX11_init 69 = .ok (.putfield 36, 3) := by decide +kernel
theorem dX11_init_72 : decode cX11_init 72 = .ok (.aload_n 0, 1) := by decide +kernel
theorem dX11_init_73 : decode cX11_init 73 = .ok (.iconst 4, 1) := by decide +kernel
theorem dX11_init_74 : decode cX11_init 74 = .ok (.newarray .int, 2) := by decide +kernel
theorem dX11_init_76 : decode cX11_init 76 = .ok (.putfield 39, 3) := by decide +kernel
theorem dX11_init_79 : decode cX11_init 79 = .ok (.aload_n 0, 1) := by decide +kernel
theorem dX11_init_80 : decode cX11_init 80 = .ok (.bipush 24, 2) := by decide +kernel
theorem dX11_init_82 : decode cX11_init 82 = .ok (.newarray .int, 2) := by decide +kernel
theorem dX11_init_84 : decode cX11_init 84 = .ok (.putfield 42, 3) := by decide +kernel
theorem dX11_init_87 : decode cX11_init 87 = .ok (.aload_n 0, 1) := by decide +kernel
theorem dX11_init_88 : decode cX11_init 88 = .ok (.bipush 24, 2) := by decide +kernel
theorem dX11_init_90 : decode cX11_init 90 = .ok (.newarray .int, 2) := by decide +kernel
theorem dX11_init_92 : decode cX11_init 92 = .ok (.putfield 45, 3) := by decide +kernel
theorem dX11_init_95 : decode cX11_init 95 = .ok (.aload_n 0, 1) := by decide +kernel
theorem dX11_init_96 : decode cX11_init 96 = .ok (.bipush 24, 2) := by decide +kernel
theorem dX11_init_98 : decode cX11_init 98 = .ok (.newarray .int, 2) := by decide +kernel
theorem dX11_init_100 : decode cX11_init 100 = .ok (.putfield 48, 3) := by decide +kernel
theorem dX11_init_103 : decode cX11_init 103 = .ok (.aload_n 0, 1) := by decide +kernel
theorem dX11_init_104 : decode cX11_init 104 = .ok (.iconst 4, 1) := by decide +kernel
theorem dX11_init_105 : decode cX11_init 105 = .ok (.newarray .int, 2) := by decide +kernel
theorem dX11_init_107 : decode cX11_init 107 = .ok (.putfield 51, 3) := by decide +kernel
theorem dX11_init_110 : decode cX11_init 110 = .ok (.aload_n 0, 1) := by decide +kernel
theorem dX11_init_111 : decode cX11_init 111 = .ok (.sipush 240, 3) := by decide +kernel
theorem dX11_init_114 : decode cX11_init 114 = .ok (.newarray .int, 2) := by decide +kernel
theorem dX11_init_116 : decode cX11_init 116 = .ok (.putfield 54, 3) := by decide +kernel
theorem dX11_init_119 : decode cX11_init 119 = .ok (.aload_n 0, 1) := by decide +kernel
theorem dX11_init_120 : decode cX11_init 120 = .ok (.sipush 240, 3) := by decide +kernel
theorem dX11_init_123 : decode cX11_init 123 = .ok (.newarray .int, 2) := by decide +kernel
theorem dX11_init_125 : decode cX11_init 125 = .ok (.putfield 57, 3) := by decide +kernel
theorem dX11_init_128 : decode cX11_init 128 = .ok (.aload_n 0, 1) := by decide +kernel
theorem dX11_init_129 : decode cX11_init 129 = .ok (.sipush 240, 3) := by decide +kernel
theorem dX11_init_132 : decode cX11_init 132 = .ok (.newarray .int, 2) := by decide +kernel
theorem dX11_init_134 : decode cX11_init 134 = .ok (.putfield 60, 3) := by decide +kernel
theorem dX11_init_137 : decode cX11_init 137 = .ok (.aload_n 0, 1) := by decide +kernel
theorem dX11_init_138 : decode cX11_init 138 = .ok (.sipush 240, 3) := by decide +kernel
theorem dX11_init_141 : decode cX11_init 141 = .ok (.newarray .int, 2) := by decide +kernel
theorem dX11_init_143 : decode cX11_init 143 = .ok (.putfield 63, 3) := by decide +kernel
theorem dX11_init_146 : decode cX11_init 146 = .ok (.aload_n 0, 1) := by decide +kernel
theorem dX11_init_147 : decode cX11_init 147 = .ok (.sipush 400, 3) := by decide +kernel
theorem dX11_init_150 : decode cX11_init 150 = .ok (.newarray .boolean, 2) := by decide +kernel
theorem dX11_init_152 : decode cX11_init 152 = .ok (.putfield 66, 3) := by decide +kernel
theorem dX11_init_155 : decode cX11_init 155 = .ok (.aload_n 0, 1) := by decide +kernel
theorem dX11_init_156 : decode cX11_init 156 = .ok (.iconst 4, 1) := by decide +kernel
theorem dX11_init_157 : decode cX11_init 157 = .ok (.newarray .int, 2) := by decide +kernel
theorem dX11_init_159 : decode cX11_init 159 = .ok (.putfield 69, 3) := by decide +kernel
theorem dX11_init_162 : decode cX11_init 162 = .ok (.aload_n 0, 1) := by decide +kernel
theorem dX11_init_163 : decode cX11_init 163 = .ok (.sipush 240, 3) := by decide +kernel
theorem dX11_init_166 : decode cX11_init 166 = .ok (.newarray .int, 2) := by decide +kernel
theorem dX11_init_168 : decode cX11_init 168 = .ok (.putfield 72, 3) := by decide +kernel
theorem dX11_init_171 : decode cX11_init 171 = .ok (.aload_n 0, 1) := by decide +kernel
theorem dX11_init_172 : decode cX11_init 172 = .ok (.sipush 240, 3) := by decide +kernel
theorem dX11_init_175 : decode cX11_init 175 = .ok (.newarray .int, 2) := by decide +kernel
theorem dX11_init_177 : decode cX11_init 177 = .ok (.putfield 75, 3) := by decide +kernel
theorem dX11_init_180 : decode cX11_init 180 = .ok (.aload_n 0, 1) := by decide +kernel
theorem dX11_init_181 : decode cX11_init 181 = .ok (.sipush 240, 3) := by decide +kernel
theorem dX11_init_184 : decode cX11_init 184 = .ok (.newarray .int, 2) := by decide +kernel
theorem dX11_init_186 : decode cX11_init 186 = .ok (.putfield 78, 3) := by decide +kernel
theorem dX11_init_189 : decode cX11_init 189 = .ok (.aload_n 0, 1) := by decide +kernel
theorem dX11_init_190 : decode cX11_init 190 = .ok (.sipush 240, 3) := by decide +kernel
theorem dX11_init_193 : decode cX11_init 193 = .ok (.newarray .boolean, 2) := by decide +kernel
theorem dX11_init_195 : decode cX11_init 195 = .ok (.putfield 81, 3) := by decide +kernel
theorem dX11_init_198 : decode cX11_init 198 = .ok (.aload_n 0, 1) := by decide +kernel
theorem dX11_init_199 : decode cX11_init 199 = .ok (.sipush 240, 3) := by decide +kernel
theorem dX11_init_202 : decode cX11_init 202 = .ok (.newarray .int, 2) := by decide +kernel
theorem dX11_init_204 : decode cX11_init 204 = .ok (.putfield 84, 3) := by decide +kernel
theorem dX11_init_207 : decode cX11_init 207 = .ok (.aload_n 0, 1) := by decide +kernel
theorem dX11_init_208 : decode cX11_init 208 = .ok (.iconst 4, 1) := by decide +kernel
theorem dX11_init_209 : decode cX11_init 209 = .ok (.newarray .int, 2) := by decide +kernel
theorem dX11_init_211 : decode cX11_init 211 = .ok (.putfield 87, 3) := by decide +kernel
theorem dX11_init_214 : decode cX11_init 214 = .ok (.aload_n 0, 1) := by decide +kernel
theorem dX11_init_215 : decode cX11_init 215 = .ok (.bipush 96, 2) := by decide +kernel
theorem dX11_init_217 : decode cX11_init 217 = .ok (.newarray .int, 2) := by decide +kernel
theorem dX11_init_219 : decode cX11_init 219 = .ok (.putfield 90, 3) := by decide +kernel
theorem dX11_init_222 : decode cX11_init 222 = .ok (.aload_n 0, 1) := by decide +kernel
theorem dX11_init_223 : decode cX11_init 223 = .ok (.bipush 96, 2) := by decide +kernel
theorem dX11_init_225 : decode cX11_init 225 = .ok (.newarray .int, 2) := by decide +kernel
theorem dX11_init_227 : decode cX11_init 227 = .ok (.putfield 93, 3) := by decide +kernel
theorem dX11_init_230 : decode cX11_init 230 = .ok (.aload_n 0, 1) := by decide +kernel
theorem dX11_init_231 : decode cX11_init 231 = .ok (.bipush 96, 2) := by decide +kernel
theorem dX11_init_233 : decode cX11_init 233 = .ok (.newarray .int, 2) := by decide +kernel
theorem dX11_init_235 : decode cX11_init 235 = .ok (.putfield 96, 3) := by decide +kernel
theorem dX11_init_238 : decode cX11_init 238 = .ok (.aload_n 0, 1) := by decide +kernel
theorem dX11_init_239 : decode cX11_init 239 = .ok (.bipush 96, 2) := by decide +kernel
theorem dX11_init_241 : decode cX11_init 241 = .ok (.newarray .int, 2) := by decide +kernel
theorem dX11_init_243 : decode cX11_init 243 = .ok (.putfield 99, 3) := by decide +kernel
theorem dX11_init_246 : decode cX11_init 246 = .ok (.aload_n 0, 1) := by decide +kernel
theorem dX11_init_247 : decode cX11_init 247 = .ok (.bipush 96, 2) := by decide +kernel
theorem dX11_init_249 : decode cX11_init 249 = .ok (.newarray .int, 2) := by decide +kernel
theorem dX11_init_251 : decode cX11_init 251 = .ok (.putfield 102, 3) := by decide +kernel
theorem dX11_init_254 : decode cX11_init 254 = .ok (.aload_n 0, 1) := by decide +kernel
theorem dX11_init_255 : decode cX11_init 255 = .ok (.iconst 4, 1) := by decide +kernel
theorem dX11_init_256 : decode cX11_init 256 = .ok (.newarray .int, 2) := by decide +kernel
theorem dX11_init_258 : decode cX11_init 258 = .ok (.putfield 105, 3) := by decide +kernel
theorem dX11_init_261 : decode cX11_init 261 = .ok (.aload_n 0, 1) := by decide +kernel
theorem dX11_init_262 : decode cX11_init 262 = .ok (.sipush 600, 3) := by decide +kernel
theorem dX11_init_265 : decode cX11_init 265 = .ok (.newarray .int, 2) := by decide +kernel
theorem dX11_init_267 : decode cX11_init 267 = .ok (.putfield 108, 3) := by decide +kernel
theorem dX11_init_270 : decode cX11_init 270 = .ok (.aload_n 0, 1) := by decide +kernel
theorem dX11_init_271 : decode cX11_init 271 = .ok (.sipush 600, 3) := by decide +kernel
theorem dX11_init_274 : decode cX11_init 274 = .ok (.newarray .int, 2) := by decide +kernel
theorem dX11_init_276 : decode cX11_init 276 = .ok (.putfield 111, 3) := by decide +kernel
theorem dX11_init_279 : decode cX11_init 279 = .ok (.aload_n 0, 1) := by decide +kernel
theorem dX11_init_280 : decode cX11_init 280 = .ok (.sipush 600, 3) := by decide +kernel
theorem dX11_init_283 : decode cX11_init 283 = .ok (.newarray .int, 2) := by decide +kernel
theorem dX11_init_285 : decode cX11_init 285 = .ok (.putfield 114, 3) := by decide +kernel
theorem dX11_init_288 : decode cX11_init 288 = .ok (.aload_n 0, 1) := by decide +kernel
theorem dX11_init_289 : decode cX11_init 289 = .ok (.sipush 600, 3) := by decide +kernel
theorem dX11_init_292 : decode cX11_init 292 = .ok (.newarray .int, 2) := by decide +kernel
theorem dX11_init_294 : decode cX11_init 294 = .ok (.putfield 117, 3) := by decide +kernel
theorem dX11_init_297 : decode cX11_init 297 = .ok (.aload_n 0, 1) := by decide +kernel
theorem dX11_init_298 : decode cX11_init 298 = .ok (.sipush 600, 3) := by decide +kernel
theorem dX11_init_301 : decode cX11_init 301 = .ok (.newarray .int, 2) := by decide +kernel
theorem dX11_init_303 : decode cX11_init 303 = .ok (.putfield 120, 3) := by decide +kernel
theorem dX11_init_306 : decode cX11_init 306 = .ok (.aload_n 0, 1) := by decide +kernel
theorem dX11_init_307 : decode cX11_init 307 = .ok (.sipush 600, 3) := by decide +kernel
theorem dX11_init_310 : decode cX11_init 310 = .ok (.newarray .int, 2) := by decide +kernel
theorem dX11_init_312 : decode cX11_init 312 = .ok (.putfield 123, 3) := by decide +kernel
theorem dX11_init_315 : decode cX11_init 315 = .ok (.aload_n 0, 1) := by decide +kernel
theorem dX11_init_316 : decode cX11_init 316 = .ok (.sipush 600, 3) := by decide +kernel
theorem dX11_init_319 : decode cX11_init 319 = .ok (.newarray .int, 2) := by decide +kernel
theorem dX11_init_321 : decode cX11_init 321 = .ok (.putfield 126, 3) := by decide +kernel
theorem dX11_init_324 : decode cX11_init 324 = .ok (.aload_n 0, 1) := by decide +kernel
theorem dX11_init_325 : decode cX11_init 325 = .ok (.iconst 4, 1) := by decide +kernel
theorem dX11_init_326 : decode cX11_init 326 = .ok (.newarray .int, 2) := by decide +kernel
theorem dX11_init_328 : decode cX11_init 328 = .ok (.putfield 129, 3) := by decide +kernel
theorem dX11_init_331 : decode cX11_init 331 = .ok (.aload_n 0, 1) := by decide +kernel
theorem dX11_init_332 : decode cX11_init 332 = .ok (.bipush 64, 2) := by decide +kernel
theorem dX11_init_334 : decode cX11_init 334 = .ok (.newarray .int, 2) := by decide +kernel
theorem dX11_init_336 : decode cX11_init 336 = .ok (.putfield 132, 3) := by decide +kernel
theorem dX11_init_339 : decode cX11_init 339 = .ok (.aload_n 0, 1) := by decide +kernel
theorem dX11_init_340 : decode cX11_init 340 = .ok (.bipush 64, 2) := by decide +kernel
theorem dX11_init_342 : decode cX11_init 342 = .ok (.newarray .int, 2) := by decide +kernel
theorem dX11_init_344 : decode cX11_init 344 = .ok (.putfield 135, 3) := by decide +kernel
theorem dX11_init_347 : decode cX11_init 347 = .ok (.aload_n 0, 1) := by decide +kernel
theorem dX11_init_348 : decode cX11_init 348 = .ok (.bipush 64, 2) := by decide +kernel
theorem dX11_init_350 : decode cX11_init 350 = .ok (.newarray .int, 2) := by decide +kernel
theorem dX11_init_352 : decode cX11_init 352 = .ok (.putfield 138, 3) := by decide +kernel
theorem dX11_init_355 : decode cX11_init 355 = .ok (.aload_n 0, 1) := by decide +kernel
theorem dX11_init_356 : decode cX11_init 356 = .ok (.sipush 256, 3) := by decide +kernel
theorem dX11_init_359 : decode cX11_init 359 = .ok (.newarray .int, 2) := by decide +kernel
theorem dX11_init_361 : decode cX11_init 361 = .ok (.putfield 141, 3) := by decide +kernel
theorem dX11_init_364 : decode cX11_init 364 = .ok (.aload_n 0, 1) := by decide +kernel
theorem dX11_init_365 : decode cX11_init 365 = .ok (.sipush 256, 3) := by decide +kernel
theorem dX11_init_368 : decode cX11_init 368 = .ok (.newarray .int, 2) := by decide +kernel
theorem dX11_init_370 : decode cX11_init 370 = .ok (.putfield 144, 3) := by decide +kernel
theorem dX11_init_373 : decode cX11_init 373 = .ok (.aload_n 0, 1) := by decide +kernel
theorem dX11_init_374 : decode cX11_init 374 = .ok (.sipush 256, 3) := by decide +kernel
theorem dX11_init_377 : decode cX11_init 377 = .ok (.newarray .int, 2) := by decide +kernel
theorem dX11_init_379 : decode cX11_init 379 = .ok (.putfield 147, 3) := by decide +kernel
theorem dX11_init_382 : decode cX11_init 382 = .ok (.aload_n 0, 1) := by decide +kernel
theorem dX11_init_383 : decode cX11_init 383 = .ok (.sipush 256, 3) := by decide +kernel
theorem dX11_init_386 : decode cX11_init 386 = .ok (.newarray .boolean, 2) := by decide +kernel
theorem dX11_init_388 : decode cX11_init 388 = .ok (.putfield 150, 3) := by decide +kernel
theorem dX11_init_391 : decode cX11_init 391 = .ok (.aload_n 0, 1) := by decide +kernel
theorem dX11_init_392 : decode cX11_init 392 = .ok (.sipush 192, 3) := by decide +kernel
theorem dX11_init_395 : decode cX11_init 395 = .ok (.newarray .int, 2) := by decide +kernel
theorem dX11_init_397 : decode cX11_init 397 = .ok (.putfield 153, 3) := by decide +kernel
theorem dX11_init_400 : decode cX11_init 400 = .ok (.aload_n 0, 1) := by decide +kernel
theorem dX11_init_401 : decode cX11_init 401 = .ok (.iconst 4, 1) := by decide +kernel
theorem dX11_init_402 : decode cX11_init 402 = .ok (.newarray .int, 2) := by decide +kernel
theorem dX11_init_404 : decode cX11_init 404 = .ok (.putfield 156, 3) := by decide +kernel
theorem dX11_init_407 : decode cX11_init 407 = .ok (.aload_n 0, 1) := by decide +kernel
theorem dX11_init_408 : decode cX11_init 408 = .ok (.bipush 48, 2) := by decide +kernel
theorem dX11_init_410 : decode cX11_init 410 = .ok (.newarray .int, 2) := by decide +kernel
theorem dX11_init_412 : decode cX11_init 412 = .ok (.putfield 159, 3) := by decide +kernel
theorem dX11_init_415 : decode cX11_init 415 = .ok (.aload_n 0, 1) := by decide +kernel
theorem dX11_init_416 : decode cX11_init 416 = .ok (.bipush 48, 2) := by decide +kernel
theorem dX11_init_418 : decode cX11_init 418 = .ok (.newarray .int, 2) := by decide +kernel
theorem dX11_init_420 : decode cX11_init 420 = .ok (.putfield 162, 3) := by decide +kernel
theorem dX11_init_423 : decode cX11_init 423 = .ok (.aload_n 0, 1) := by decide +kernel
theorem dX11_init_424 : decode cX11_init 424 = .ok (.bipush 10, 2) := by decide +kernel
theorem dX11_init_426 : decode cX11_init 426 = .ok (.newarray .int, 2) := by decide +kernel
theorem dX11_init_428 : decode cX11_init 428 = .ok (.putfield 165, 3) := by decide +kernel
theorem dX11_init_431 : decode cX11_init 431 = .ok (.aload_n 0, 1) := by decide +kernel
theorem dX11_init_432 : decode cX11_init 432 = .ok (.bipush 10, 2) := by decide +kernel
theorem dX11_init_434 : decode cX11_init 434 = .ok (.newarray .int, 2) := by decide +kernel
theorem dX11_init_436 : decode cX11_init 436 = .ok (.putfield 168, 3) := by decide +kernel
theorem dX11_init_439 : decode cX11_init 439 = .ok (.aload_n 0, 1) := by decide +kernel
theorem dX11_init_440 : decode cX11_init 440 = .ok (.bipush 10, 2) := by decide +kernel
theorem dX11_init_442 : decode cX11_init 442 = .ok (.newarray .int, 2) := by decide +kernel
theorem dX11_init_444 : decode cX11_init 444 = .ok (.putfield 171, 3) := by decide +kernel
theorem dX11_init_447 : decode cX11_init 447 = .ok (.aload_n 0, 1) := by decide +kernel
theorem dX11_init_448 : decode cX11_init 448 = .ok (.bipush 10, 2) := by decide +kernel
theorem dX11_init_450 : decode cX11_init 450 = .ok (.newarray .long, 2) := by decide +kernel
theorem dX11_init_452 : decode cX11_init 452 = .ok (.putfield 174, 3) := by decide +kernel
theorem dX11_init_455 : decode cX11_init 455 = .ok (.aload_n 0, 1) := by decide +kernel
theorem dX11_init_456 : decode cX11_init 456 = .ok (.bipush 60, 2) := by decide +kernel
theorem dX11_init_458 : decode cX11_init 458 = .ok (.newarray .int, 2) := by decide +kernel
theorem dX11_init_460 : decode cX11_init 460 = .ok (.putfield 178, 3) := by decide +kernel
theorem dX11_init_463 : decode cX11_init 463 = .ok (.aload_n 0, 1) := by decide +kernel
theorem dX11_init_464 : decode cX11_init 464 = .ok (.bipush 10, 2) := by decide +kernel
theorem dX11_init_466 : decode cX11_init 466 = .ok (.newarray .int, 2) := by decide +kernel
theorem dX11_init_468 : decode cX11_init 468 = .ok (.putfield 181, 3) := by decide +kernel
theorem dX11_init_471 : decode cX11_init 471 = .ok (.aload_n 0, 1) := by decide +kernel
theorem dX11_init_472 : decode cX11_init 472 = .ok (.bipush 17, 2) := by decide +kernel
theorem dX11_init_474 : decode cX11_init 474 = .ok (.newarray .int, 2) := by decide +kernel
theorem dX11_init_476 : decode cX11_init 476 = .ok (.putfield 184, 3) := by decide +kernel
theorem dX11_init_479 : decode cX11_init 479 = .ok (.aload_n 0, 1) := by decide +kernel
theorem dX11_init_480 : decode cX11_init 480 = .ok (.bipush 17, 2) := by decide +kernel
theorem dX11_init_482 : decode cX11_init 482 = .ok (.newarray .int, 2) := by decide +kernel
theorem dX11_init_484 : decode cX11_init 484 = .ok (.putfield 187, 3) := by decide +kernel
theorem dX11_init_487 : decode cX11_init 487 = .ok (.aload_n 0, 1) := by decide +kernel
theorem dX11_init_488 : decode cX11_init 488 = .ok (.bipush 17, 2) := by decide +kernel
theorem dX11_init_490 : decode cX11_init 490 = .ok (.newarray .int, 2) := by decide +kernel
theorem dX11_init_492 : decode cX11_init 492 = .ok (.putfield 190, 3) := by decide +kernel
theorem dX11_init_495 : decode cX11_init 495 = .ok (.aload_n 0, 1) := by decide +kernel
theorem dX11_init_496 : decode cX11_init 496 = .ok (.bipush 69, 2) := by decide +kernel
theorem dX11_init_498 : decode cX11_init 498 = .ok (.newarray .int, 2) := by decide +kernel
theorem dX11_init_500 : decode cX11_init 500 = .ok (.putfield 193, 3) := by decide +kernel
theorem dX11_init_503 : decode cX11_init 503 = .ok (.aload_n 0, 1) := by decide +kernel
theorem dX11_init_504 : decode cX11_init 504 = .ok (.bipush 69, 2) := by decide +kernel
theorem dX11_init_506 : decode cX11_init 506 = .ok (.newarray .int, 2) := by decide +kernel
theorem dX11_init_508 : decode cX11_init 508 = .ok (.putfield 196, 3) := by decide +kernel
theorem dX11_init_511 : decode cX11_init 511 = .ok (.aload_n 0, 1) := by decide +kernel
theorem dX11_init_512 : decode cX11_init 512 = .ok (.bipush 69, 2) := by decide +kernel
theorem dX11_init_514 : decode cX11_init 514 = .ok (.newarray .int, 2) := by decide +kernel
theorem dX11_init_516 : decode cX11_init 516 = .ok (.putfield 199, 3) := by decide +kernel
theorem dX11_init_519 : decode cX11_init 519 = .ok (.aload_n 0, 1) := by decide +kernel
theorem dX11_init_520 : decode cX11_init 520 = .ok (.bipush 69, 2) := by decide +kernel
theorem dX11_init_522 : decode cX11_init 522 = .ok (.newarray .boolean, 2) := by decide +kernel
theorem dX11_init_524 : decode cX11_init 524 = .ok (.putfield 202, 3) := by decide +kernel
theorem dX11_init_527 : decode cX11_init 527 = .ok (.aload_n 0, 1) := by decide +kernel
theorem dX11_init_528 : decode cX11_init 528 = .ok (.bipush 100, 2) := by decide +kernel
theorem dX11_init_530 : decode cX11_init 530 = .ok (.newarray .int, 2) := by decide +kernel
theorem dX11_init_532 : decode cX11_init 532 = .ok (.putfield 205, 3) := by decide +kernel
theorem dX11_init_535 : decode cX11_init 535 = .ok (.aload_n 0, 1) := by decide +kernel
theorem dX11_init_536 : decode cX11_init 536 = .ok (.sipush 5120, 3) := by decide +kernel
theorem dX11_init_539 : decode cX11_init 539 = .ok (.newarray .int, 2) := by decide +kernel
theorem dX11_init_541 : decode cX11_init 541 = .ok (.putfield 208, 3) := by decide +kernel
theorem dX11_init_544 : decode cX11_init 544 = .ok (.aload_n 0, 1) := by decide +kernel
theorem dX11_init_545 : decode cX11_init 545 = .ok (.bipush 10, 2) := by decide +kernel
theorem dX11_init_547 : decode cX11_init 547 = .ok (.newarray .int, 2) := by decide +kernel
theorem dX11_init_549 : decode cX11_init 549 = .ok (.putfield 211, 3) := by decide +kernel
theorem dX11_init_552 : decode cX11_init 552 = .ok (.aload_n 0, 1) := by decide +kernel
theorem dX11_init_553 : decode cX11_init 553 = .ok (.bipush 8, 2) := by decide +kernel
theorem dX11_init_555 : decode cX11_init 555 = .ok (.newarray .int, 2) := by decide +kernel
theorem dX11_init_557 : decode cX11_init 557 = .ok (.putfield 214, 3) := by decide +kernel
theorem dX11_init_560 : decode cX11_init 560 = .ok (.aload_n 0, 1) := by decide +kernel
theorem dX11_init_561 : decode cX11_init 561 = .ok (.iconst 3, 1) := by decide +kernel
theorem dX11_init_562 : decode cX11_init 562 = .ok (.newarray .boolean, 2) := by decide +kernel
theorem dX11_init_564 : decode cX11_init 564 = .ok (.putfield 217, 3) := by decide +kernel
theorem dX11_init_567 : decode cX11_init 567 = .ok (.aload_n 0, 1) := by decide +kernel
theorem dX11_init_568 : decode cX11_init 568 = .ok (.getfield 20, 3) := by decide +kernel
theorem dX11_init_571 : decode cX11_init 571 = .ok (.iconst 0, 1) := by decide +kernel
theorem dX11_init_572 : decode cX11_init 572 = .ok (.iconst (-1), 1) := by decide +kernel
theorem dX11_init_573 : decode cX11_init 573 = .ok (.iastore, 1) := by decide +kernel
theorem dX11_init_574 : decode cX11_init 574 = .ok (.aload_n 0, 1) := by decide +kernel
theorem dX11_init_575 : decode cX11_init 575 = .ok (.getfield 26, 3) := by decide +kernel
theorem dX11_init_578 : decode cX11_init 578 = .ok (.iconst 0, 1) := by decide +kernel
theorem dX11_init_579 : decode cX11_init 579 = .ok (.iconst (-1), 1) := by decide +kernel
theorem dX11_init_580 : decode cX11_init 580 = .ok (.iastore, 1) := by decide +kernel
theorem dX11_init_581 : decode cX11_init 581 = .ok (.return_, 1) := by decide +kernel
theorem dX11_in_0 : decode cX11_in 0 = .ok (.iload_n 0, 1) := by decide +kernel
theorem dX11_in_1 : decode cX11_in 1 = .ok (.iload_n 1, 1) := by decide +kernel
theorem dX11_in_2 : decode cX11_in 2 = .ok (.if_icmp .lt 12, 3) := by decide +kernel
theorem dX11_in_5 : decode cX11_in 5 = .ok (.iload_n 0, 1) := by decide +kernel
theorem dX11_in_6 : decode cX11_in 6 = .ok (.iload_n 2, 1) := by decide +kernel
theorem dX11_in_7 : decode cX11_in 7 = .ok (.if_icmp .gt 7, 3) := by decide +kernel
theorem dX11_in_10 : decode cX11_in 10 = .ok (.iconst 1, 1) := by decide +kernel
theorem dX11_in_11 : decode cX11_in 11 = .ok (.goto 4, 3) := by decide +kernel
theorem dX11_in_14 : decode cX11_in 14 = .ok (.iconst 0, 1) := by decide +kernel
theorem dX11_in_15 : decode cX11_in 15 = .ok (.ireturn, 1) := by decide +kernel
theorem dX11_move_0 : decode cX11_move 0 = .ok (.iconst 0, 1) := by decide +kernel
theorem dX11_move_1 : decode cX11_move 1 = .ok (.istore 4, 2) := by decide +kernel
theorem dX11_move_3 : decode cX11_move 3 = .ok (.iload 4, 2) := by decide +kernel
theorem dX11_move_5 : decode cX11_move 5 = .ok (.iload_n 1, 1) := by decide +kernel
theorem dX11_move_6 : decode cX11_move 6 = .ok (.if_icmp .ge 25, 3) := by decide +kernel
theorem dX11_move_9 : decode cX11_move 9 = .ok (.aload_n 0, 1) := by decide +kernel
theorem dX11_move_10 : decode cX11_move 10 = .ok (.iload_n 1, 1) := by decide +kernel
theorem dX11_move_11 : decode cX11_move 11 = .ok (.iload_n 3, 1) := by decide +kernel
theorem dX11_move_12 : decode cX11_move 12 = .ok (.imul, 1) := by decide +kernel
theorem dX11_move_13 : decode cX11_move 13 = .ok (.iload 4, 2) := by decide +kernel
theorem dX11_move_15 : decode cX11_move 15 = .ok (.iadd, 1) := by decide +kernel
theorem dX11_move_16 : decode cX11_move 16 = .ok (.aload_n 0, 1) := by decide +kernel
theorem dX11_move_17 : decode cX11_move 17 = .ok (.iload_n 1, 1) := by decide +kernel
theorem dX11_move_18 : decode cX11_move 18 = .ok (.iload_n 2, 1) := by decide +kernel
theorem dX11_move_19 : decode cX11_move 19 = .ok (.imul, 1) := by decide +kernel
theorem dX11_move_20 : decode cX11_move 20 = .ok (.iload 4, 2) := by decide +kernel
theorem dX11_move_22 : decode cX11_move 22 = .ok (.iadd, 1) := by decide +kernel
theorem dX11_move_23 : decode cX11_move 23 = .ok (.iaload, 1) := by decide +kernel
theorem dX11_move_24 : decode cX11_move 24 = .ok (.iastore, 1) := by decide +kernel
theorem dX11_move_25 : decode cX11_move 25 = .ok (.iinc 4 1, 3) := by decide +kernel
theorem dX11_move_28 : decode cX11_move 28 = .ok (.goto (-25), 3) := by decide +kernel
theorem dX11_move_31 : decode cX11_move 31 = .ok (.return_, 1) := by decide +kernel
theorem dX11_moveFlags_0 : decode cX11_moveFlags 0 = .ok (.iconst 0, 1) := by decide +kernel
theorem dX11_moveFlags_1 : decode cX11_moveFlags 1 = .ok (.istore 4, 2) := by decide +kernel
theorem dX11_moveFlags_3 : decode cX11_moveFlags 3 = .ok (.iload 4, 2) := by decide +kernel
theorem dX11_moveFlags_5 : decode cX11_moveFlags 5 = .ok (.iload_n 1, 1) := by decide +kernel
theorem dX11_moveFlags_6 : decode cX11_moveFlags 6 = .ok (.if_icmp .ge 25, 3) := by decide +kernel
theorem dX11_moveFlags_9 : decode cX11_moveFlags 9 = .ok (.aload_n 0, 1) := by decide +kernel
theorem dX11_moveFlags_10 : decode cX11_moveFlags 10 = .ok (.iload_n 1, 1) := by decide +kernel
theorem dX11_moveFlags_11 : decode cX11_moveFlags 11 = .ok (.iload_n 3, 1) := by decide +kernel
theorem dX11_moveFlags_12 : decode cX11_moveFlags 12 = .ok (.imul, 1) := by decide +kernel
theorem dX11_moveFlags_13 : decode cX11_moveFlags 13 = .ok (.iload 4, 2) := by decide +kernel
theorem dX11_moveFlags_15 : decode cX11_moveFlags 15 = .ok (.iadd, 1) := by decide +kernel
theorem dX11_moveFlags_16 : decode cX11_moveFlags 16 = .ok (.aload_n 0, 1) := by decide +kernel
theorem dX11_moveFlags_17 : decode cX11_moveFlags 17 = .ok (.iload_n 1, 1) := by decide +kernel
theorem dX11_moveFlags_18 : decode cX11_moveFlags 18 = .ok (.iload_n 2, 1) := by decide +kernel
theorem dX11_moveFlags_19 : decode cX11_moveFlags 19 = .ok (.imul, 1) := by decide +kernel
theorem dX11_moveFlags_20 : decode cX11_moveFlags 20 = .ok (.iload 4, 2) := by decide +kernel
theorem dX11_moveFlags_22 : decode cX11_moveFlags 22 = .ok (.iadd, 1) := by decide +kernel
theorem dX11_moveFlags_23 : decode cX11_moveFlags 23 = .ok (.baload, 1) := by decide +kernel
theorem dX11_moveFlags_24 : decode cX11_moveFlags 24 = .ok (.bastore, 1) := by decide +kernel
theorem dX11_moveFlags_25 : decode cX11_moveFlags 25 = .ok (.iinc 4 1, 3) := by decide +kernel
theorem dX11_moveFlags_28 : decode cX11_moveFlags 28 = .ok (.goto (-25), 3) := by decide +kernel
theorem dX11_moveFlags_31 : decode cX11_moveFlags 31 = .ok (.return_, 1) := by decide +kernel
theorem dX11_copy_0 : decode cX11_copy 0 = .ok (.iconst 0, 1) := by decide +kernel
theorem dX11_copy_1 : decode cX11_copy 1 = .ok (.istore_n 3, 1) := by decide +kernel
theorem dX11_copy_2 : decode cX11_copy 2 = .ok (.iload_n 3, 1) := by decide +kernel
theorem dX11_copy_3 : decode cX11_copy 3 = .ok (.sipush 500, 3) := by decide +kernel
theorem dX11_copy_6 : decode cX11_copy 6 = .ok (.if_icmp .ge 33, 3) := by decide +kernel
theorem dX11_copy_9 : decode cX11_copy 9 = .ok (.aload_n 0, 1) := by decide +kernel
theorem dX11_copy_10 : decode cX11_copy 10 = .ok (.getfield 7, 3) := by decide +kernel
theorem dX11_copy_13 : decode cX11_copy 13 = .ok (.sipush 500, 3) := by decide +kernel
theorem dX11_copy_16 : decode cX11_copy 16 = .ok (.iload_n 2, 1) := by decide +kernel
theorem dX11_copy_17 : decode cX11_copy 17 = .ok (.imul, 1) := by decide +kernel
theorem dX11_copy_18 : decode cX11_copy 18 = .ok (.iload_n 3, 1) := by decide +kernel
theorem dX11_copy_19 : decode cX11_copy 19 = .ok (.iadd, 1) := by decide +kernel
theorem dX11_copy_20 : decode cX11_copy 20 = .ok (.aload_n 0, 1) := by decide +kernel
theorem dX11_copy_21 : decode cX11_copy 21 = .ok (.getfield 7, 3) := by decide +kernel
theorem dX11_copy_24 : decode cX11_copy 24 = .ok (.sipush 500, 3) := by decide +kernel
theorem dX11_copy_27 : decode cX11_copy 27 = .ok (.iload_n 1, 1) := by decide +kernel
theorem dX11_copy_28 : decode cX11_copy 28 = .ok (.imul, 1) := by decide +kernel
theorem dX11_copy_29 : decode cX11_copy 29 = .ok (.iload_n 3, 1) := by decide +kernel
theorem dX11_copy_30 : decode cX11_copy 30 = .ok (.iadd, 1) := by decide +kernel
theorem dX11_copy_31 : decode cX11_copy 31 = .ok (.baload, 1) := by decide +kernel
theorem dX11_copy_32 : decode cX11_copy 32 = .ok (.bastore, 1) := by decide +kernel
theorem dX11_copy_33 : decode cX11_copy 33 = .ok (.iinc 3 1, 3) := by decide +kernel
theorem dX11_copy_36 : decode cX11_copy 36 = .ok (.goto (-34), 3) := by decide +kernel
theorem dX11_copy_39 : decode cX11_copy 39 = .ok (.aload_n 0, 1) := by decide +kernel
theorem dX11_copy_40 : decode cX11_copy 40 = .ok (.getfield 13, 3) := by decide +kernel
theorem dX11_copy_43 : decode cX11_copy 43 = .ok (.iconst 1, 1) := by decide +kernel
theorem dX11_copy_44 : decode cX11_copy 44 = .ok (.iload_n 1, 1) := by decide +kernel
theorem dX11_copy_45 : decode cX11_copy 45 = .ok (.iload_n 2, 1) := by decide +kernel
theorem dX11_copy_46 : decode cX11_copy 46 = .ok (.invokestatic 224, 3) := by decide +kernel
theorem dX11_copy_49 : decode cX11_copy 49 = .ok (.aload_n 0, 1) := by decide +kernel
theorem dX11_copy_50 : decode cX11_copy 50 = .ok (.getfield 17, 3) := by decide +kernel
theorem dX11_copy_53 : decode cX11_copy 53 = .ok (.iconst 1, 1) := by decide +kernel
theorem dX11_copy_54 : decode cX11_copy 54 = .ok (.iload_n 1, 1) := by decide +kernel
theorem dX11_copy_55 : decode cX11_copy 55 = .ok (.iload_n 2, 1) := by decide +kernel
theorem dX11_copy_56 : decode cX11_copy 56 = .ok (.invokestatic 224, 3) := by decide +kernel
theorem dX11_copy_59 : decode cX11_copy 59 = .ok (.aload_n 0, 1) := by decide +kernel
theorem dX11_copy_60 : decode cX11_copy 60 = .ok (.getfield 20, 3) := by decide +kernel
theorem dX11_copy_63 : decode cX11_copy 63 = .ok (.iconst 1, 1) := by decide +kernel
theorem dX11_copy_64 : decode cX11_copy 64 = .ok (.iload_n 1, 1) := by decide +kernel
theorem dX11_copy_65 : decode cX11_copy 65 = .ok (.iload_n 2, 1) := by decide +kernel
theorem dX11_copy_66 : decode cX11_copy 66 = .ok (.invokestatic 224, 3) := by decide +kernel
theorem dX11_copy_69 : decode cX11_copy 69 = .ok (.aload_n 0, 1) := by decide +kernel
theorem dX11_copy_70 : decode cX11_copy 70 = .ok (.getfield 23, 3) := by decide +kernel
theorem dX11_copy_73 : decode cX11_copy 73 = .ok (.iconst 1, 1) := by decide +kernel
theorem dX11_copy_74 : decode cX11_copy 74 = .ok (.iload_n 1, 1) := by decide +kernel
theorem dX11_copy_75 : decode cX11_copy 75 = .ok (.iload_n 2, 1) := by decide +kernel
theorem dX11_copy_76 : decode cX11_copy 76 = .ok (.invokestatic 224, 3) := by decide +kernel
theorem dX11_copy_79 : decode cX11_copy 79 = .ok (.aload_n 0, 1) := by decide +kernel
theorem dX11_copy_80 : decode cX11_copy 80 = .ok (.getfield 26, 3) := by decide +kernel
theorem dX11_copy_83 : decode cX11_copy 83 = .ok (.iconst 1, 1) := by decide +kernel
theorem dX11_copy_84 : decode cX11_copy 84 = .ok (.iload_n 1, 1) := by decide +kernel
theorem dX11_copy_85 : decode cX11_copy 85 = .ok (.iload_n 2, 1) := by decide +kernel
theorem dX11_copy_86 : decode cX11_copy 86 = .ok (.invokestatic 224, 3) := by decide +kernel
theorem dX11_copy_89 : decode cX11_copy 89 = .ok (.aload_n 0, 1) := by decide +kernel
theorem dX11_copy_90 : decode cX11_copy 90 = .ok (.getfield 29, 3) := by decide +kernel
theorem dX11_copy_93 : decode cX11_copy 93 = .ok (.iconst 1, 1) := by decide +kernel
theorem dX11_copy_94 : decode cX11_copy 94 = .ok (.iload_n 1, 1) := by decide +kernel
theorem dX11_copy_95 : decode cX11_copy 95 = .ok (.iload_n 2, 1) := by decide +kernel
theorem dX11_copy_96 : decode cX11_copy 96 = .ok (.invokestatic 224, 3) := by decide +kernel
theorem dX11_copy_99 : decode cX11_copy 99 = .ok (.aload_n 0, 1) := by decide +kernel
theorem dX11_copy_100 : decode cX11_copy 100 = .ok (.getfield 32, 3) := by decide +kernel
theorem dX11_copy_103 : decode cX11_copy 103 = .ok (.bipush 10, 2) := by decide +kernel
theorem dX11_copy_105 : decode cX11_copy 105 = .ok (.iload_n 1, 1) := by decide +kernel
theorem dX11_copy_106 : decode cX11_copy 106 = .ok (.iload_n 2, 1) := by decide +kernel
theorem dX11_copy_107 : decode cX11_copy 107 = .ok (.invokestatic 228, 3) := by decide +kernel
theorem dX11_copy_110 : decode cX11_copy 110 = .ok (.aload_n 0, 1) := by decide +kernel
theorem dX11_copy_111 : decode cX11_copy 111 = .ok (.getfield 36, 3) := by decide +kernel
theorem dX11_copy_114 : decode cX11_copy 114 = .ok (.bipush 100, 2) := by decide +kernel
theorem dX11_copy_116 : decode cX11_copy 116 = .ok (.iload_n 1, 1) := by decide +kernel
theorem dX11_copy_117 : decode cX11_copy 117 = .ok (.iload_n 2, 1) := by decide +kernel
theorem dX11_copy_118 : decode cX11_copy 118 = .ok (.invokestatic 224, 3) := by decide +kernel
theorem dX11_copy_121 : decode cX11_copy 121 = .ok (.aload_n 0, 1) := by decide +kernel
theorem dX11_copy_122 : decode cX11_copy 122 = .ok (.getfield 39, 3) := by decide +kernel
theorem dX11_copy_125 : decode cX11_copy 125 = .ok (.iconst 1, 1) := by decide +kernel
theorem dX11_copy_126 : decode cX11_copy 126 = .ok (.iload_n 1, 1) := by decide +kernel
theorem dX11_copy_127 : decode cX11_copy 127 = .ok (.iload_n 2, 1) := by decide +kernel
theorem dX11_copy_128 : decode cX11_copy 128 = .ok (.invokestatic 224, 3) := by decide +kernel
theorem dX11_copy_131 : decode cX11_copy 131 = .ok (.aload_n 0, 1) := by decide +kernel
theorem dX11_copy_132 : decode cX11_copy 132 = .ok (.getfield 42, 3) := by decide +kernel
theorem dX11_copy_135 : decode cX11_copy 135 = .ok (.bipush 6, 2) := by decide +kernel
theorem dX11_copy_137 : decode cX11_copy 137 = .ok (.iload_n 1, 1) := by decide +kernel
theorem dX11_copy_138 : decode cX11_copy 138 = .ok (.iload_n 2, 1) := by decide +kernel
theorem dX11_copy_139 : decode cX11_copy 139 = .ok (.invokestatic 224, 3) := by decide +kernel
theorem dX11_copy_142 : decode cX11_copy 142 = .ok (.aload_n 0, 1) := by decide +kernel
theorem dX11_copy_143 : decode cX11_copy 143 = .ok (.getfield 45, 3) := by decide +kernel
theorem dX11_copy_146 : decode cX11_copy 146 = .ok (.bipush 6, 2) := by decide +kernel
theorem dX11_copy_148 : decode cX11_copy 148 = .ok (.iload_n 1, 1) := by decide +kernel
theorem dX11_copy_149 : decode cX11_copy 149 = .ok (.iload_n 2, 1) := by decide +kernel
theorem dX11_copy_150 : decode cX11_copy 150 = .ok (.invokestatic 224, 3) := by decide +kernel
theorem dX11_copy_153 : decode cX11_copy 153 = .ok (.aload_n 0, 1) := by decide +kernel
theorem dX11_copy_154 : decode cX11_copy 154 = .ok (.getfield 48, 3) := by decide +kernel
theorem dX11_copy_157 : decode cX11_copy 157 = .ok (.bipush 6, 2) := by decide +kernel
theorem dX11_copy_159 : decode cX11_copy 159 = .ok (.iload_n 1, 1) := by decide +kernel
theorem dX11_copy_160 : decode cX11_copy 160 = .ok (.iload_n 2, 1) := by decide +kernel
theorem dX11_copy_161 : decode cX11_copy 161 = .ok (.invokestatic 224, 3) := by decide +kernel
theorem dX11_copy_164 : decode cX11_copy 164 = .ok (.aload_n 0, 1) := by decide +kernel
theorem dX11_copy_165 : decode cX11_copy 165 = .ok (.getfield 51, 3) := by decide +kernel
theorem dX11_copy_168 : decode cX11_copy 168 = .ok (.iconst 1, 1) := by decide +kernel
theorem dX11_copy_169 : decode cX11_copy 169 = .ok (.iload_n 1, 1) := by decide +kernel
theorem dX11_copy_170 : decode cX11_copy 170 = .ok (.iload_n 2, 1) := by decide +kernel
theorem dX11_copy_171 : decode cX11_copy 171 = .ok (.invokestatic 224, 3) := by decide +kernel
theorem dX11_copy_174 : decode cX11_copy 174 = .ok (.aload_n 0, 1) := by decide +kernel
theorem dX11_copy_175 : decode cX11_copy 175 = .ok (.getfield 54, 3) := by decide +kernel
theorem dX11_copy_178 : decode cX11_copy 178 = .ok (.bipush 60, 2) := by decide +kernel
theorem dX11_copy_180 : decode cX11_copy 180 = .ok (.iload_n 1, 1) := by decide +kernel
theorem dX11_copy_181 : decode cX11_copy 181 = .ok (.iload_n 2, 1) := by decide +kernel
theorem dX11_copy_182 : decode cX11_copy 182 = .ok (.invokestatic 224, 3) := by decide +kernel
theorem dX11_copy_185 : decode cX11_copy 185 = .ok (.aload_n 0, 1) := by decide +kernel
theorem dX11_copy_186 : decode cX11_copy 186 = .ok (.getfield 57, 3) := by decide +kernel
theorem dX11_copy_189 : decode cX11_copy 189 = .ok (.bipush 60, 2) := by decide +kernel
theorem dX11_copy_191 : decode cX11_copy 191 = .ok (.iload_n 1, 1) := by decide +kernel
theorem dX11_copy_192 : decode cX11_copy 192 = .ok (.iload_n 2, 1) := by decide +kernel
theorem dX11_copy_193 : decode cX11_copy 193 = .ok (.invokestatic 224, 3) := by decide +kernel
theorem dX11_copy_196 : decode cX11_copy 196 = .ok (.aload_n 0, 1) := by decide +kernel
theorem dX11_copy_197 : decode cX11_copy 197 = .ok (.getfield 60, 3) := by decide +kernel
theorem dX11_copy_200 : decode cX11_copy 200 = .ok (.bipush 60, 2) := by decide +kernel
theorem dX11_copy_202 : decode cX11_copy 202 = .ok (.iload_n 1, 1) := by decide +kernel
theorem dX11_copy_203 : decode cX11_copy 203 = .ok (.iload_n 2, 1) := by decide +kernel
theorem dX11_copy_204 : decode cX11_copy 204 = .ok (.invokestatic 224, 3) := by decide +kernel
theorem dX11_copy_207 : decode cX11_copy 207 = .ok (.aload_n 0, 1) := by decide +kernel
theorem dX11_copy_208 : decode cX11_copy 208 = .ok (.getfield 63, 3) := by decide +kernel
theorem dX11_copy_211 : decode cX11_copy 211 = .ok (.bipush 60, 2) := by decide +kernel
theorem dX11_copy_213 : decode cX11_copy 213 = .ok (.iload_n 1, 1) := by decide +kernel
theorem dX11_copy_214 : decode cX11_copy 214 = .ok (.iload_n 2, 1) := by decide +kernel
theorem dX11_copy_215 : decode cX11_copy 215 = .ok (.invokestatic 224, 3) := by decide +kernel
theorem dX11_copy_218 : decode cX11_copy 218 = .ok (.aload_n 0, 1) := by decide +kernel
theorem dX11_copy_219 : decode cX11_copy 219 = .ok (.getfield 66, 3) := by decide +kernel
theorem dX11_copy_222 : decode cX11_copy 222 = .ok (.bipush 100, 2) := by decide +kernel
theorem dX11_copy_224 : decode cX11_copy 224 = .ok (.iload_n 1, 1) := by decide +kernel
theorem dX11_copy_225 : decode cX11_copy 225 = .ok (.iload_n 2, 1) := by decide +kernel
theorem dX11_copy_226 : decode cX11_copy 226 = .ok (.invokestatic 228, 3) := by decide +kernel
theorem dX11_copy_229 : decode cX11_copy 229 = .ok (.aload_n 0, 1) := by decide +kernel
theorem dX11_copy_230 : decode cX11_copy 230 = .ok (.getfield 69, 3) := by decide +kernel
theorem dX11_copy_233 : decode cX11_copy 233 = .ok (.iconst 1, 1) := by decide +kernel
theorem dX11_copy_234 : decode cX11_copy 234 = .ok (.iload_n 1, 1) := by decide +kernel
theorem dX11_copy_235 : decode cX11_copy 235 = .ok (.iload_n 2, 1) := by decide +kernel
theorem dX11_copy_236 : decode cX11_copy 236 = .ok (.invokestatic 224, 3) := by decide +kernel
theorem dX11_copy_239 : decode cX11_copy 239 = .ok (.aload_n 0, 1) := by decide +kernel
theorem dX11_copy_240 : decode cX11_copy 240 = .ok (.getfield 72, 3) := by decide +kernel
theorem dX11_copy_243 : decode cX11_copy 243 = .ok (.bipush 60, 2) := by decide +kernel
theorem dX11_copy_245 : decode cX11_copy 245 = .ok (.iload_n 1, 1) := by decide +kernel
theorem dX11_copy_246 : decode cX11_copy 246 = .ok (.iload_n 2, 1) := by decide +kernel
theorem dX11_copy_247 : decode cX11_copy 247 = .ok (.invokestatic 224, 3) := by decide +kernel
theorem dX11_copy_250 : decode cX11_copy 250 = .ok (.aload_n 0, 1) := by decide +kernel
theorem dX11_copy_251 : decode cX11_copy 251 = .ok (.getfield 75, 3) := by decide +kernel
theorem dX11_copy_254 : decode cX11_copy 254 = .ok (.bipush 60, 2) := by decide +kernel
theorem dX11_copy_256 : decode cX11_copy 256 = .ok (.iload_n 1, 1) := by decide +kernel
theorem dX11_copy_257 : decode cX11_copy 257 = .ok (.iload_n 2, 1) := by decide +kernel
theorem dX11_copy_258 : decode cX11_copy 258 = .ok (.invokestatic 224, 3) := by decide +kernel
theorem dX11_copy_261 : decode cX11_copy 261 = .ok (.aload_n 0, 1) := by decide +kernel
theorem dX11_copy_262 : decode cX11_copy 262 = .ok (.getfield 78, 3) := by decide +kernel
theorem dX11_copy_265 : decode cX11_copy 265 = .ok (.bipush 60, 2) := by decide +kernel
theorem dX11_copy_267 : decode cX11_copy 267 = .ok (.iload_n 1, 1) := by decide +kernel
theorem dX11_copy_268 : decode cX11_copy 268 = .ok (.iload_n 2, 1) := by decide +kernel
theorem dX11_copy_269 : decode cX11_copy 269 = .ok (.invokestatic 224, 3) := by decide +kernel
theorem dX11_copy_272 : decode cX11_copy 272 = .ok (.aload_n 0, 1) := by decide +kernel
theorem dX11_copy_273 : decode cX11_copy 273 = .ok (.getfield 81, 3) := by decide +kernel
theorem dX11_copy_276 : decode cX11_copy 276 = .ok (.bipush 60, 2) := by decide +kernel
theorem dX11_copy_278 : decode cX11_copy 278 = .ok (.iload_n 1, 1) := by decide +kernel
theorem dX11_copy_279 : decode cX11_copy 279 = .ok (.iload_n 2, 1) := by decide +kernel
theorem dX11_copy_280 : decode cX11_copy 280 = .ok (.invokestatic 228, 3) := by decide +kernel
theorem dX11_copy_283 : decode cX11_copy 283 = .ok (.aload_n 0, 1) := by decide +kernel
theorem dX11_copy_284 : decode cX11_copy 284 = .ok (.getfield 84, 3) := by decide +kernel
theorem dX11_copy_287 : decode cX11_copy 287 = .ok (.bipush 60, 2) := by decide +kernel
theorem dX11_copy_289 : decode cX11_copy 289 = .ok (.iload_n 1, 1) := by decide +kernel
theorem dX11_copy_290 : decode cX11_copy 290 = .ok (.iload_n 2, 1) := by decide +kernel
theorem dX11_copy_291 : decode cX11_copy 291 = .ok (.invokestatic 224, 3) := by decide +kernel
theorem dX11_copy_294 : decode cX11_copy 294 = .ok (.aload_n 0, 1) := by decide +kernel
theorem dX11_copy_295 : decode cX11_copy 295 = .ok (.getfield 87, 3) := by decide +kernel
theorem dX11_copy_298 : decode cX11_copy 298 = .ok (.iconst 1, 1) := by decide +kernel
theorem dX11_copy_299 : decode cX11_copy 299 = .ok (.iload_n 1, 1) := by decide +kernel
theorem dX11_copy_300 : decode cX11_copy 300 = .ok (.iload_n 2, 1) := by decide +kernel
theorem dX11_copy_301 : decode cX11_copy 301 = .ok (.invokestatic 224, 3) := by decide +kernel
theorem dX11_copy_304 : decode cX11_copy 304 = .ok (.aload_n 0, 1) := by decide +kernel
theorem dX11_copy_305 : decode cX11_copy 305 = .ok (.getfield 90, 3) := by decide +kernel
theorem dX11_copy_308 : decode cX11_copy 308 = .ok (.bipush 24, 2) := by decide +kernel
theorem dX11_copy_310 : decode cX11_copy 310 = .ok (.iload_n 1, 1) := by decide +kernel
theorem dX11_copy_311 : decode cX11_copy 311 = .ok (.iload_n 2, 1) := by decide +kernel
theorem dX11_copy_312 : decode cX11_copy 312 = .ok (.invokestatic 224, 3) := by decide +kernel
theorem dX11_copy_315 : decode cX11_copy 315 = .ok (.aload_n 0, 1) := by decide +kernel
theorem dX11_copy_316 : decode cX11_copy 316 = .ok (.getfield 93, 3) := by decide +kernel
theorem dX11_copy_319 : decode cX11_copy 319 = .ok (.bipush 24, 2) := by decide +kernel
theorem dX11_copy_321 : decode cX11_copy 321 = .ok (.iload_n 1, 1) := by decide +kernel
theorem dX11_copy_322 : decode cX11_copy 322 = .ok (.iload_n 2, 1) := by decide +kernel
theorem dX11_copy_323 : decode cX11_copy 323 = .ok (.invokestatic 224, 3) := by decide +kernel
theorem dX11_copy_326 : decode cX11_copy 326 = .ok (.aload_n 0, 1) := by decide +kernel
theorem dX11_copy_327 : decode cX11_copy 327 = .ok (.getfield 96, 3) := by decide +kernel
theorem dX11_copy_330 : decode cX11_copy 330 = .ok (.bipush 24, 2) := by decide +kernel
theorem dX11_copy_332 : decode cX11_copy 332 = .ok (.iload_n 1, 1) := by decide +kernel
theorem dX11_copy_333 : decode cX11_copy 333 = .ok (.iload_n 2, 1) := by decide +kernel
theorem dX11_copy_334 : decode cX11_copy 334 = .ok (.invokestatic 224, 3) := by decide +kernel
theorem dX11_copy_337 : decode cX11_copy 337 = .ok (.aload_n 0, 1) := by decide +kernel
theorem dX11_copy_338 : decode cX11_copy 338 = .ok (.getfield 99, 3) := by decide +kernel
theorem dX11_copy_341 : decode cX11_copy 341 = .ok (.bipush 24, 2) := by decide +kernel
theorem dX11_copy_343 : decode cX11_copy 343 = .ok (.iload_n 1, 1) := by decide +kernel
theorem dX11_copy_344 : decode cX11_copy 344 = .ok (.iload_n 2, 1) := by decide +kernel
theorem dX11_copy_345 : decode cX11_copy 345 = .ok (.invokestatic 224, 3) := by decide +kernel
theorem dX11_copy_348 : decode cX11_copy 348 = .ok (.aload_n 0, 1) := by decide +kernel
theorem dX11_copy_349 : decode cX11_copy 349 = .ok (.getfield 102, 3) := by decide +kernel
theorem dX11_copy_352 : decode cX11_copy 352 = .ok (.bipush 24, 2) := by decide +kernel
theorem dX11_copy_354 : decode cX11_copy 354 = .ok (.iload_n 1, 1) := by decide +kernel
theorem dX11_copy_355 : decode cX11_copy 355 = .ok (.iload_n 2, 1) := by decide +kernel
theorem dX11_copy_356 : decode cX11_copy 356 = .ok (.invokestatic 224, 3) := by decide +kernel
theorem dX11_copy_359 : decode cX11_copy 359 = .ok (.aload_n 0, 1) := by decide +kernel
theorem dX11_copy_360 : decode cX11_copy 360 = .ok (.getfield 105, 3) := by decide +kernel
theorem dX11_copy_363 : decode cX11_copy 363 = .ok (.iconst 1, 1) := by decide +kernel
theorem dX11_copy_364 : decode cX11_copy 364 = .ok (.iload_n 1, 1) := by decide +kernel
theorem dX11_copy_365 : decode cX11_copy 365 = .ok (.iload_n 2, 1) := by decide +kernel
theorem dX11_copy_366 : decode cX11_copy 366 = .ok (.invokestatic 224, 3) := by decide +kernel
theorem dX11_copy_369 : decode cX11_copy 369 = .ok (.aload_n 0, 1) := by decide +kernel
theorem dX11_copy_370 : decode cX11_copy 370 = .ok (.getfield 108, 3) := by decide +kernel
theorem dX11_copy_373 : decode cX11_copy 373 = .ok (.sipush 150, 3) := by decide +kernel
theorem dX11_copy_376 : decode cX11_copy 376 = .ok (.iload_n 1, 1) := by decide +kernel
theorem dX11_copy_377 : decode cX11_copy 377 = .ok (.iload_n 2, 1) := by decide +kernel
theorem dX11_copy_378 : decode cX11_copy 378 = .ok (.invokestatic 224, 3) := by decide +kernel
theorem dX11_copy_381 : decode cX11_copy 381 = .ok (.aload_n 0, 1) := by decide +kernel
theorem dX11_copy_382 : decode cX11_copy 382 = .ok (.getfield 111, 3) := by decide +kernel
theorem dX11_copy_385 : decode cX11_copy 385 = .ok (.sipush 150, 3) := by decide +kernel
theorem dX11_copy_388 : decode cX11_copy 388 = .ok (.iload_n 1, 1) := by decide +kernel
theorem dX11_copy_389 : decode cX11_copy 389 = .ok (.iload_n 2, 1) := by decide +kernel
theorem dX11_copy_390 : decode cX11_copy 390 = .ok (.invokestatic 224, 3) := by decide +kernel
theorem dX11_copy_393 : decode cX11_copy 393 = .ok (.aload_n 0, 1) := by decide +kernel
theorem dX11_copy_394 : decode cX11_copy 394 = .ok (.getfield 114, 3) := by decide +kernel
theorem dX11_copy_397 : decode cX11_copy 397 = .ok (.sipush 150, 3) := by decide +kernel
theorem dX11_copy_400 : decode cX11_copy 400 = .ok (.iload_n 1, 1) := by decide +kernel
theorem dX11_copy_401 : decode cX11_copy 401 = .ok (.iload_n 2, 1) := by decide +kernel
theorem dX11_copy_402 : decode cX11_copy 402 = .ok (.invokestatic 224, 3) := by decide +kernel
theorem dX11_copy_405 : decode cX11_copy 405 = .ok (.aload_n 0, 1) := by decide +kernel
theorem dX11_copy_406 : decode cX11_copy 406 = .ok (.getfield 117, 3) := by decide +kernel
theorem dX11_copy_409 : decode cX11_copy 409 = .ok (.sipush 150, 3) := by decide +kernel
theorem dX11_copy_412 : decode cX11_copy 412 = .ok (.iload_n 1, 1) := by decide +kernel
theorem dX11_copy_413 : decode cX11_copy 413 = .ok (.iload_n 2, 1) := by decide +kernel
theorem dX11_copy_414 : decode cX11_copy 414 = .ok (.invokestatic 224, 3) := by decide +kernel
theorem dX11_copy_417 : decode cX11_copy 417 = .ok (.aload_n 0, 1) := by decide +kernel
theorem dX11_copy_418 : decode cX11_copy 418 = .ok (.getfield 120, 3) := by decide +kernel
theorem dX11_copy_421 : decode cX11_copy 421 = .ok (.sipush 150, 3) := by decide +kernel
theorem dX11_copy_424 : decode cX11_copy 424 = .ok (.iload_n 1, 1) := by decide +kernel
theorem dX11_copy_425 : decode cX11_copy 425 = .ok (.iload_n 2, 1) := by decide +kernel
theorem dX11_copy_426 : decode cX11_copy 426 = .ok (.invokestatic 224, 3) := by decide +kernel
theorem dX11_copy_429 : decode cX11_copy 429 = .ok (.aload_n 0, 1) := by decide +kernel
theorem dX11_copy_430 : decode cX11_copy 430 = .ok (.getfield 123, 3) := by decide +kernel
theorem dX11_copy_433 : decode cX11_copy 433 = .ok (.sipush 150, 3) := by decide +kernel
theorem dX11_copy_436 : decode cX11_copy 436 = .ok (.iload_n 1, 1) := by decide +kernel
theorem dX11_copy_437 : decode cX11_copy 437 = .ok (.iload_n 2, 1) := by decide +kernel
theorem dX11_copy_438 : decode cX11_copy 438 = .ok (.invokestatic 224, 3) := by decide +kernel
theorem dX11_copy_441 : decode cX11_copy 441 = .ok (.aload_n 0, 1) := by decide +kernel
theorem dX11_copy_442 : decode cX11_copy 442 = .ok (.getfield 126, 3) := by decide +kernel
theorem dX11_copy_445 : decode cX11_copy 445 = .ok (.sipush 150, 3) := by decide +kernel
theorem dX11_copy_448 : decode cX11_copy 448 = .ok (.iload_n 1, 1) := by decide +kernel
theorem dX11_copy_449 : decode cX11_copy 449 = .ok (.iload_n 2, 1) := by decide +kernel
theorem dX11_copy_450 : decode cX11_copy 450 = .ok (.invokestatic 224, 3) := by decide +kernel
theorem dX11_copy_453 : decode cX11_copy 453 = .ok (.aload_n 0, 1) := by decide +kernel
theorem dX11_copy_454 : decode cX11_copy 454 = .ok (.getfield 129, 3) := by decide +kernel
theorem dX11_copy_457 : decode cX11_copy 457 = .ok (.iconst 1, 1) := by decide +kernel
theorem dX11_copy_458 : decode cX11_copy 458 = .ok (.iload_n 1, 1) := by decide +kernel
theorem dX11_copy_459 : decode cX11_copy 459 = .ok (.iload_n 2, 1) := by decide +kernel
theorem dX11_copy_460 : decode cX11_copy 460 = .ok (.invokestatic 224, 3) := by decide +kernel
theorem dX11_copy_463 : decode cX11_copy 463 = .ok (.aload_n 0, 1) := by decide +kernel
theorem dX11_copy_464 : decode cX11_copy 464 = .ok (.getfield 132, 3) := by decide +kernel
theorem dX11_copy_467 : decode cX11_copy 467 = .ok (.bipush 16, 2) := by decide +kernel
theorem dX11_copy_469 : decode cX11_copy 469 = .ok (.iload_n 1, 1) := by decide +kernel
theorem dX11_copy_470 : decode cX11_copy 470 = .ok (.iload_n 2, 1) := by decide +kernel
theorem dX11_copy_471 : decode cX11_copy 471 = .ok (.invokestatic 224, 3) := by decide +kernel
theorem dX11_copy_474 : decode cX11_copy 474 = .ok (.aload_n 0, 1) := by decide +kernel
theorem dX11_copy_475 : decode cX11_copy 475 = .ok (.getfield 135, 3) := by decide +kernel
theorem dX11_copy_478 : decode cX11_copy 478 = .ok (.bipush 16, 2) := by decide +kernel
theorem dX11_copy_480 : decode cX11_copy 480 = .ok (.iload_n 1, 1) := by decide +kernel
theorem dX11_copy_481 : decode cX11_copy 481 = .ok (.iload_n 2, 1) := by decide +kernel
theorem dX11_copy_482 : decode cX11_copy 482 = .ok (.invokestatic 224, 3) := by decide +kernel
theorem dX11_copy_485 : decode cX11_copy 485 = .ok (.aload_n 0, 1) := by decide +kernel
theorem dX11_copy_486 : decode cX11_copy 486 = .ok (.getfield 138, 3) := by decide +kernel
theorem dX11_copy_489 : decode cX11_copy 489 = .ok (.bipush 16, 2) := by decide +kernel
theorem dX11_copy_491 : decode cX11_copy 491 = .ok (.iload_n 1, 1) := by decide +kernel
theorem dX11_copy_492 : decode cX11_copy 492 = .ok (.iload_n 2, 1) := by decide +kernel
theorem dX11_copy_493 : decode cX11_copy 493 = .ok (.invokestatic 224, 3) := by decide +kernel
theorem dX11_copy_496 : decode cX11_copy 496 = .ok (.aload_n 0, 1) := by decide +kernel
theorem dX11_copy_497 : decode cX11_copy 497 = .ok (.getfield 141, 3) := by decide +kernel
theorem dX11_copy_500 : decode cX11_copy 500 = .ok (.bipush 64, 2) := by decide +kernel
theorem dX11_copy_502 : decode cX11_copy 502 = .ok (.iload_n 1, 1) := by decide +kernel
theorem dX11_copy_503 : decode cX11_copy 503 = .ok (.iload_n 2, 1) := by decide +kernel
theorem dX11_copy_504 : decode cX11_copy 504 = .ok (.invokestatic 224, 3) := by decide +kernel
theorem dX11_copy_507 : decode cX11_copy 507 = .ok (.aload_n 0, 1) := by decide +kernel
theorem dX11_copy_508 : decode cX11_copy 508 = .ok (.getfield 144, 3) := by decide +kernel
theorem dX11_copy_511 : decode cX11_copy 511 = .ok (.bipush 64, 2) := by decide +kernel
theorem dX11_copy_513 : decode cX11_copy 513 = .ok (.iload_n 1, 1) := by decide +kernel
theorem dX11_copy_514 : decode cX11_copy 514 = .ok (.iload_n 2, 1) := by decide +kernel
theorem dX11_copy_515 : decode cX11_copy 515 = .ok (.invokestatic 224, 3) := by decide +kernel
theorem dX11_copy_518 : decode cX11_copy 518 = .ok (.aload_n 0, 1) := by decide +kernel
theorem dX11_copy_519 : decode cX11_copy 519 = .ok (.getfield 147, 3) := by decide +kernel
theorem dX11_copy_522 : decode cX11_copy 522 = .ok (.bipush 64, 2) := by decide +kernel
theorem dX11_copy_524 : decode cX11_copy 524 = .ok (.iload_n 1, 1) := by decide +kernel
theorem dX11_copy_525 : decode cX11_copy 525 = .ok (.iload_n 2, 1) := by decide +kernel
theorem dX11_copy_526 : decode cX11_copy 526 = .ok (.invokestatic 224, 3) := by decide +kernel
theorem dX11_copy_529 : decode cX11_copy 529 = .ok (.aload_n 0, 1) := by decide +kernel
theorem dX11_copy_530 : decode cX11_copy 530 = .ok (.getfield 150, 3) := by decide +kernel
theorem dX11_copy_533 : decode cX11_copy 533 = .ok (.bipush 64, 2) := by decide +kernel
theorem dX11_copy_535 : decode cX11_copy 535 = .ok (.iload_n 1, 1) := by decide +kernel
theorem dX11_copy_536 : decode cX11_copy 536 = .ok (.iload_n 2, 1) := by decide +kernel
theorem dX11_copy_537 : decode cX11_copy 537 = .ok (.invokestatic 228, 3) := by decide +kernel
theorem dX11_copy_540 : decode cX11_copy 540 = .ok (.aload_n 0, 1) := by decide +kernel
theorem dX11_copy_541 : decode cX11_copy 541 = .ok (.getfield 153, 3) := by decide +kernel
theorem dX11_copy_544 : decode cX11_copy 544 = .ok (.bipush 48, 2) := by decide +kernel
theorem dX11_copy_546 : decode cX11_copy 546 = .ok (.iload_n 1, 1) := by decide +kernel
theorem dX11_copy_547 : decode cX11_copy 547 = .ok (.iload_n 2, 1) := by decide +kernel
theorem dX11_copy_548 : decode cX11_copy 548 = .ok (.invokestatic 224, 3) := by decide +kernel
theorem dX11_copy_551 : decode cX11_copy 551 = .ok (.aload_n 0, 1) := by decide +kernel
theorem dX11_copy_552 : decode cX11_copy 552 = .ok (.getfield 156, 3) := by decide +kernel
theorem dX11_copy_555 : decode cX11_copy 555 = .ok (.iconst 1, 1) := by decide +kernel
theorem dX11_copy_556 : decode cX11_copy 556 = .ok (.iload_n 1, 1) := by decide +kernel
theorem dX11_copy_557 : decode cX11_copy 557 = .ok (.iload_n 2, 1) := by decide +kernel
theorem dX11_copy_558 : decode cX11_copy 558 = .ok (.invokestatic 224, 3) := by decide +kernel
theorem dX11_copy_561 : decode cX11_copy 561 = .ok (.aload_n 0, 1) := by decide +kernel
theorem dX11_copy_562 : decode cX11_copy 562 = .ok (.getfield 159, 3) := by decide +kernel
theorem dX11_copy_565 : decode cX11_copy 565 = .ok (.bipush 12, 2) := by decide +kernel
theorem dX11_copy_567 : decode cX11_copy 567 = .ok (.iload_n 1, 1) := by decide +kernel
theorem dX11_copy_568 : decode cX11_copy 568 = .ok (.iload_n 2, 1) := by decide +kernel
theorem dX11_copy_569 : decode cX11_copy 569 = .ok (.invokestatic 224, 3) := by decide +kernel
theorem dX11_copy_572 : decode cX11_copy 572 = .ok (.aload_n 0, 1) := by decide +kernel
theorem dX11_copy_573 : decode cX11_copy 573 = .ok (.getfield 162, 3) := by decide +kernel
theorem dX11_copy_576 : decode cX11_copy 576 = .ok (.bipush 12, 2) := by decide +kernel
theorem dX11_copy_578 : decode cX11_copy 578 = .ok (.iload_n 1, 1) := by decide +kernel
theorem dX11_copy_579 : decode cX11_copy 579 = .ok (.iload_n 2, 1) := by decide +kernel
theorem dX11_copy_580 : decode cX11_copy 580 = .ok (.invokestatic 224, 3) := by decide +kernel
theorem dX11_copy_583 : decode cX11_copy 583 = .ok (.return_, 1) := by decide +kernel
theorem dX11_isCell_0 : decode cX11_isCell 0 = .ok (.iload_n 1, 1) := by decide +kernel
theorem dX11_isCell_1 : decode cX11_isCell 1 = .ok (.iconst 0, 1) := by decide +kernel
theorem dX11_isCell_2 : decode cX11_isCell 2 = .ok (.aload_n 0, 1) := by decide +kernel
theorem dX11_isCell_3 : decode cX11_isCell 3 = .ok (.getfield 29, 3) := by decide +kernel
theorem dX11_isCell_6 : decode cX11_isCell 6 = .ok (.iconst 0, 1) := by decide +kernel
theorem dX11_isCell_7 : decode cX11_isCell 7 = .ok (.iaload, 1) := by decide +kernel
theorem dX11_isCell_8 : decode cX11_isCell 8 = .ok (.iconst 1, 1) := by decide +kernel
theorem dX11_isCell_9 : decode cX11_isCell 9 = .ok (.isub, 1) := by decide +kernel
theorem dX11_isCell_10 : decode cX11_isCell 10 = .ok (.invokestatic 232, 3) := by decide +kernel
theorem dX11_isCell_13 : decode cX11_isCell 13 = .ok (.ireturn, 1) := by decide +kernel
theorem dX11_isCamp_0 : decode cX11_isCamp 0 = .ok (.iload_n 1, 1) := by decide +kernel
theorem dX11_isCamp_1 : decode cX11_isCamp 1 = .ok (.iconst 0, 1) := by decide +kernel
theorem dX11_isCamp_2 : decode cX11_isCamp 2 = .ok (.aload_n 0, 1) := by decide +kernel
theorem dX11_isCamp_3 : decode cX11_isCamp 3 = .ok (.getfield 39, 3) := by decide +kernel
theorem dX11_isCamp_6 : decode cX11_isCamp 6 = .ok (.iconst 0, 1) := by decide +kernel
theorem dX11_isCamp_7 : decode cX11_isCamp 7 = .ok (.iaload, 1) := by decide +kernel
theorem dX11_isCamp_8 : decode cX11_isCamp 8 = .ok (.iconst 1, 1) := by decide +kernel
theorem dX11_isCamp_9 : decode cX11_isCamp 9 = .ok (.isub, 1) := by decide +kernel
theorem dX11_isCamp_10 : decode cX11_isCamp 10 = .ok (.invokestatic 232, 3) := by decide +kernel
theorem dX11_isCamp_13 : decode cX11_isCamp 13 = .ok (.ireturn, 1) := by decide +kernel
theorem dX11_isBook_0 : decode cX11_isBook 0 = .ok (.iload_n 1, 1) := by decide +kernel
theorem dX11_isBook_1 : decode cX11_isBook 1 = .ok (.iconst 0, 1) := by decide +kernel
theorem dX11_isBook_2 : decode cX11_isBook 2 = .ok (.aload_n 0, 1) := by decide +kernel
theorem dX11_isBook_3 : decode cX11_isBook 3 = .ok (.getfield 87, 3) := by decide +kernel
theorem dX11_isBook_6 : decode cX11_isBook 6 = .ok (.iconst 0, 1) := by decide +kernel
theorem dX11_isBook_7 : decode cX11_isBook 7 = .ok (.iaload, 1) := by decide +kernel
theorem dX11_isBook_8 : decode cX11_isBook 8 = .ok (.iconst 1, 1) := by decide +kernel
theorem dX11_isBook_9 : decode cX11_isBook 9 = .ok (.isub, 1) := by decide +kernel
theorem dX11_isBook_10 : decode cX11_isBook 10 = .ok (.invokestatic 232, 3) := by decide +kernel
theorem dX11_isBook_13 : decode cX11_isBook 13 = .ok (.ireturn, 1) := by decide +kernel
theorem dX11_isWeek_0 : decode cX11_isWeek 0 = .ok (.iload_n 0, 1) := by decide +kernel
theorem dX11_isWeek_1 : decode cX11_isWeek 1 = .ok (.iconst 0, 1) := by decide +kernel
theorem dX11_isWeek_2 : decode cX11_isWeek 2 = .ok (.bipush 99, 2) := by decide +kernel
theorem dX11_isWeek_4 : decode cX11_isWeek 4 = .ok (.invokestatic 232, 3) := by decide +kernel
theorem dX11_isWeek_7 : decode cX11_isWeek 7 = .ok (.ireturn, 1) := by decide +kernel
theorem dX11_viewWeek_0 : decode cX11_viewWeek 0 = .ok (.aload_n 0, 1) := by decide +kernel
theorem dX11_viewWeek_1 : decode cX11_viewWeek 1 = .ok (.getfield 26, 3) := by decide +kernel
theorem dX11_viewWeek_4 : decode cX11_viewWeek 4 = .ok (.iconst 0, 1) := by decide +kernel
theorem dX11_viewWeek_5 : decode cX11_viewWeek 5 = .ok (.iaload, 1) := by decide +kernel
theorem dX11_viewWeek_6 : decode cX11_viewWeek 6 = .ok (.iconst (-1), 1) := by decide +kernel
theorem dX11_viewWeek_7 : decode cX11_viewWeek 7 = .ok (.if_icmp .ne 12, 3) := by decide +kernel
theorem dX11_viewWeek_10 : decode cX11_viewWeek 10 = .ok (.aload_n 0, 1) := by decide +kernel
theorem dX11_viewWeek_11 : decode cX11_viewWeek 11 = .ok (.getfield 23, 3) := by decide +kernel
theorem dX11_viewWeek_14 : decode cX11_viewWeek 14 = .ok (.iconst 0, 1) := by decide +kernel
theorem dX11_viewWeek_15 : decode cX11_viewWeek 15 = .ok (.iaload, 1) := by decide +kernel
theorem dX11_viewWeek_16 : decode cX11_viewWeek 16 = .ok (.goto 9, 3) := by decide +kernel
theorem dX11_viewWeek_19 : decode cX11_viewWeek 19 = .ok (.aload_n 0, 1) := by decide +kernel
theorem dX11_viewWeek_20 : decode cX11_viewWeek 20 = .ok (.getfield 26, 3) := by decide +kernel
theorem dX11_viewWeek_23 : decode cX11_viewWeek 23 = .ok (.iconst 0, 1) := by decide +kernel
theorem dX11_viewWeek_24 : decode cX11_viewWeek 24 = .ok (.iaload, 1) := by decide +kernel
theorem dX11_viewWeek_25 : decode cX11_viewWeek 25 = .ok (.ireturn, 1) := by decide +kernel
theorem dX11_cell_0 : decode cX11_cell 0 = .ok (.aload_n 0, 1) := by decide +kernel
theorem dX11_cell_1 : decode cX11_cell 1 = .ok (.iconst 0, 1) := by decide +kernel
theorem dX11_cell_2 : decode cX11_cell 2 = .ok (.putfield 220, 3) := by decide +kernel
theorem dX11_cell_5 : decode cX11_cell 5 = .ok (.aload_n 0, 1) := by decide +kernel
theorem dX11_cell_6 : decode cX11_cell 6 = .ok (.getfield 29, 3) := by decide +kernel
theorem dX11_cell_9 : decode cX11_cell 9 = .ok (.iconst 0, 1) := by decide +kernel
theorem dX11_cell_10 : decode cX11_cell 10 = .ok (.iaload, 1) := by decide +kernel
theorem dX11_cell_11 : decode cX11_cell 11 = .ok (.bipush 10, 2) := by decide +kernel
theorem dX11_cell_13 : decode cX11_cell 13 = .ok (.if_icmp .ne 5, 3) := by decide +kernel
theorem dX11_cell_16 : decode cX11_cell 16 = .ok (.iconst (-1), 1) := by decide +kernel
theorem dX11_cell_17 : decode cX11_cell 17 = .ok (.ireturn, 1) := by decide +kernel
theorem dX11_cell_18 : decode cX11_cell 18 = .ok (.aload_n 0, 1) := by decide +kernel
theorem dX11_cell_19 : decode cX11_cell 19 = .ok (.getfield 29, 3) := by decide +kernel
theorem dX11_cell_22 : decode cX11_cell 22 = .ok (.iconst 0, 1) := by decide +kernel
theorem dX11_cell_23 : decode cX11_cell 23 = .ok (.iaload, 1) := by decide +kernel
theorem dX11_cell_24 : decode cX11_cell 24 = .ok (.istore_n 2, 1) := by decide +kernel
theorem dX11_cell_25 : decode cX11_cell 25 = .ok (.aload_n 0, 1) := by decide +kernel
theorem dX11_cell_26 : decode cX11_cell 26 = .ok (.getfield 29, 3) := by decide +kernel
theorem dX11_cell_29 : decode cX11_cell 29 = .ok (.iconst 0, 1) := by decide +kernel
theorem dX11_cell_30 : decode cX11_cell 30 = .ok (.dup2, 1) := by decide +kernel
theorem dX11_cell_31 : decode cX11_cell 31 = .ok (.iaload, 1) := by decide +kernel
theorem dX11_cell_32 : decode cX11_cell 32 = .ok (.iconst 1, 1) := by decide +kernel
theorem dX11_cell_33 : decode cX11_cell 33 = .ok (.iadd, 1) := by decide +kernel
theorem dX11_cell_34 : decode cX11_cell 34 = .ok (.iastore, 1) := by decide +kernel
theorem dX11_cell_35 : decode cX11_cell 35 = .ok (.aload_n 0, 1) := by decide +kernel
theorem dX11_cell_36 : decode cX11_cell 36 = .ok (.getfield 32, 3) := by decide +kernel
theorem dX11_cell_39 : decode cX11_cell 39 = .ok (.iload_n 2, 1) := by decide +kernel
theorem dX11_cell_40 : decode cX11_cell 40 = .ok (.iload_n 1, 1) := by decide +kernel
theorem dX11_cell_41 : decode cX11_cell 41 = .ok (.bastore, 1) := by decide +kernel
theorem dX11_cell_42 : decode cX11_cell 42 = .ok (.iload_n 2, 1) := by decide +kernel
theorem dX11_cell_43 : decode cX11_cell 43 = .ok (.ireturn, 1) := by decide +kernel
theorem dX11_way_0 : decode cX11_way 0 = .ok (.aload_n 0, 1) := by decide +kernel
theorem dX11_way_1 : decode cX11_way 1 = .ok (.iconst 0, 1) := by decide +kernel
theorem dX11_way_2 : decode cX11_way 2 = .ok (.putfield 220, 3) := by decide +kernel
theorem dX11_way_5 : decode cX11_way 5 = .ok (.aload_n 0, 1) := by decide +kernel
theorem dX11_way_6 : decode cX11_way 6 = .ok (.iload_n 1, 1) := by decide +kernel
theorem dX11_way_7 : decode cX11_way 7 = .ok (.invokevirtual 236, 3) := by decide +kernel
theorem dX11_way_10 : decode cX11_way 10 = .ok (.ifCond .eq 26, 3) := by decide +kernel
theorem dX11_way_13 : decode cX11_way 13 = .ok (.aload_n 0, 1) := by decide +kernel
theorem dX11_way_14 : decode cX11_way 14 = .ok (.iload_n 2, 1) := by decide +kernel
theorem dX11_way_15 : decode cX11_way 15 = .ok (.invokevirtual 236, 3) := by decide +kernel
theorem dX11_way_18 : decode cX11_way 18 = .ok (.ifCond .eq 18, 3) := by decide +kernel
theorem dX11_way_21 : decode cX11_way 21 = .ok (.iload_n 1, 1) := by decide +kernel
theorem dX11_way_22 : decode cX11_way 22 = .ok (.iload_n 2, 1) := by decide +kernel
theorem dX11_way_23 : decode cX11_way 23 = .ok (.if_icmp .eq 13, 3) := by decide +kernel
theorem dX11_way_26 : decode cX11_way 26 = .ok (.iload_n 3, 1) := by decide +kernel
theorem dX11_way_27 : decode cX11_way 27 = .ok (.iconst 1, 1) := by decide +kernel
theorem dX11_way_28 : decode cX11_way 28 = .ok (.bipush 9, 2) := by decide +kernel
theorem dX11_way_30 : decode cX11_way 30 = .ok (.invokestatic 232, 3) := by decide +kernel
theorem dX11_way_33 : decode cX11_way 33 = .ok (.ifCond .ne 5, 3) := by decide +kernel
theorem dX11_way_36 : decode cX11_way 36 = .ok (.iconst 0, 1) := by decide +kernel
theorem dX11_way_37 : decode cX11_way 37 = .ok (.ireturn, 1) := by decide +kernel
theorem dX11_way_38 : decode cX11_way 38 = .ok (.aload_n 0, 1) := by decide +kernel
theorem dX11_way_39 : decode cX11_way 39 = .ok (.getfield 36, 3) := by decide +kernel
theorem dX11_way_42 : decode cX11_way 42 = .ok (.bipush 10, 2) := by decide +kernel
theorem dX11_way_44 : decode cX11_way 44 = .ok (.iload_n 1, 1) := by decide +kernel
theorem dX11_way_45 : decode cX11_way 45 = .ok (.imul, 1) := by decide +kernel
theorem dX11_way_46 : decode cX11_way 46 = .ok (.iload_n 2, 1) := by decide +kernel
theorem dX11_way_47 : decode cX11_way 47 = .ok (.iadd, 1) := by decide +kernel
theorem dX11_way_48 : decode cX11_way 48 = .ok (.iload_n 3, 1) := by decide +kernel
theorem dX11_way_49 : decode cX11_way 49 = .ok (.iastore, 1) := by decide +kernel
theorem dX11_way_50 : decode cX11_way 50 = .ok (.aload_n 0, 1) := by decide +kernel
theorem dX11_way_51 : decode cX11_way 51 = .ok (.getfield 36, 3) := by decide +kernel
theorem dX11_way_54 : decode cX11_way 54 = .ok (.bipush 10, 2) := by decide +kernel
theorem dX11_way_56 : decode cX11_way 56 = .ok (.iload_n 2, 1) := by decide +kernel
theorem dX11_way_57 : decode cX11_way 57 = .ok (.imul, 1) := by decide +kernel
theorem dX11_way_58 : decode cX11_way 58 = .ok (.iload_n 1, 1) := by decide +kernel
theorem dX11_way_59 : decode cX11_way 59 = .ok (.iadd, 1) := by decide +kernel
theorem dX11_way_60 : decode cX11_way 60 = .ok (.iload_n 3, 1) := by decide +kernel
theorem dX11_way_61 : decode cX11_way 61 = .ok (.iastore, 1) := by decide +kernel
theorem dX11_way_62 : decode cX11_way 62 = .ok (.iconst 1, 1) := by decide +kernel
theorem dX11_way_63 : decode cX11_way 63 = .ok (.ireturn, 1) := by decide +kernel
theorem dX11_camp_0 : decode cX11_camp 0 = .ok (.aload_n 0, 1) := by decide +kernel
theorem dX11_camp_1 : decode cX11_camp 1 = .ok (.iconst 0, 1) := by decide +kernel
theorem dX11_camp_2 : decode cX11_camp 2 = .ok (.putfield 220, 3) := by decide +kernel
theorem dX11_camp_5 : decode cX11_camp 5 = .ok (.aload_n 0, 1) := by decide +kernel
theorem dX11_camp_6 : decode cX11_camp 6 = .ok (.getfield 39, 3) := by decide +kernel
theorem dX11_camp_9 : decode cX11_camp 9 = .ok (.iconst 0, 1) := by decide +kernel
theorem dX11_camp_10 : decode cX11_camp 10 = .ok (.iaload, 1) := by decide +kernel
theorem dX11_camp_11 : decode cX11_camp 11 = .ok (.bipush 6, 2) := by decide +kernel
theorem dX11_camp_13 : decode cX11_camp 13 = .ok (.if_icmp .eq 20, 3) := by decide +kernel
theorem dX11_camp_16 : decode cX11_camp 16 = .ok (.aload_n 0, 1) := by decide +kernel
theorem dX11_camp_17 : decode cX11_camp 17 = .ok (.iload_n 1, 1) := by decide +kernel
theorem dX11_camp_18 : decode cX11_camp 18 = .ok (.invokevirtual 236, 3) := by decide +kernel
theorem dX11_camp_21 : decode cX11_camp 21 = .ok (.ifCond .eq 12, 3) := by decide +kernel
theorem dX11_camp_24 : decode cX11_camp 24 = .ok (.iload_n 2, 1) := by decide +kernel
theorem dX11_camp_25 : decode cX11_camp 25 = .ok (.iconst 0, 1) := by decide +kernel
theorem dX11_camp_26 : decode cX11_camp 26 = .ok (.iconst 3, 1) := by decide +kernel
theorem dX11_camp_27 : decode cX11_camp 27 = .ok (.invokestatic 232, 3) := by decide +kernel
theorem dX11_camp_30 : decode cX11_camp 30 = .ok (.ifCond .ne 5, 3) := by decide +kernel
theorem dX11_camp_33 : decode cX11_camp 33 = .ok (.iconst (-1), 1) := by decide +kernel
theorem dX11_camp_34 : decode cX11_camp 34 = .ok (.ireturn, 1) := by decide +kernel
theorem dX11_camp_35 : decode cX11_camp 35 = .ok (.aload_n 0, 1) := by decide +kernel
theorem dX11_camp_36 : decode cX11_camp 36 = .ok (.getfield 39, 3) := by decide +kernel
theorem dX11_camp_39 : decode cX11_camp 39 = .ok (.iconst 0, 1) := by decide +kernel
theorem dX11_camp_40 : decode cX11_camp 40 = .ok (.iaload, 1) := by decide +kernel
theorem dX11_camp_41 : decode cX11_camp 41 = .ok (.istore_n 3, 1) := by decide +kernel
theorem dX11_camp_42 : decode cX11_camp 42 = .ok (.aload_n 0, 1) := by decide +kernel
theorem dX11_camp_43 : decode cX11_camp 43 = .ok (.getfield 39, 3) := by decide +kernel
theorem dX11_camp_46 : decode cX11_camp 46 = .ok (.iconst 0, 1) := by decide +kernel
theorem dX11_camp_47 : decode cX11_camp 47 = .ok (.dup2, 1) := by decide +kernel
theorem dX11_camp_48 : decode cX11_camp 48 = .ok (.iaload, 1) := by decide +kernel
theorem dX11_camp_49 : decode cX11_camp 49 = .ok (.iconst 1, 1) := by decide +kernel
theorem dX11_camp_50 : decode cX11_camp 50 = .ok (.iadd, 1) := by decide +kernel
theorem dX11_camp_51 : decode cX11_camp 51 = .ok (.iastore, 1) := by decide +kernel
theorem dX11_camp_52 : decode cX11_camp 52 = .ok (.aload_n 0, 1) := by decide +kernel
theorem dX11_camp_53 : decode cX11_camp 53 = .ok (.getfield 42, 3) := by decide +kernel
theorem dX11_camp_56 : decode cX11_camp 56 = .ok (.iload_n 3, 1) := by decide +kernel
theorem dX11_camp_57 : decode cX11_camp 57 = .ok (.iload_n 2, 1) := by decide +kernel
theorem dX11_camp_58 : decode cX11_camp 58 = .ok (.iastore, 1) := by decide +kernel
theorem dX11_camp_59 : decode cX11_camp 59 = .ok (.aload_n 0, 1) := by decide +kernel
theorem dX11_camp_60 : decode cX11_camp 60 = .ok (.getfield 45, 3) := by decide +kernel
theorem dX11_camp_63 : decode cX11_camp 63 = .ok (.iload_n 3, 1) := by decide +kernel
theorem dX11_camp_64 : decode cX11_camp 64 = .ok (.iload_n 1, 1) := by decide +kernel
theorem dX11_camp_65 : decode cX11_camp 65 = .ok (.iastore, 1) := by decide +kernel
theorem dX11_camp_66 : decode cX11_camp 66 = .ok (.aload_n 0, 1) := by decide +kernel
theorem dX11_camp_67 : decode cX11_camp 67 = .ok (.getfield 48, 3) := by decide +kernel
theorem dX11_camp_70 : decode cX11_camp 70 = .ok (.iload_n 3, 1) := by decide +kernel
theorem dX11_camp_71 : decode cX11_camp 71 = .ok (.aload_n 0, 1) := by decide +kernel
theorem dX11_camp_72 : decode cX11_camp 72 = .ok (.getfield 23, 3) := by decide +kernel
theorem dX11_camp_75 : decode cX11_camp 75 = .ok (.iconst 0, 1) := by decide +kernel
theorem dX11_camp_76 : decode cX11_camp 76 = .ok (.iaload, 1) := by decide +kernel
theorem dX11_camp_77 : decode cX11_camp 77 = .ok (.iastore, 1) := by decide +kernel
theorem dX11_camp_78 : decode cX11_camp 78 = .ok (.iload_n 3, 1) := by decide +kernel
theorem dX11_camp_79 : decode cX11_camp 79 = .ok (.ireturn, 1) := by decide +kernel
theorem dX11_grass_0 : decode cX11_grass 0 = .ok (.aload_n 0, 1) := by decide +kernel
theorem dX11_grass_1 : decode cX11_grass 1 = .ok (.iconst 0, 1) := by decide +kernel
theorem dX11_grass_2 : decode cX11_grass 2 = .ok (.putfield 220, 3) := by decide +kernel
theorem dX11_grass_5 : decode cX11_grass 5 = .ok (.aload_n 0, 1) := by decide +kernel
theorem dX11_grass_6 : decode cX11_grass 6 = .ok (.getfield 51, 3) := by decide +kernel
theorem dX11_grass_9 : decode cX11_grass 9 = .ok (.iconst 0, 1) := by decide +kernel
theorem dX11_grass_10 : decode cX11_grass 10 = .ok (.iaload, 1) := by decide +kernel
theorem dX11_grass_11 : decode cX11_grass 11 = .ok (.bipush 60, 2) := by decide +kernel
theorem dX11_grass_13 : decode cX11_grass 13 = .ok (.if_icmp .eq 28, 3) := by decide +kernel
theorem dX11_grass_16 : decode cX11_grass 16 = .ok (.aload_n 0, 1) := by decide +kernel
theorem dX11_grass_17 : decode cX11_grass 17 = .ok (.iload_n 1, 1) := by decide +kernel
theorem dX11_grass_18 : decode cX11_grass 18 = .ok (.invokevirtual 236, 3) := by decide +kernel
theorem dX11_grass_21 : decode cX11_grass 21 = .ok (.ifCond .eq 20, 3) := by decide +kernel
theorem dX11_grass_24 : decode cX11_grass 24 = .ok (.iload_n 2, 1) := by decide +kernel
theorem dX11_grass_25 : decode cX11_grass 25 = .ok (.invokestatic 240, 3) := by decide +kernel
theorem dX11_grass_28 : decode cX11_grass 28 = .ok (.ifCond .eq 13, 3) := by decide +kernel
theorem dX11_grass_31 : decode cX11_grass 31 = .ok (.iload_n 3, 1) := by decide +kernel
theorem dX11_grass_32 : decode cX11_grass 32 = .ok (.iconst 0, 1) := by decide +kernel
theorem dX11_grass_33 : decode cX11_grass 33 = .ok (.bipush 99, 2) := by decide +kernel
theorem dX11_grass_35 : decode cX11_grass 35 = .ok (.invokestatic 232, 3) := by decide +kernel
theorem dX11_grass_38 : decode cX11_grass 38 = .ok (.ifCond .ne 5, 3) := by decide +kernel
theorem dX11_grass_41 : decode cX11_grass 41 = .ok (.iconst 0, 1) := by decide +kernel
theorem dX11_grass_42 : decode cX11_grass 42 = .ok (.ireturn, 1) := by decide +kernel
theorem dX11_grass_43 : decode cX11_grass 43 = .ok (.aload_n 0, 1) := by decide +kernel
theorem dX11_grass_44 : decode cX11_grass 44 = .ok (.getfield 51, 3) := by decide +kernel
theorem dX11_grass_47 : decode cX11_grass 47 = .ok (.iconst 0, 1) := by decide +kernel
theorem dX11_grass_48 : decode cX11_grass 48 = .ok (.iaload, 1) := by decide +kernel
theorem dX11_grass_49 : decode cX11_grass 49 = .ok (.istore 4, 2) := by decide +kernel
theorem dX11_grass_51 : decode cX11_grass 51 = .ok (.aload_n 0, 1) := by decide +kernel
theorem dX11_grass_52 : decode cX11_grass 52 = .ok (.getfield 51, 3) := by decide +kernel
theorem dX11_grass_55 : decode cX11_grass 55 = .ok (.iconst 0, 1) := by decide +kernel
theorem dX11_grass_56 : decode cX11_grass 56 = .ok (.dup2, 1) := by decide +kernel
theorem dX11_grass_57 : decode cX11_grass 57 = .ok (.iaload, 1) := by decide +kernel
theorem dX11_grass_58 : decode cX11_grass 58 = .ok (.iconst 1, 1) := by decide +kernel
theorem dX11_grass_59 : decode cX11_grass 59 = .ok (.iadd, 1) := by decide +kernel
theorem dX11_grass_60 : decode cX11_grass 60 = .ok (.iastore, 1) := by decide +kernel
theorem dX11_grass_61 : decode cX11_grass 61 = .ok (.aload_n 0, 1) := by decide +kernel
theorem dX11_grass_62 : decode cX11_grass 62 = .ok (.getfield 54, 3) := by decide +kernel
theorem dX11_grass_65 : decode cX11_grass 65 = .ok (.iload 4, 2) := by decide +kernel
theorem dX11_grass_67 : decode cX11_grass 67 = .ok (.iload_n 1, 1) := by decide +kernel
theorem dX11_grass_68 : decode cX11_grass 68 = .ok (.iastore, 1) := by decide +kernel
theorem dX11_grass_69 : decode cX11_grass 69 = .ok (.aload_n 0, 1) := by decide +kernel
theorem dX11_grass_70 : decode cX11_grass 70 = .ok (.getfield 57, 3) := by decide +kernel
theorem dX11_grass_73 : decode cX11_grass 73 = .ok (.iload 4, 2) := by decide +kernel
theorem dX11_grass_75 : decode cX11_grass 75 = .ok (.iload_n 2, 1) := by decide +kernel
theorem dX11_grass_76 : decode cX11_grass 76 = .ok (.iastore, 1) := by decide +kernel
theorem dX11_grass_77 : decode cX11_grass 77 = .ok (.aload_n 0, 1) := by decide +kernel
theorem dX11_grass_78 : decode cX11_grass 78 = .ok (.getfield 60, 3) := by decide +kernel
theorem dX11_grass_81 : decode cX11_grass 81 = .ok (.iload 4, 2) := by decide +kernel
theorem dX11_grass_83 : decode cX11_grass 83 = .ok (.iload_n 3, 1) := by decide +kernel
theorem dX11_grass_84 : decode cX11_grass 84 = .ok (.iastore, 1) := by decide +kernel
theorem dX11_grass_85 : decode cX11_grass 85 = .ok (.aload_n 0, 1) := by decide +kernel
theorem dX11_grass_86 : decode cX11_grass 86 = .ok (.getfield 63, 3) := by decide +kernel
theorem dX11_grass_89 : decode cX11_grass 89 = .ok (.iload 4, 2) := by decide +kernel
theorem dX11_grass_91 : decode cX11_grass 91 = .ok (.aload_n 0, 1) := by decide +kernel
theorem dX11_grass_92 : decode cX11_grass 92 = .ok (.getfield 23, 3) := by decide +kernel
theorem dX11_grass_95 : decode cX11_grass 95 = .ok (.iconst 0, 1) := by decide +kernel
theorem dX11_grass_96 : decode cX11_grass 96 = .ok (.iaload, 1) := by decide +kernel
theorem dX11_grass_97 : decode cX11_grass 97 = .ok (.iastore, 1) := by decide +kernel
theorem dX11_grass_98 : decode cX11_grass 98 = .ok (.iconst 1, 1) := by decide +kernel
theorem dX11_grass_99 : decode cX11_grass 99 = .ok (.ireturn, 1) := by decide +kernel
theorem dX11_dry_0 : decode cX11_dry 0 = .ok (.aload_n 0, 1) := by decide +kernel
theorem dX11_dry_1 : decode cX11_dry 1 = .ok (.iconst 0, 1) := by decide +kernel
theorem dX11_dry_2 : decode cX11_dry 2 = .ok (.putfield 220, 3) := by decide +kernel
theorem dX11_dry_5 : decode cX11_dry 5 = .ok (.iload_n 1, 1) := by decide +kernel
theorem dX11_dry_6 : decode cX11_dry 6 = .ok (.invokestatic 240, 3) := by decide +kernel
theorem dX11_dry_9 : decode cX11_dry 9 = .ok (.ifCond .eq 13, 3) := by decide +kernel
theorem dX11_dry_12 : decode cX11_dry 12 = .ok (.aload_n 0, 1) := by decide +kernel
theorem dX11_dry_13 : decode cX11_dry 13 = .ok (.getfield 66, 3) := by decide +kernel
theorem dX11_dry_16 : decode cX11_dry 16 = .ok (.iload_n 1, 1) := by decide +kernel
theorem dX11_dry_17 : decode cX11_dry 17 = .ok (.baload, 1) := by decide +kernel
theorem dX11_dry_18 : decode cX11_dry 18 = .ok (.iload_n 2, 1) := by decide +kernel
theorem dX11_dry_19 : decode cX11_dry 19 = .ok (.if_icmp .ne 5, 3) := by decide +kernel
theorem dX11_dry_22 : decode cX11_dry 22 = .ok (.iconst 0, 1) := by decide +kernel
theorem dX11_dry_23 : decode cX11_dry 23 = .ok (.ireturn, 1) := by decide +kernel
theorem dX11_dry_24 : decode cX11_dry 24 = .ok (.aload_n 0, 1) := by decide +kernel
theorem dX11_dry_25 : decode cX11_dry 25 = .ok (.getfield 66, 3) := by decide +kernel
theorem dX11_dry_28 : decode cX11_dry 28 = .ok (.iload_n 1, 1) := by decide +kernel
theorem dX11_dry_29 : decode cX11_dry 29 = .ok (.iload_n 2, 1) := by decide +kernel
theorem dX11_dry_30 : decode cX11_dry 30 = .ok (.bastore, 1) := by decide +kernel
theorem dX11_dry_31 : decode cX11_dry 31 = .ok (.iconst 1, 1) := by decide +kernel
theorem dX11_dry_32 : decode cX11_dry 32 = .ok (.ireturn, 1) := by decide +kernel
theorem dX11_week_0 : decode cX11_week 0 = .ok (.aload_n 0, 1) := by decide +kernel
theorem dX11_week_1 : decode cX11_week 1 = .ok (.iconst 0, 1) := by decide +kernel
theorem dX11_week_2 : decode cX11_week 2 = .ok (.putfield 220, 3) := by decide +kernel
theorem dX11_week_5 : decode cX11_week 5 = .ok (.iload_n 1, 1) := by decide +kernel
theorem dX11_week_6 : decode cX11_week 6 = .ok (.aload_n 0, 1) := by decide +kernel
theorem dX11_week_7 : decode cX11_week 7 = .ok (.getfield 23, 3) := by decide +kernel
theorem dX11_week_10 : decode cX11_week 10 = .ok (.iconst 0, 1) := by decide +kernel
theorem dX11_week_11 : decode cX11_week 11 = .ok (.iaload, 1) := by decide +kernel
theorem dX11_week_12 : decode cX11_week 12 = .ok (.bipush 99, 2) := by decide +kernel
theorem dX11_week_14 : decode cX11_week 14 = .ok (.invokestatic 232, 3) := by decide +kernel
theorem dX11_week_17 : decode cX11_week 17 = .ok (.ifCond .ne 5, 3) := by decide +kernel
theorem dX11_week_20 : decode cX11_week 20 = .ok (.iconst 0, 1) := by decide +kernel
theorem dX11_week_21 : decode cX11_week 21 = .ok (.ireturn, 1) := by decide +kernel
theorem dX11_week_22 : decode cX11_week 22 = .ok (.aload_n 0, 1) := by decide +kernel
theorem dX11_week_23 : decode cX11_week 23 = .ok (.getfield 23, 3) := by decide +kernel
theorem dX11_week_26 : decode cX11_week 26 = .ok (.iconst 0, 1) := by decide +kernel
theorem dX11_week_27 : decode cX11_week 27 = .ok (.iload_n 1, 1) := by decide +kernel
theorem dX11_week_28 : decode cX11_week 28 = .ok (.iastore, 1) := by decide +kernel
theorem dX11_week_29 : decode cX11_week 29 = .ok (.iconst 1, 1) := by decide +kernel
theorem dX11_week_30 : decode cX11_week 30 = .ok (.ireturn, 1) := by decide +kernel
theorem dX11_view_0 : decode cX11_view 0 = .ok (.aload_n 0, 1) := by decide +kernel
theorem dX11_view_1 : decode cX11_view 1 = .ok (.iconst 0, 1) := by decide +kernel
theorem dX11_view_2 : decode cX11_view 2 = .ok (.putfield 220, 3) := by decide +kernel
theorem dX11_view_5 : decode cX11_view 5 = .ok (.iload_n 1, 1) := by decide +kernel
theorem dX11_view_6 : decode cX11_view 6 = .ok (.iconst (-1), 1) := by decide +kernel
theorem dX11_view_7 : decode cX11_view 7 = .ok (.aload_n 0, 1) := by decide +kernel
theorem dX11_view_8 : decode cX11_view 8 = .ok (.getfield 23, 3) := by decide +kernel
theorem dX11_view_11 : decode cX11_view 11 = .ok (.iconst 0, 1) := by decide +kernel
theorem dX11_view_12 : decode cX11_view 12 = .ok (.iaload, 1) := by decide +kernel
theorem dX11_view_13 : decode cX11_view 13 = .ok (.invokestatic 232, 3) := by decide +kernel
theorem dX11_view_16 : decode cX11_view 16 = .ok (.ifCond .ne 5, 3) := by decide +kernel
theorem dX11_view_19 : decode cX11_view 19 = .ok (.iconst 0, 1) := by decide +kernel
theorem dX11_view_20 : decode cX11_view 20 = .ok (.ireturn, 1) := by decide +kernel
theorem dX11_view_21 : decode cX11_view 21 = .ok (.aload_n 0, 1) := by decide +kernel
theorem dX11_view_22 : decode cX11_view 22 = .ok (.getfield 26, 3) := by decide +kernel
theorem dX11_view_25 : decode cX11_view 25 = .ok (.iconst 0, 1) := by decide +kernel
theorem dX11_view_26 : decode cX11_view 26 = .ok (.iload_n 1, 1) := by decide +kernel
theorem dX11_view_27 : decode cX11_view 27 = .ok (.iastore, 1) := by decide +kernel
theorem dX11_view_28 : decode cX11_view 28 = .ok (.iconst 1, 1) := by decide +kernel
theorem dX11_view_29 : decode cX11_view 29 = .ok (.ireturn, 1) := by decide +kernel
theorem dX11_news_0 : decode cX11_news 0 = .ok (.aload_n 0, 1) := by decide +kernel
theorem dX11_news_1 : decode cX11_news 1 = .ok (.iconst 0, 1) := by decide +kernel
theorem dX11_news_2 : decode cX11_news 2 = .ok (.putfield 220, 3) := by decide +kernel
theorem dX11_news_5 : decode cX11_news 5 = .ok (.aload_n 0, 1) := by decide +kernel
theorem dX11_news_6 : decode cX11_news 6 = .ok (.getfield 69, 3) := by decide +kernel
theorem dX11_news_9 : decode cX11_news 9 = .ok (.iconst 0, 1) := by decide +kernel
theorem dX11_news_10 : decode cX11_news 10 = .ok (.iaload, 1) := by decide +kernel
theorem dX11_news_11 : decode cX11_news 11 = .ok (.bipush 60, 2) := by decide +kernel
theorem dX11_news_13 : decode cX11_news 13 = .ok (.if_icmp .eq 38, 3) := by decide +kernel
theorem dX11_news_16 : decode cX11_news 16 = .ok (.aload_n 0, 1) := by decide +kernel
theorem dX11_news_17 : decode cX11_news 17 = .ok (.iload_n 1, 1) := by decide +kernel
theorem dX11_news_18 : decode cX11_news 18 = .ok (.invokevirtual 243, 3) := by decide +kernel
theorem dX11_news_21 : decode cX11_news 21 = .ok (.ifCond .eq 30, 3) := by decide +kernel
theorem dX11_news_24 : decode cX11_news 24 = .ok (.aload_n 0, 1) := by decide +kernel
theorem dX11_news_25 : decode cX11_news 25 = .ok (.iload_n 2, 1) := by decide +kernel
theorem dX11_news_26 : decode cX11_news 26 = .ok (.invokevirtual 236, 3) := by decide +kernel
theorem dX11_news_29 : decode cX11_news 29 = .ok (.ifCond .eq 22, 3) := by decide +kernel
theorem dX11_news_32 : decode cX11_news 32 = .ok (.iload_n 3, 1) := by decide +kernel
theorem dX11_news_33 : decode cX11_news 33 = .ok (.aload_n 0, 1) := by decide +kernel
theorem dX11_news_34 : decode cX11_news 34 = .ok (.getfield 48, 3) := by decide +kernel
theorem dX11_news_37 : decode cX11_news 37 = .ok (.iload_n 1, 1) := by decide +kernel
theorem dX11_news_38 : decode cX11_news 38 = .ok (.iaload, 1) := by decide +kernel
theorem dX11_news_39 : decode cX11_news 39 = .ok (.aload_n 0, 1) := by decide +kernel
theorem dX11_news_40 : decode cX11_news 40 = .ok (.getfield 23, 3) := by decide +kernel
theorem dX11_news_43 : decode cX11_news 43 = .ok (.iconst 0, 1) := by decide +kernel
theorem dX11_news_44 : decode cX11_news 44 = .ok (.iaload, 1) := by decide +kernel
theorem dX11_news_45 : decode cX11_news 45 = .ok (.invokestatic 232, 3) := by decide +kernel
theorem dX11_news_48 : decode cX11_news 48 = .ok (.ifCond .ne 5, 3) := by decide +kernel
theorem dX11_news_51 : decode cX11_news 51 = .ok (.iconst (-1), 1) := by decide +kernel
theorem dX11_news_52 : decode cX11_news 52 = .ok (.ireturn, 1) := by decide +kernel
theorem dX11_news_53 : decode cX11_news 53 = .ok (.aload_n 0, 1) := by decide +kernel
theorem dX11_news_54 : decode cX11_news 54 = .ok (.getfield 69, 3) := by decide +kernel
theorem dX11_news_57 : decode cX11_news 57 = .ok (.iconst 0, 1) := by decide +kernel
theorem dX11_news_58 : decode cX11_news 58 = .ok (.iaload, 1) := by decide +kernel
theorem dX11_news_59 : decode cX11_news 59 = .ok (.istore 5, 2) := by decide +kernel
theorem dX11_news_61 : decode cX11_news 61 = .ok (.aload_n 0, 1) := by decide +kernel
theorem dX11_news_62 : decode cX11_news 62 = .ok (.getfield 69, 3) := by decide +kernel
theorem dX11_news_65 : decode cX11_news 65 = .ok (.iconst 0, 1) := by decide +kernel
theorem dX11_news_66 : decode cX11_news 66 = .ok (.dup2, 1) := by decide +kernel
theorem dX11_news_67 : decode cX11_news 67 = .ok (.iaload, 1) := by decide +kernel
theorem dX11_news_68 : decode cX11_news 68 = .ok (.iconst 1, 1) := by decide +kernel
theorem dX11_news_69 : decode cX11_news 69 = .ok (.iadd, 1) := by decide +kernel
theorem dX11_news_70 : decode cX11_news 70 = .ok (.iastore, 1) := by decide +kernel
theorem dX11_news_71 : decode cX11_news 71 = .ok (.aload_n 0, 1) := by decide +kernel
theorem dX11_news_72 : decode cX11_news 72 = .ok (.getfield 72, 3) := by decide +kernel
theorem dX11_news_75 : decode cX11_news 75 = .ok (.iload 5, 2) := by decide +kernel
theorem dX11_news_77 : decode cX11_news 77 = .ok (.iload_n 1, 1) := by decide +kernel
theorem dX11_news_78 : decode cX11_news 78 = .ok (.iastore, 1) := by decide +kernel
theorem dX11_news_79 : decode cX11_news 79 = .ok (.aload_n 0, 1) := by decide +kernel
theorem dX11_news_80 : decode cX11_news 80 = .ok (.getfield 75, 3) := by decide +kernel
theorem dX11_news_83 : decode cX11_news 83 = .ok (.iload 5, 2) := by decide +kernel
theorem dX11_news_85 : decode cX11_news 85 = .ok (.iload_n 2, 1) := by decide +kernel
theorem dX11_news_86 : decode cX11_news 86 = .ok (.iastore, 1) := by decide +kernel
theorem dX11_news_87 : decode cX11_news 87 = .ok (.aload_n 0, 1) := by decide +kernel
theorem dX11_news_88 : decode cX11_news 88 = .ok (.getfield 78, 3) := by decide +kernel
theorem dX11_news_91 : decode cX11_news 91 = .ok (.iload 5, 2) := by decide +kernel
theorem dX11_news_93 : decode cX11_news 93 = .ok (.iload_n 3, 1) := by decide +kernel
theorem dX11_news_94 : decode cX11_news 94 = .ok (.iastore, 1) := by decide +kernel
theorem dX11_news_95 : decode cX11_news 95 = .ok (.aload_n 0, 1) := by decide +kernel
theorem dX11_news_96 : decode cX11_news 96 = .ok (.getfield 81, 3) := by decide +kernel
theorem dX11_news_99 : decode cX11_news 99 = .ok (.iload 5, 2) := by decide +kernel
theorem dX11_news_101 : decode cX11_news 101 = .ok (.iload 4, 2) := by decide +kernel
theorem dX11_news_103 : decode cX11_news 103 = .ok (.bastore, 1) := by decide +kernel
theorem dX11_news_104 : decode cX11_news 104 = .ok (.aload_n 0, 1) := by decide +kernel
theorem dX11_news_105 : decode cX11_news 105 = .ok (.getfield 84, 3) := by decide +kernel
theorem dX11_news_108 : decode cX11_news 108 = .ok (.iload 5, 2) := by decide +kernel
theorem dX11_news_110 : decode cX11_news 110 = .ok (.aload_n 0, 1) := by decide +kernel
theorem dX11_news_111 : decode cX11_news 111 = .ok (.getfield 23, 3) := by decide +kernel
theorem dX11_news_114 : decode cX11_news 114 = .ok (.iconst 0, 1) := by decide +kernel
theorem dX11_news_115 : decode cX11_news 115 = .ok (.iaload, 1) := by decide +kernel
theorem dX11_news_116 : decode cX11_news 116 = .ok (.iastore, 1) := by decide +kernel
theorem dX11_news_117 : decode cX11_news 117 = .ok (.iload 5, 2) := by decide +kernel
theorem dX11_news_119 : decode cX11_news 119 = .ok (.ireturn, 1) := by decide +kernel
theorem dX11_grassOf_0 : decode cX11_grassOf 0 = .ok (.iconst (-1), 1) := by decide +kernel
theorem dX11_grassOf_1 : decode cX11_grassOf 1 = .ok (.istore 4, 2) := by decide +kernel
theorem dX11_grassOf_3 : decode cX11_grassOf 3 = .ok (.iconst 0, 1) := by decide +kernel
theorem dX11_grassOf_4 : decode cX11_grassOf 4 = .ok (.istore 5, 2) := by decide +kernel
theorem dX11_grassOf_6 : decode cX11_grassOf 6 = .ok (.iload 5, 2) := by decide +kernel
theorem dX11_grassOf_8 : decode cX11_grassOf 8 = .ok (.aload_n 0, 1) := by decide +kernel
theorem dX11_grassOf_9 : decode cX11_grassOf 9 = .ok (.getfield 51, 3) := by decide +kernel
theorem dX11_grassOf_12 : decode cX11_grassOf 12 = .ok (.iconst 0, 1) := by decide +kernel
theorem dX11_grassOf_13 : decode cX11_grassOf 13 = .ok (.iaload, 1) := by decide +kernel
theorem dX11_grassOf_14 : decode cX11_grassOf 14 = .ok (.if_icmp .ge 69, 3) := by decide +kernel
theorem dX11_grassOf_17 : decode cX11_grassOf 17 = .ok (.aload_n 0, 1) := by decide +kernel
theorem dX11_grassOf_18 : decode cX11_grassOf 18 = .ok (.getfield 54, 3) := by decide +kernel
theorem dX11_grassOf_21 : decode cX11_grassOf 21 = .ok (.iload 5, 2) := by decide +kernel
theorem dX11_grassOf_23 : decode cX11_grassOf 23 = .ok (.iaload, 1) := by decide +kernel
theorem dX11_grassOf_24 : decode cX11_grassOf 24 = .ok (.iload_n 1, 1) := by decide +kernel
theorem dX11_grassOf_25 : decode cX11_grassOf 25 = .ok (.if_icmp .ne 52, 3) := by decide +kernel
theorem dX11_grassOf_28 : decode cX11_grassOf 28 = .ok (.aload_n 0, 1) := by decide +kernel
theorem dX11_grassOf_29 : decode cX11_grassOf 29 = .ok (.getfield 57, 3) := by decide +kernel
theorem dX11_grassOf_32 : decode cX11_grassOf 32 = .ok (.iload 5, 2) := by decide +kernel
theorem dX11_grassOf_34 : decode cX11_grassOf 34 = .ok (.iaload, 1) := by decide +kernel
theorem dX11_grassOf_35 : decode cX11_grassOf 35 = .ok (.iload_n 2, 1) := by decide +kernel
theorem dX11_grassOf_36 : decode cX11_grassOf 36 = .ok (.if_icmp .gt 41, 3) := by decide +kernel
theorem dX11_grassOf_39 : decode cX11_grassOf 39 = .ok (.aload_n 0, 1) := by decide +kernel
theorem dX11_grassOf_40 : decode cX11_grassOf 40 = .ok (.getfield 63, 3) := by decide +kernel
theorem dX11_grassOf_43 : decode cX11_grassOf 43 = .ok (.iload 5, 2) := by decide +kernel
theorem dX11_grassOf_45 : decode cX11_grassOf 45 = .ok (.iaload, 1) := by decide +kernel
theorem dX11_grassOf_46 : decode cX11_grassOf 46 = .ok (.iload_n 3, 1) := by decide +kernel
theorem dX11_grassOf_47 : decode cX11_grassOf 47 = .ok (.if_icmp .gt 30, 3) := by decide +kernel
theorem dX11_grassOf_50 : decode cX11_grassOf 50 = .ok (.iload 4, 2) := by decide +kernel
theorem dX11_grassOf_52 : decode cX11_grassOf 52 = .ok (.iconst (-1), 1) := by decide +kernel
theorem dX11_grassOf_53 : decode cX11_grassOf 53 = .ok (.if_icmp .eq 20, 3) := by decide +kernel
theorem dX11_grassOf_56 : decode cX11_grassOf 56 = .ok (.aload_n 0, 1) := by decide +kernel
theorem dX11_grassOf_57 : decode cX11_grassOf 57 = .ok (.getfield 57, 3) := by decide +kernel
theorem dX11_grassOf_60 : decode cX11_grassOf 60 = .ok (.iload 5, 2) := by decide +kernel
theorem dX11_grassOf_62 : decode cX11_grassOf 62 = .ok (.iaload, 1) := by decide +kernel
theorem dX11_grassOf_63 : decode cX11_grassOf 63 = .ok (.aload_n 0, 1) := by decide +kernel
theorem dX11_grassOf_64 : decode cX11_grassOf 64 = .ok (.getfield 57, 3) := by decide +kernel
theorem dX11_grassOf_67 : decode cX11_grassOf 67 = .ok (.iload 4, 2) := by decide +kernel
theorem dX11_grassOf_69 : decode cX11_grassOf 69 = .ok (.iaload, 1) := by decide +kernel
theorem dX11_grassOf_70 : decode cX11_grassOf 70 = .ok (.if_icmp .lt 7, 3) := by decide +kernel
theorem dX11_grassOf_73 : decode cX11_grassOf 73 = .ok (.iload 5, 2) := by decide +kernel
theorem dX11_grassOf_75 : decode cX11_grassOf 75 = .ok (.istore 4, 2) := by decide +kernel
theorem dX11_grassOf_77 : decode cX11_grassOf 77 = .ok (.iinc 5 1, 3) := by decide +kernel
theorem dX11_grassOf_80 : decode cX11_grassOf 80 = .ok (.goto (-74), 3) := by decide +kernel
theorem dX11_grassOf_83 : decode cX11_grassOf 83 = .ok (.iload 4, 2) := by decide +kernel
theorem dX11_grassOf_85 : decode cX11_grassOf 85 = .ok (.iconst (-1), 1) := by decide +kernel
theorem dX11_grassOf_86 : decode cX11_grassOf 86 = .ok (.if_icmp .ne 7, 3) := by decide +kernel
theorem dX11_grassOf_89 : decode cX11_grassOf 89 = .ok (.iconst 1, 1) := by decide +kernel
theorem dX11_grassOf_90 : decode cX11_grassOf 90 = .ok (.goto 10, 3) := by decide +kernel
theorem dX11_grassOf_93 : decode cX11_grassOf 93 = .ok (.aload_n 0, 1) := by decide +kernel
theorem dX11_grassOf_94 : decode cX11_grassOf 94 = .ok (.getfield 60, 3) := by decide +kernel
theorem dX11_grassOf_97 : decode cX11_grassOf 97 = .ok (.iload 4, 2) := by decide +kernel
theorem dX11_grassOf_99 : decode cX11_grassOf 99 = .ok (.iaload, 1) := by decide +kernel
theorem dX11_grassOf_100 : decode cX11_grassOf 100 = .ok (.ireturn, 1) := by decide +kernel
theorem dX11_share_0 : decode cX11_share 0 = .ok (.iconst 0, 1) := by decide +kernel
theorem dX11_share_1 : decode cX11_share 1 = .ok (.istore_n 2, 1) := by decide +kernel
theorem dX11_share_2 : decode cX11_share 2 = .ok (.iload_n 2, 1) := by decide +kernel
theorem dX11_share_3 : decode cX11_share 3 = .ok (.iload_n 1, 1) := by decide +kernel
theorem dX11_share_4 : decode cX11_share 4 = .ok (.if_icmp .ge 74, 3) := by decide +kernel
theorem dX11_share_7 : decode cX11_share 7 = .ok (.iconst 0, 1) := by decide +kernel
theorem dX11_share_8 : decode cX11_share 8 = .ok (.istore_n 3, 1) := by decide +kernel
theorem dX11_share_9 : decode cX11_share 9 = .ok (.iconst 1, 1) := by decide +kernel
theorem dX11_share_10 : decode cX11_share 10 = .ok (.istore 4, 2) := by decide +kernel
theorem dX11_share_12 : decode cX11_share 12 = .ok (.iload 4, 2) := by decide +kernel
theorem dX11_share_14 : decode cX11_share 14 = .ok (.aload_n 0, 1) := by decide +kernel
theorem dX11_share_15 : decode cX11_share 15 = .ok (.getfield 29, 3) := by decide +kernel
theorem dX11_share_18 : decode cX11_share 18 = .ok (.iconst 0, 1) := by decide +kernel
theorem dX11_share_19 : decode cX11_share 19 = .ok (.iaload, 1) := by decide +kernel
theorem dX11_share_20 : decode cX11_share 20 = .ok (.if_icmp .ge 33, 3) := by decide +kernel
theorem dX11_share_23 : decode cX11_share 23 = .ok (.aload_n 0, 1) := by decide +kernel
theorem dX11_share_24 : decode cX11_share 24 = .ok (.getfield 174, 3) := by decide +kernel
theorem dX11_share_27 : decode cX11_share 27 = .ok (.iload 4, 2) := by decide +kernel
theorem dX11_share_29 : decode cX11_share 29 = .ok (.laload, 1) := by decide +kernel
theorem dX11_share_30 : decode cX11_share 30 = .ok (.aload_n 0, 1) := by decide +kernel
theorem dX11_share_31 : decode cX11_share 31 = .ok (.getfield 174, 3) := by decide +kernel
theorem dX11_share_34 : decode cX11_share 34 = .ok (.iload_n 3, 1) := by decide +kernel
theorem dX11_share_35 : decode cX11_share 35 = .ok (.laload, 1) := by decide +kernel
theorem dX11_share_36 : decode cX11_share 36 = .ok (.lcmp, 1) := by decide +kernel
theorem dX11_share_37 : decode cX11_share 37 = .ok (.ifCond .le 8, 3) := by decide +kernel
theorem dX11_share_40 : decode cX11_share 40 = .ok (.iload 4, 2) := by decide +kernel
theorem dX11_share_42 : decode cX11_share 42 = .ok (.goto 4, 3) := by decide +kernel
theorem dX11_share_45 : decode cX11_share 45 = .ok (.iload_n 3, 1) := by decide +kernel
theorem dX11_share_46 : decode cX11_share 46 = .ok (.istore_n 3, 1) := by decide +kernel
theorem dX11_share_47 : decode cX11_share 47 = .ok (.iinc 4 1, 3) := by decide +kernel
theorem dX11_share_50 : decode cX11_share 50 = .ok (.goto (-38), 3) := by decide +kernel
theorem dX11_share_53 : decode cX11_share 53 = .ok (.aload_n 0, 1) := by decide +kernel
theorem dX11_share_54 : decode cX11_share 54 = .ok (.getfield 168, 3) := by decide +kernel
theorem dX11_share_57 : decode cX11_share 57 = .ok (.iload_n 3, 1) := by decide +kernel
theorem dX11_share_58 : decode cX11_share 58 = .ok (.dup2, 1) := by decide +kernel
theorem dX11_share_59 : decode cX11_share 59 = .ok (.iaload, 1) := by decide +kernel
theorem dX11_share_60 : decode cX11_share 60 = .ok (.iconst 1, 1) := by decide +kernel
theorem dX11_share_61 : decode cX11_share 61 = .ok (.iadd, 1) := by decide +kernel
