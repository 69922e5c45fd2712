set_option maxRecDepth 100000 in
theorem ok_J0_charAt_5068e : xMokV mJ0_charAt_5068e 1 := ⟨⟨gdT 16 (by decide +kernel) rfl, gdT 818 rfl rfl, by decide +kernel⟩, gdT 816 (by decide +kernel) rfl, gdT 817 (by decide +kernel) rfl⟩
set_option maxRecDepth 100000 in
theorem ok_J0_checkIndex_df160 : xMokS mJ0_checkIndex_df160 2 := ⟨⟨gdT 16 (by decide +kernel) rfl, gdT 828 rfl rfl, by decide +kernel⟩, gdT 827 (by decide +kernel) rfl⟩
set_option maxRecDepth 100000 in
theorem ok_J0_coder_7d493 : xMokV mJ0_coder_7d493 0 := ⟨⟨gdT 16 (by decide +kernel) rfl, gdT 812 rfl rfl, by decide +kernel⟩, gdT 810 (by decide +kernel) rfl, gdT 811 (by decide +kernel) rfl⟩
set_option maxRecDepth 100000 in
theorem ok_J0_isLatin1_aae02 : xMokV mJ0_isLatin1_aae02 0 := ⟨⟨gdT 16 (by decide +kernel) rfl, gdT 822 rfl rfl, by decide +kernel⟩, gdT 820 (by decide +kernel) rfl, gdT 821 (by decide +kernel) rfl⟩
set_option maxRecDepth 100000 in
theorem ok_J0_length_8abf5 : xMokV mJ0_length_8abf5 0 := ⟨⟨gdT 16 (by decide +kernel) rfl, gdT 808 rfl rfl, by decide +kernel⟩, gdT 806 (by decide +kernel) rfl, gdT 807 (by decide +kernel) rfl⟩
set_option maxRecDepth 100000 in
theorem ok_J1_charAt_3b067 : xMokS mJ1_charAt_3b067 2 := ⟨⟨gdT 17 (by decide +kernel) rfl, gdT 825 rfl rfl, by decide +kernel⟩, gdT 824 (by decide +kernel) rfl⟩
set_option maxRecDepth 100000 in
theorem ok_J2_charAt_3b067 : xMokS mJ2_charAt_3b067 2 := ⟨⟨gdT 19 (by decide +kernel) rfl, gdT 836 rfl rfl, by decide +kernel⟩, gdT 835 (by decide +kernel) rfl⟩
set_option maxRecDepth 100000 in
theorem ok_J2_checkIndex_2214a : xMokS mJ2_checkIndex_2214a 2 := ⟨⟨gdT 19 (by decide +kernel) rfl, gdT 839 rfl rfl, by decide +kernel⟩, gdT 838 (by decide +kernel) rfl⟩
set_option maxRecDepth 100000 in
theorem ok_J2_getChar_3b067 : xMokS mJ2_getChar_3b067 2 := ⟨⟨gdT 19 (by decide +kernel) rfl, gdT 846 rfl rfl, by decide +kernel⟩, gdT 845 (by decide +kernel) rfl⟩
set_option maxRecDepth 100000 in
theorem ok_J2_length_9d52b : xMokS mJ2_length_9d52b 1 := ⟨⟨gdT 19 (by decide +kernel) rfl, gdT 842 rfl rfl, by decide +kernel⟩, gdT 841 (by decide +kernel) rfl⟩
set_option maxRecDepth 100000 in
theorem ok_J3_checkIndex_8e157 : xMokS mJ3_checkIndex_8e157 3 := ⟨⟨gdT 18 (by decide +kernel) rfl, gdT 833 rfl rfl, by decide +kernel⟩, gdT 832 (by decide +kernel) rfl⟩
set_option maxRecDepth 100000 in
theorem ok_J7_fill_53178 : xMokS mJ7_fill_53178 2 := ⟨⟨gdT 9 (by decide +kernel) rfl, gdT 304 rfl rfl, by decide +kernel⟩, gdT 303 (by decide +kernel) rfl⟩
set_option maxRecDepth 100000 in
theorem ok_J9_abs_0f7a4 : xMokS mJ9_abs_0f7a4 1 := ⟨⟨gdT 14 (by decide +kernel) rfl, gdT 1058 rfl rfl, by decide +kernel⟩, gdT 1057 (by decide +kernel) rfl⟩
set_option maxRecDepth 100000 in
theorem ok_J9_max_7cf53 : xMokS mJ9_max_7cf53 2 := ⟨⟨gdT 14 (by decide +kernel) rfl, gdT 560 rfl rfl, by decide +kernel⟩, gdT 559 (by decide +kernel) rfl⟩
set_option maxRecDepth 100000 in
theorem ok_J9_min_7cf53 : xMokS mJ9_min_7cf53 2 := ⟨⟨gdT 14 (by decide +kernel) rfl, gdT 776 rfl rfl, by decide +kernel⟩, gdT 775 (by decide +kernel) rfl⟩
set_option maxRecDepth 100000 in
theorem ok_X0_choose : xMokV mX0_choose 3 := ⟨⟨gdT 12 (by decide +kernel) rfl, gdT 1014 rfl rfl, by decide +kernel⟩, gdT 1012 (by decide +kernel) rfl, gdT 1013 (by decide +kernel) rfl⟩
set_option maxRecDepth 100000 in
theorem ok_X0_clear : xMokV mX0_clear 0 := ⟨⟨gdT 12 (by decide +kernel) rfl, gdT 1001 rfl rfl, by decide +kernel⟩, gdT 999 (by decide +kernel) rfl, gdT 1000 (by decide +kernel) rfl⟩
set_option maxRecDepth 100000 in
theorem ok_X0_init : xMokI mX0_init 0 := ⟨⟨gdT 12 (by decide +kernel) rfl, gdT 401 rfl rfl, by decide +kernel⟩, rfl, gdT 400 (by decide +kernel) rfl, rfl⟩
set_option maxRecDepth 100000 in
theorem ok_X0_isBetter : xMokV mX0_isBetter 3 := ⟨⟨gdT 12 (by decide +kernel) rfl, gdT 1018 rfl rfl, by decide +kernel⟩, gdT 1017 (by decide +kernel) rfl, gdP 41 (by decide +kernel) rfl⟩
set_option maxRecDepth 100000 in
theorem ok_X0_offer : xMokV mX0_offer 2 := ⟨⟨gdT 12 (by decide +kernel) rfl, gdT 1010 rfl rfl, by decide +kernel⟩, gdT 1008 (by decide +kernel) rfl, gdT 1009 (by decide +kernel) rfl⟩
set_option maxRecDepth 100000 in
theorem ok_X10_act : xMokV mX10_act 2 := ⟨⟨gdT 1 (by decide +kernel) rfl, gdT 725 rfl rfl, by decide +kernel⟩, gdT 723 (by decide +kernel) rfl, gdT 724 (by decide +kernel) rfl⟩
set_option maxRecDepth 100000 in
theorem ok_X10_again : xMokV mX10_again 1 := ⟨⟨gdT 1 (by decide +kernel) rfl, gdT 1123 rfl rfl, by decide +kernel⟩, gdT 1121 (by decide +kernel) rfl, gdT 1122 (by decide +kernel) rfl⟩
set_option maxRecDepth 100000 in
theorem ok_X10_back : xMokV mX10_back 1 := ⟨⟨gdT 1 (by decide +kernel) rfl, gdT 717 rfl rfl, by decide +kernel⟩, gdT 715 (by decide +kernel) rfl, gdT 716 (by decide +kernel) rfl⟩
set_option maxRecDepth 100000 in
theorem ok_X10_book : xMokV mX10_book 5 := ⟨⟨gdT 1 (by decide +kernel) rfl, gdT 626 rfl rfl, by decide +kernel⟩, gdT 624 (by decide +kernel) rfl, gdT 625 (by decide +kernel) rfl⟩
set_option maxRecDepth 100000 in
theorem ok_X10_camp : xMokV mX10_camp 2 := ⟨⟨gdT 1 (by decide +kernel) rfl, gdT 489 rfl rfl, by decide +kernel⟩, gdT 487 (by decide +kernel) rfl, gdT 488 (by decide +kernel) rfl⟩
set_option maxRecDepth 100000 in
theorem ok_X10_cell : xMokV mX10_cell 1 := ⟨⟨gdT 1 (by decide +kernel) rfl, gdT 450 rfl rfl, by decide +kernel⟩, gdT 448 (by decide +kernel) rfl, gdT 449 (by decide +kernel) rfl⟩
set_option maxRecDepth 100000 in
theorem ok_X10_count : xMokV mX10_count 1 := ⟨⟨gdT 1 (by decide +kernel) rfl, gdT 1081 rfl rfl, by decide +kernel⟩, gdT 1079 (by decide +kernel) rfl, gdT 1080 (by decide +kernel) rfl⟩
set_option maxRecDepth 100000 in
theorem ok_X10_countUpTo : xMokS mX10_countUpTo 3 := ⟨⟨gdT 1 (by decide +kernel) rfl, gdT 1089 rfl rfl, by decide +kernel⟩, gdT 1088 (by decide +kernel) rfl⟩
set_option maxRecDepth 100000 in
theorem ok_X10_dry : xMokV mX10_dry 2 := ⟨⟨gdT 1 (by decide +kernel) rfl, gdT 508 rfl rfl, by decide +kernel⟩, gdT 506 (by decide +kernel) rfl, gdT 507 (by decide +kernel) rfl⟩
set_option maxRecDepth 100000 in
theorem ok_X10_due : xMokV mX10_due 2 := ⟨⟨gdT 1 (by decide +kernel) rfl, gdT 741 rfl rfl, by decide +kernel⟩, gdT 739 (by decide +kernel) rfl, gdT 740 (by decide +kernel) rfl⟩
set_option maxRecDepth 100000 in
theorem ok_X10_end : xMokV mX10_end 1 := ⟨⟨gdT 1 (by decide +kernel) rfl, gdT 762 rfl rfl, by decide +kernel⟩, gdT 760 (by decide +kernel) rfl, gdT 761 (by decide +kernel) rfl⟩
set_option maxRecDepth 100000 in
theorem ok_X10_fault : xMokV mX10_fault 1 := ⟨⟨gdT 1 (by decide +kernel) rfl, gdT 922 rfl rfl, by decide +kernel⟩, gdT 920 (by decide +kernel) rfl, gdT 921 (by decide +kernel) rfl⟩
set_option maxRecDepth 100000 in
theorem ok_X10_feed : xMokV mX10_feed 5 := ⟨⟨gdT 1 (by decide +kernel) rfl, gdT 754 rfl rfl, by decide +kernel⟩, gdT 752 (by decide +kernel) rfl, gdT 753 (by decide +kernel) rfl⟩
set_option maxRecDepth 100000 in
theorem ok_X10_forgetParts : xMokV mX10_forgetParts 0 := ⟨⟨gdT 1 (by decide +kernel) rfl, gdT 462 rfl rfl, by decide +kernel⟩, gdT 461 (by decide +kernel) rfl, gdP 1 (by decide +kernel) rfl⟩
set_option maxRecDepth 100000 in
theorem ok_X10_forgetWays : xMokV mX10_forgetWays 0 := ⟨⟨gdT 1 (by decide +kernel) rfl, gdT 458 rfl rfl, by decide +kernel⟩, gdT 457 (by decide +kernel) rfl, gdP 0 (by decide +kernel) rfl⟩
set_option maxRecDepth 100000 in
theorem ok_X10_gatherBook : xMokV mX10_gatherBook 4 := ⟨⟨gdT 1 (by decide +kernel) rfl, gdT 684 rfl rfl, by decide +kernel⟩, gdT 683 (by decide +kernel) rfl, gdP 16 (by decide +kernel) rfl⟩
set_option maxRecDepth 100000 in
theorem ok_X10_gatherCamp : xMokV mX10_gatherCamp 3 := ⟨⟨gdT 1 (by decide +kernel) rfl, gdT 654 rfl rfl, by decide +kernel⟩, gdT 653 (by decide +kernel) rfl, gdP 14 (by decide +kernel) rfl⟩
set_option maxRecDepth 100000 in
theorem ok_X10_giver : xMokV mX10_giver 1 := ⟨⟨gdT 1 (by decide +kernel) rfl, gdT 1062 rfl rfl, by decide +kernel⟩, gdT 1060 (by decide +kernel) rfl, gdT 1061 (by decide +kernel) rfl⟩
set_option maxRecDepth 100000 in
theorem ok_X10_grass : xMokV mX10_grass 3 := ⟨⟨gdT 1 (by decide +kernel) rfl, gdT 497 rfl rfl, by decide +kernel⟩, gdT 495 (by decide +kernel) rfl, gdT 496 (by decide +kernel) rfl⟩
set_option maxRecDepth 100000 in
theorem ok_X10_had : xMokV mX10_had 2 := ⟨⟨gdT 1 (by decide +kernel) rfl, gdT 733 rfl rfl, by decide +kernel⟩, gdT 731 (by decide +kernel) rfl, gdT 732 (by decide +kernel) rfl⟩
set_option maxRecDepth 100000 in
theorem ok_X10_hiddenBesides : xMokV mX10_hiddenBesides 0 := ⟨⟨gdT 1 (by decide +kernel) rfl, gdT 1073 rfl rfl, by decide +kernel⟩, gdT 1072 (by decide +kernel) rfl, gdP 44 (by decide +kernel) rfl⟩
set_option maxRecDepth 100000 in
theorem ok_X10_house : xMokV mX10_house 3 := ⟨⟨gdT 1 (by decide +kernel) rfl, gdT 1077 rfl rfl, by decide +kernel⟩, gdT 1075 (by decide +kernel) rfl, gdT 1076 (by decide +kernel) rfl⟩
set_option maxRecDepth 100000 in
theorem ok_X10_image : xMokV mX10_image 1 := ⟨⟨gdT 1 (by decide +kernel) rfl, gdT 1093 rfl rfl, by decide +kernel⟩, gdT 1091 (by decide +kernel) rfl, gdT 1092 (by decide +kernel) rfl⟩
set_option maxRecDepth 100000 in
theorem ok_X10_init : xMokI mX10_init 0 := ⟨⟨gdT 1 (by decide +kernel) rfl, gdT 24 rfl rfl, by decide +kernel⟩, rfl, gdT 23 (by decide +kernel) rfl, rfl⟩
set_option maxRecDepth 100000 in
theorem ok_X10_isFew : xMokS mX10_isFew 1 := ⟨⟨gdT 1 (by decide +kernel) rfl, gdT 1069 rfl rfl, by decide +kernel⟩, gdT 1068 (by decide +kernel) rfl⟩
set_option maxRecDepth 100000 in
theorem ok_X10_isIn : xMokS mX10_isIn 3 := ⟨⟨gdT 1 (by decide +kernel) rfl, gdT 481 rfl rfl, by decide +kernel⟩, gdT 480 (by decide +kernel) rfl⟩
set_option maxRecDepth 100000 in
theorem ok_X10_isPast : xMokV mX10_isPast 1 := ⟨⟨gdT 1 (by decide +kernel) rfl, gdT 520 rfl rfl, by decide +kernel⟩, gdT 519 (by decide +kernel) rfl, gdP 2 (by decide +kernel) rfl⟩
set_option maxRecDepth 100000 in
theorem ok_X10_isThere : xMokV mX10_isThere 2 := ⟨⟨gdT 1 (by decide +kernel) rfl, gdT 540 rfl rfl, by decide +kernel⟩, gdT 539 (by decide +kernel) rfl, gdP 3 (by decide +kernel) rfl⟩
set_option maxRecDepth 100000 in
theorem ok_X10_isWeek : xMokS mX10_isWeek 1 := ⟨⟨gdT 1 (by decide +kernel) rfl, gdT 500 rfl rfl, by decide +kernel⟩, gdT 499 (by decide +kernel) rfl⟩
set_option maxRecDepth 100000 in
theorem ok_X10_learns : xMokV mX10_learns 2 := ⟨⟨gdT 1 (by decide +kernel) rfl, gdT 1042 rfl rfl, by decide +kernel⟩, gdT 1040 (by decide +kernel) rfl, gdT 1041 (by decide +kernel) rfl⟩
set_option maxRecDepth 100000 in
theorem ok_X10_lend : xMokV mX10_lend 2 := ⟨⟨gdT 1 (by decide +kernel) rfl, gdT 634 rfl rfl, by decide +kernel⟩, gdT 632 (by decide +kernel) rfl, gdT 633 (by decide +kernel) rfl⟩
set_option maxRecDepth 100000 in
theorem ok_X10_likeliest : xMokV mX10_likeliest 2 := ⟨⟨gdT 1 (by decide +kernel) rfl, gdT 609 rfl rfl, by decide +kernel⟩, gdT 607 (by decide +kernel) rfl, gdT 608 (by decide +kernel) rfl⟩
set_option maxRecDepth 100000 in
theorem ok_X10_limit : xMokV mX10_limit 0 := ⟨⟨gdT 1 (by decide +kernel) rfl, gdT 544 rfl rfl, by decide +kernel⟩, gdT 543 (by decide +kernel) rfl, gdP 4 (by decide +kernel) rfl⟩
set_option maxRecDepth 100000 in
theorem ok_X10_load : xMokV mX10_load 3 := ⟨⟨gdT 1 (by decide +kernel) rfl, gdT 993 rfl rfl, by decide +kernel⟩, gdT 991 (by decide +kernel) rfl, gdT 992 (by decide +kernel) rfl⟩
set_option maxRecDepth 100000 in
theorem ok_X10_news : xMokV mX10_news 4 := ⟨⟨gdT 1 (by decide +kernel) rfl, gdT 524 rfl rfl, by decide +kernel⟩, gdT 522 (by decide +kernel) rfl, gdT 523 (by decide +kernel) rfl⟩
set_option maxRecDepth 100000 in
theorem ok_X10_nextFor : xMokV mX10_nextFor 1 := ⟨⟨gdT 1 (by decide +kernel) rfl, gdT 1055 rfl rfl, by decide +kernel⟩, gdT 1054 (by decide +kernel) rfl, gdP 43 (by decide +kernel) rfl⟩
set_option maxRecDepth 100000 in
theorem ok_X10_offerBooks : xMokV mX10_offerBooks 1 := ⟨⟨gdT 1 (by decide +kernel) rfl, gdT 997 rfl rfl, by decide +kernel⟩, gdT 996 (by decide +kernel) rfl, gdP 40 (by decide +kernel) rfl⟩
set_option maxRecDepth 100000 in
theorem ok_X10_owes : xMokV mX10_owes 3 := ⟨⟨gdT 1 (by decide +kernel) rfl, gdT 746 rfl rfl, by decide +kernel⟩, gdT 744 (by decide +kernel) rfl, gdT 745 (by decide +kernel) rfl⟩
set_option maxRecDepth 100000 in
theorem ok_X10_parts : xMokV mX10_parts 3 := ⟨⟨gdT 1 (by decide +kernel) rfl, gdT 536 rfl rfl, by decide +kernel⟩, gdT 534 (by decide +kernel) rfl, gdT 535 (by decide +kernel) rfl⟩
set_option maxRecDepth 100000 in
theorem ok_X10_pass : xMokV mX10_pass 3 := ⟨⟨gdT 1 (by decide +kernel) rfl, gdT 713 rfl rfl, by decide +kernel⟩, gdT 711 (by decide +kernel) rfl, gdT 712 (by decide +kernel) rfl⟩
set_option maxRecDepth 100000 in
theorem ok_X10_quarrel : xMokV mX10_quarrel 2 := ⟨⟨gdT 1 (by decide +kernel) rfl, gdT 618 rfl rfl, by decide +kernel⟩, gdT 616 (by decide +kernel) rfl, gdT 617 (by decide +kernel) rfl⟩
set_option maxRecDepth 100000 in
theorem ok_X10_read : xMokV mX10_read 2 := ⟨⟨gdT 1 (by decide +kernel) rfl, gdT 1030 rfl rfl, by decide +kernel⟩, gdT 1028 (by decide +kernel) rfl, gdT 1029 (by decide +kernel) rfl⟩
set_option maxRecDepth 100000 in
theorem ok_X10_reader : xMokV mX10_reader 1 := ⟨⟨gdT 1 (by decide +kernel) rfl, gdT 1022 rfl rfl, by decide +kernel⟩, gdT 1020 (by decide +kernel) rfl, gdT 1021 (by decide +kernel) rfl⟩
set_option maxRecDepth 100000 in
theorem ok_X10_round : xMokV mX10_round 3 := ⟨⟨gdT 1 (by decide +kernel) rfl, gdT 930 rfl rfl, by decide +kernel⟩, gdT 928 (by decide +kernel) rfl, gdT 929 (by decide +kernel) rfl⟩
set_option maxRecDepth 100000 in
theorem ok_X10_rule : xMokV mX10_rule 4 := ⟨⟨gdT 1 (by decide +kernel) rfl, gdT 926 rfl rfl, by decide +kernel⟩, gdT 924 (by decide +kernel) rfl, gdT 925 (by decide +kernel) rfl⟩
set_option maxRecDepth 100000 in
theorem ok_X10_rules : xMokV mX10_rules 0 := ⟨⟨gdT 1 (by decide +kernel) rfl, gdT 766 rfl rfl, by decide +kernel⟩, gdT 764 (by decide +kernel) rfl, gdT 765 (by decide +kernel) rfl⟩
set_option maxRecDepth 100000 in
theorem ok_X10_stop : xMokV mX10_stop 3 := ⟨⟨gdT 1 (by decide +kernel) rfl, gdT 977 rfl rfl, by decide +kernel⟩, gdT 975 (by decide +kernel) rfl, gdT 976 (by decide +kernel) rfl⟩
set_option maxRecDepth 100000 in
theorem ok_X10_sumParts : xMokV mX10_sumParts 2 := ⟨⟨gdT 1 (by decide +kernel) rfl, gdT 938 rfl rfl, by decide +kernel⟩, gdT 937 (by decide +kernel) rfl, gdP 33 (by decide +kernel) rfl⟩
set_option maxRecDepth 100000 in
theorem ok_X10_tear : xMokV mX10_tear 3 := ⟨⟨gdT 1 (by decide +kernel) rfl, gdT 721 rfl rfl, by decide +kernel⟩, gdT 719 (by decide +kernel) rfl, gdT 720 (by decide +kernel) rfl⟩
set_option maxRecDepth 100000 in
theorem ok_X10_view : xMokV mX10_view 1 := ⟨⟨gdT 1 (by decide +kernel) rfl, gdT 516 rfl rfl, by decide +kernel⟩, gdT 514 (by decide +kernel) rfl, gdT 515 (by decide +kernel) rfl⟩
set_option maxRecDepth 100000 in
theorem ok_X10_walkRound : xMokV mX10_walkRound 2 := ⟨⟨gdT 1 (by decide +kernel) rfl, gdT 934 rfl rfl, by decide +kernel⟩, gdT 933 (by decide +kernel) rfl, gdP 32 (by decide +kernel) rfl⟩
set_option maxRecDepth 100000 in
theorem ok_X10_way : xMokV mX10_way 3 := ⟨⟨gdT 1 (by decide +kernel) rfl, gdT 474 rfl rfl, by decide +kernel⟩, gdT 472 (by decide +kernel) rfl, gdT 473 (by decide +kernel) rfl⟩
set_option maxRecDepth 100000 in
theorem ok_X10_week : xMokV mX10_week 1 := ⟨⟨gdT 1 (by decide +kernel) rfl, gdT 512 rfl rfl, by decide +kernel⟩, gdT 510 (by decide +kernel) rfl, gdT 511 (by decide +kernel) rfl⟩
set_option maxRecDepth 100000 in
theorem ok_X10_whereBy : xMokV mX10_whereBy 1 := ⟨⟨gdT 1 (by decide +kernel) rfl, gdT 548 rfl rfl, by decide +kernel⟩, gdT 547 (by decide +kernel) rfl, gdP 5 (by decide +kernel) rfl⟩
set_option maxRecDepth 100000 in
theorem ok_X10_who : xMokV mX10_who 2 := ⟨⟨gdT 1 (by decide +kernel) rfl, gdT 729 rfl rfl, by decide +kernel⟩, gdT 727 (by decide +kernel) rfl, gdT 728 (by decide +kernel) rfl⟩
set_option maxRecDepth 100000 in
theorem ok_X10_wish : xMokV mX10_wish 3 := ⟨⟨gdT 1 (by decide +kernel) rfl, gdT 989 rfl rfl, by decide +kernel⟩, gdT 987 (by decide +kernel) rfl, gdT 988 (by decide +kernel) rfl⟩
set_option maxRecDepth 100000 in
theorem ok_X11_act : xMokV mX11_act 2 := ⟨⟨gdT 13 (by decide +kernel) rfl, gdT 1557 rfl rfl, by decide +kernel⟩, gdT 1555 (by decide +kernel) rfl, gdT 1556 (by decide +kernel) rfl⟩
set_option maxRecDepth 100000 in
theorem ok_X11_again : xMokV mX11_again 1 := ⟨⟨gdT 13 (by decide +kernel) rfl, gdT 1758 rfl rfl, by decide +kernel⟩, gdT 1756 (by decide +kernel) rfl, gdT 1757 (by decide +kernel) rfl⟩
set_option maxRecDepth 100000 in
theorem ok_X11_back : xMokV mX11_back 1 := ⟨⟨gdT 13 (by decide +kernel) rfl, gdT 1549 rfl rfl, by decide +kernel⟩, gdT 1547 (by decide +kernel) rfl, gdT 1548 (by decide +kernel) rfl⟩
set_option maxRecDepth 100000 in
theorem ok_X11_begin : xMokV mX11_begin 2 := ⟨⟨gdT 13 (by decide +kernel) rfl, gdT 1450 rfl rfl, by decide +kernel⟩, gdT 1449 (by decide +kernel) rfl, gdP 50 (by decide +kernel) rfl⟩
set_option maxRecDepth 100000 in
theorem ok_X11_book : xMokV mX11_book 5 := ⟨⟨gdT 13 (by decide +kernel) rfl, gdT 1493 rfl rfl, by decide +kernel⟩, gdT 1491 (by decide +kernel) rfl, gdT 1492 (by decide +kernel) rfl⟩
set_option maxRecDepth 100000 in
theorem ok_X11_camp : xMokV mX11_camp 2 := ⟨⟨gdT 13 (by decide +kernel) rfl, gdT 1403 rfl rfl, by decide +kernel⟩, gdT 1401 (by decide +kernel) rfl, gdT 1402 (by decide +kernel) rfl⟩
set_option maxRecDepth 100000 in
theorem ok_X11_cell : xMokV mX11_cell 1 := ⟨⟨gdT 13 (by decide +kernel) rfl, gdT 1388 rfl rfl, by decide +kernel⟩, gdT 1386 (by decide +kernel) rfl, gdT 1387 (by decide +kernel) rfl⟩
set_option maxRecDepth 100000 in
theorem ok_X11_cheaper : xMokS mX11_cheaper 2 := ⟨⟨gdT 13 (by decide +kernel) rfl, gdT 1672 rfl rfl, by decide +kernel⟩, gdT 1671 (by decide +kernel) rfl⟩
set_option maxRecDepth 100000 in
theorem ok_X11_copy : xMokV mX11_copy 2 := ⟨⟨gdT 13 (by decide +kernel) rfl, gdT 1748 rfl rfl, by decide +kernel⟩, gdT 1747 (by decide +kernel) rfl, gdP 91 (by decide +kernel) rfl⟩
set_option maxRecDepth 100000 in
theorem ok_X11_count : xMokV mX11_count 1 := ⟨⟨gdT 13 (by decide +kernel) rfl, gdT 1740 rfl rfl, by decide +kernel⟩, gdT 1738 (by decide +kernel) rfl, gdT 1739 (by decide +kernel) rfl⟩
set_option maxRecDepth 100000 in
theorem ok_X11_daysOf : xMokV mX11_daysOf 1 := ⟨⟨gdT 13 (by decide +kernel) rfl, gdT 1676 rfl rfl, by decide +kernel⟩, gdT 1675 (by decide +kernel) rfl, gdP 83 (by decide +kernel) rfl⟩
set_option maxRecDepth 100000 in
theorem ok_X11_dry : xMokV mX11_dry 2 := ⟨⟨gdT 13 (by decide +kernel) rfl, gdT 1414 rfl rfl, by decide +kernel⟩, gdT 1412 (by decide +kernel) rfl, gdT 1413 (by decide +kernel) rfl⟩
set_option maxRecDepth 100000 in
theorem ok_X11_due : xMokV mX11_due 2 := ⟨⟨gdT 13 (by decide +kernel) rfl, gdT 1573 rfl rfl, by decide +kernel⟩, gdT 1571 (by decide +kernel) rfl, gdT 1572 (by decide +kernel) rfl⟩
set_option maxRecDepth 100000 in
theorem ok_X11_dueOf : xMokV mX11_dueOf 3 := ⟨⟨gdT 13 (by decide +kernel) rfl, gdT 1525 rfl rfl, by decide +kernel⟩, gdT 1524 (by decide +kernel) rfl, gdP 64 (by decide +kernel) rfl⟩
set_option maxRecDepth 100000 in
theorem ok_X11_end : xMokV mX11_end 1 := ⟨⟨gdT 13 (by decide +kernel) rfl, gdT 1589 rfl rfl, by decide +kernel⟩, gdT 1587 (by decide +kernel) rfl, gdT 1588 (by decide +kernel) rfl⟩
set_option maxRecDepth 100000 in
theorem ok_X11_everHad : xMokV mX11_everHad 2 := ⟨⟨gdT 13 (by decide +kernel) rfl, gdT 1696 rfl rfl, by decide +kernel⟩, gdT 1695 (by decide +kernel) rfl, gdP 85 (by decide +kernel) rfl⟩
set_option maxRecDepth 100000 in
theorem ok_X11_fault : xMokV mX11_fault 1 := ⟨⟨gdT 13 (by decide +kernel) rfl, gdT 1649 rfl rfl, by decide +kernel⟩, gdT 1647 (by decide +kernel) rfl, gdT 1648 (by decide +kernel) rfl⟩
set_option maxRecDepth 100000 in
theorem ok_X11_feed : xMokV mX11_feed 5 := ⟨⟨gdT 13 (by decide +kernel) rfl, gdT 1581 rfl rfl, by decide +kernel⟩, gdT 1579 (by decide +kernel) rfl, gdT 1580 (by decide +kernel) rfl⟩
set_option maxRecDepth 100000 in
theorem ok_X11_findFar : xMokV mX11_findFar 0 := ⟨⟨gdT 13 (by decide +kernel) rfl, gdT 1665 rfl rfl, by decide +kernel⟩, gdT 1664 (by decide +kernel) rfl, gdP 81 (by decide +kernel) rfl⟩
set_option maxRecDepth 100000 in
theorem ok_X11_findLeast : xMokV mX11_findLeast 0 := ⟨⟨gdT 13 (by decide +kernel) rfl, gdT 1669 rfl rfl, by decide +kernel⟩, gdT 1668 (by decide +kernel) rfl, gdP 82 (by decide +kernel) rfl⟩
set_option maxRecDepth 100000 in
theorem ok_X11_findLightest : xMokV mX11_findLightest 1 := ⟨⟨gdT 13 (by decide +kernel) rfl, gdT 1692 rfl rfl, by decide +kernel⟩, gdT 1691 (by decide +kernel) rfl, gdP 84 (by decide +kernel) rfl⟩
set_option maxRecDepth 100000 in
theorem ok_X11_findParts : xMokV mX11_findParts 3 := ⟨⟨gdT 13 (by decide +kernel) rfl, gdT 1446 rfl rfl, by decide +kernel⟩, gdT 1445 (by decide +kernel) rfl, gdP 49 (by decide +kernel) rfl⟩
set_option maxRecDepth 100000 in
theorem ok_X11_findRound : xMokV mX11_findRound 2 := ⟨⟨gdT 13 (by decide +kernel) rfl, gdT 1661 rfl rfl, by decide +kernel⟩, gdT 1660 (by decide +kernel) rfl, gdP 80 (by decide +kernel) rfl⟩
set_option maxRecDepth 100000 in
theorem ok_X11_four : xMokV mX11_four 1 := ⟨⟨gdT 13 (by decide +kernel) rfl, gdT 1585 rfl rfl, by decide +kernel⟩, gdT 1584 (by decide +kernel) rfl, gdP 70 (by decide +kernel) rfl⟩
set_option maxRecDepth 100000 in
theorem ok_X11_giver : xMokV mX11_giver 1 := ⟨⟨gdT 13 (by decide +kernel) rfl, gdT 1728 rfl rfl, by decide +kernel⟩, gdT 1726 (by decide +kernel) rfl, gdT 1727 (by decide +kernel) rfl⟩
set_option maxRecDepth 100000 in
theorem ok_X11_gives : xMokV mX11_gives 2 := ⟨⟨gdT 13 (by decide +kernel) rfl, gdT 1569 rfl rfl, by decide +kernel⟩, gdT 1568 (by decide +kernel) rfl, gdP 69 (by decide +kernel) rfl⟩
set_option maxRecDepth 100000 in
theorem ok_X11_goOn : xMokV mX11_goOn 3 := ⟨⟨gdT 13 (by decide +kernel) rfl, gdT 1469 rfl rfl, by decide +kernel⟩, gdT 1468 (by decide +kernel) rfl, gdP 54 (by decide +kernel) rfl⟩
set_option maxRecDepth 100000 in
theorem ok_X11_grass : xMokV mX11_grass 3 := ⟨⟨gdT 13 (by decide +kernel) rfl, gdT 1407 rfl rfl, by decide +kernel⟩, gdT 1405 (by decide +kernel) rfl, gdT 1406 (by decide +kernel) rfl⟩
set_option maxRecDepth 100000 in
theorem ok_X11_grassOf : xMokV mX11_grassOf 3 := ⟨⟨gdT 13 (by decide +kernel) rfl, gdT 1477 rfl rfl, by decide +kernel⟩, gdT 1476 (by decide +kernel) rfl, gdP 56 (by decide +kernel) rfl⟩
set_option maxRecDepth 100000 in
theorem ok_X11_greatest : xMokV mX11_greatest 0 := ⟨⟨gdT 13 (by decide +kernel) rfl, gdT 1485 rfl rfl, by decide +kernel⟩, gdT 1484 (by decide +kernel) rfl, gdP 57 (by decide +kernel) rfl⟩
set_option maxRecDepth 100000 in
theorem ok_X11_had : xMokV mX11_had 2 := ⟨⟨gdT 13 (by decide +kernel) rfl, gdT 1565 rfl rfl, by decide +kernel⟩, gdT 1563 (by decide +kernel) rfl, gdT 1564 (by decide +kernel) rfl⟩
set_option maxRecDepth 100000 in
theorem ok_X11_hasRead : xMokV mX11_hasRead 2 := ⟨⟨gdT 13 (by decide +kernel) rfl, gdT 1712 rfl rfl, by decide +kernel⟩, gdT 1711 (by decide +kernel) rfl, gdP 87 (by decide +kernel) rfl⟩
set_option maxRecDepth 100000 in
theorem ok_X11_hear : xMokV mX11_hear 1 := ⟨⟨gdT 13 (by decide +kernel) rfl, gdT 1459 rfl rfl, by decide +kernel⟩, gdT 1458 (by decide +kernel) rfl, gdP 52 (by decide +kernel) rfl⟩
set_option maxRecDepth 100000 in
theorem ok_X11_hearAll : xMokV mX11_hearAll 3 := ⟨⟨gdT 13 (by decide +kernel) rfl, gdT 1455 rfl rfl, by decide +kernel⟩, gdT 1454 (by decide +kernel) rfl, gdP 51 (by decide +kernel) rfl⟩
set_option maxRecDepth 100000 in
theorem ok_X11_held : xMokV mX11_held 4 := ⟨⟨gdT 13 (by decide +kernel) rfl, gdT 1517 rfl rfl, by decide +kernel⟩, gdT 1516 (by decide +kernel) rfl, gdP 62 (by decide +kernel) rfl⟩
set_option maxRecDepth 100000 in
theorem ok_X11_house : xMokV mX11_house 3 := ⟨⟨gdT 13 (by decide +kernel) rfl, gdT 1736 rfl rfl, by decide +kernel⟩, gdT 1734 (by decide +kernel) rfl, gdT 1735 (by decide +kernel) rfl⟩
set_option maxRecDepth 100000 in
theorem ok_X11_image : xMokV mX11_image 1 := ⟨⟨gdT 13 (by decide +kernel) rfl, gdT 1744 rfl rfl, by decide +kernel⟩, gdT 1742 (by decide +kernel) rfl, gdT 1743 (by decide +kernel) rfl⟩
set_option maxRecDepth 100000 in
theorem ok_X11_in : xMokS mX11_in 3 := ⟨⟨gdT 13 (by decide +kernel) rfl, gdT 1399 rfl rfl, by decide +kernel⟩, gdT 1398 (by decide +kernel) rfl⟩
set_option maxRecDepth 100000 in
theorem ok_X11_init : xMokI mX11_init 0 := ⟨⟨gdT 13 (by decide +kernel) rfl, gdT 1128 rfl rfl, by decide +kernel⟩, rfl, gdT 1127 (by decide +kernel) rfl, rfl⟩
set_option maxRecDepth 100000 in
theorem ok_X11_isBook : xMokV mX11_isBook 1 := ⟨⟨gdT 13 (by decide +kernel) rfl, gdT 1501 rfl rfl, by decide +kernel⟩, gdT 1500 (by decide +kernel) rfl, gdP 58 (by decide +kernel) rfl⟩
set_option maxRecDepth 100000 in
theorem ok_X11_isCamp : xMokV mX11_isCamp 1 := ⟨⟨gdT 13 (by decide +kernel) rfl, gdT 1430 rfl rfl, by decide +kernel⟩, gdT 1429 (by decide +kernel) rfl, gdP 46 (by decide +kernel) rfl⟩
set_option maxRecDepth 100000 in
theorem ok_X11_isCell : xMokV mX11_isCell 1 := ⟨⟨gdT 13 (by decide +kernel) rfl, gdT 1396 rfl rfl, by decide +kernel⟩, gdT 1395 (by decide +kernel) rfl, gdP 45 (by decide +kernel) rfl⟩
set_option maxRecDepth 100000 in
theorem ok_X11_isLate : xMokV mX11_isLate 3 := ⟨⟨gdT 13 (by decide +kernel) rfl, gdT 1521 rfl rfl, by decide +kernel⟩, gdT 1520 (by decide +kernel) rfl, gdP 63 (by decide +kernel) rfl⟩
set_option maxRecDepth 100000 in
theorem ok_X11_isReader : xMokV mX11_isReader 1 := ⟨⟨gdT 13 (by decide +kernel) rfl, gdT 1708 rfl rfl, by decide +kernel⟩, gdT 1707 (by decide +kernel) rfl, gdP 86 (by decide +kernel) rfl⟩
set_option maxRecDepth 100000 in
theorem ok_X11_isThere : xMokV mX11_isThere 2 := ⟨⟨gdT 13 (by decide +kernel) rfl, gdT 1438 rfl rfl, by decide +kernel⟩, gdT 1437 (by decide +kernel) rfl, gdP 47 (by decide +kernel) rfl⟩
set_option maxRecDepth 100000 in
theorem ok_X11_isWeek : xMokS mX11_isWeek 1 := ⟨⟨gdT 13 (by decide +kernel) rfl, gdT 1410 rfl rfl, by decide +kernel⟩, gdT 1409 (by decide +kernel) rfl⟩
set_option maxRecDepth 100000 in
theorem ok_X11_isWord : xMokV mX11_isWord 1 := ⟨⟨gdT 13 (by decide +kernel) rfl, gdT 1614 rfl rfl, by decide +kernel⟩, gdT 1613 (by decide +kernel) rfl, gdP 75 (by decide +kernel) rfl⟩
set_option maxRecDepth 100000 in
theorem ok_X11_lastAct : xMokV mX11_lastAct 4 := ⟨⟨gdT 13 (by decide +kernel) rfl, gdT 1509 rfl rfl, by decide +kernel⟩, gdT 1508 (by decide +kernel) rfl, gdP 60 (by decide +kernel) rfl⟩
set_option maxRecDepth 100000 in
theorem ok_X11_later : xMokV mX11_later 1 := ⟨⟨gdT 13 (by decide +kernel) rfl, gdT 1609 rfl rfl, by decide +kernel⟩, gdT 1608 (by decide +kernel) rfl, gdP 74 (by decide +kernel) rfl⟩
set_option maxRecDepth 100000 in
theorem ok_X11_learns : xMokV mX11_learns 2 := ⟨⟨gdT 13 (by decide +kernel) rfl, gdT 1716 rfl rfl, by decide +kernel⟩, gdT 1714 (by decide +kernel) rfl, gdT 1715 (by decide +kernel) rfl⟩
set_option maxRecDepth 100000 in
theorem ok_X11_lend : xMokV mX11_lend 2 := ⟨⟨gdT 13 (by decide +kernel) rfl, gdT 1497 rfl rfl, by decide +kernel⟩, gdT 1495 (by decide +kernel) rfl, gdT 1496 (by decide +kernel) rfl⟩
set_option maxRecDepth 100000 in
theorem ok_X11_levelOf : xMokV mX11_levelOf 1 := ⟨⟨gdT 13 (by decide +kernel) rfl, gdT 1720 rfl rfl, by decide +kernel⟩, gdT 1719 (by decide +kernel) rfl, gdP 88 (by decide +kernel) rfl⟩
set_option maxRecDepth 100000 in
theorem ok_X11_likeliest : xMokV mX11_likeliest 2 := ⟨⟨gdT 13 (by decide +kernel) rfl, gdT 1481 rfl rfl, by decide +kernel⟩, gdT 1479 (by decide +kernel) rfl, gdT 1480 (by decide +kernel) rfl⟩
set_option maxRecDepth 100000 in
theorem ok_X11_lineOf : xMokV mX11_lineOf 1 := ⟨⟨gdT 13 (by decide +kernel) rfl, gdT 1533 rfl rfl, by decide +kernel⟩, gdT 1532 (by decide +kernel) rfl, gdP 66 (by decide +kernel) rfl⟩
set_option maxRecDepth 100000 in
theorem ok_X11_load : xMokV mX11_load 3 := ⟨⟨gdT 13 (by decide +kernel) rfl, gdT 1688 rfl rfl, by decide +kernel⟩, gdT 1686 (by decide +kernel) rfl, gdT 1687 (by decide +kernel) rfl⟩
set_option maxRecDepth 100000 in
theorem ok_X11_look : xMokV mX11_look 4 := ⟨⟨gdT 13 (by decide +kernel) rfl, gdT 1513 rfl rfl, by decide +kernel⟩, gdT 1512 (by decide +kernel) rfl, gdP 61 (by decide +kernel) rfl⟩
set_option maxRecDepth 100000 in
theorem ok_X11_move : xMokS mX11_move 4 := ⟨⟨gdT 13 (by decide +kernel) rfl, gdT 1751 rfl rfl, by decide +kernel⟩, gdT 1750 (by decide +kernel) rfl⟩
set_option maxRecDepth 100000 in
theorem ok_X11_moveFlags : xMokS mX11_moveFlags 4 := ⟨⟨gdT 13 (by decide +kernel) rfl, gdT 1754 rfl rfl, by decide +kernel⟩, gdT 1753 (by decide +kernel) rfl⟩
set_option maxRecDepth 100000 in
theorem ok_X11_need : xMokV mX11_need 1 := ⟨⟨gdT 13 (by decide +kernel) rfl, gdT 1642 rfl rfl, by decide +kernel⟩, gdT 1641 (by decide +kernel) rfl, gdP 79 (by decide +kernel) rfl⟩
set_option maxRecDepth 100000 in
theorem ok_X11_news : xMokV mX11_news 4 := ⟨⟨gdT 13 (by decide +kernel) rfl, gdT 1426 rfl rfl, by decide +kernel⟩, gdT 1424 (by decide +kernel) rfl, gdT 1425 (by decide +kernel) rfl⟩
set_option maxRecDepth 100000 in
theorem ok_X11_nextFor : xMokV mX11_nextFor 1 := ⟨⟨gdT 13 (by decide +kernel) rfl, gdT 1724 rfl rfl, by decide +kernel⟩, gdT 1723 (by decide +kernel) rfl, gdP 89 (by decide +kernel) rfl⟩
set_option maxRecDepth 100000 in
theorem ok_X11_numberOf : xMokV mX11_numberOf 2 := ⟨⟨gdT 13 (by decide +kernel) rfl, gdT 1537 rfl rfl, by decide +kernel⟩, gdT 1536 (by decide +kernel) rfl, gdP 67 (by decide +kernel) rfl⟩
set_option maxRecDepth 100000 in
theorem ok_X11_oneLine : xMokV mX11_oneLine 0 := ⟨⟨gdT 13 (by decide +kernel) rfl, gdT 1605 rfl rfl, by decide +kernel⟩, gdT 1604 (by decide +kernel) rfl, gdP 73 (by decide +kernel) rfl⟩
set_option maxRecDepth 100000 in
theorem ok_X11_oneTest : xMokV mX11_oneTest 2 := ⟨⟨gdT 13 (by decide +kernel) rfl, gdT 1618 rfl rfl, by decide +kernel⟩, gdT 1617 (by decide +kernel) rfl, gdP 76 (by decide +kernel) rfl⟩
set_option maxRecDepth 100000 in
theorem ok_X11_owes : xMokV mX11_owes 3 := ⟨⟨gdT 13 (by decide +kernel) rfl, gdT 1577 rfl rfl, by decide +kernel⟩, gdT 1575 (by decide +kernel) rfl, gdT 1576 (by decide +kernel) rfl⟩
set_option maxRecDepth 100000 in
theorem ok_X11_parts : xMokV mX11_parts 3 := ⟨⟨gdT 13 (by decide +kernel) rfl, gdT 1434 rfl rfl, by decide +kernel⟩, gdT 1432 (by decide +kernel) rfl, gdT 1433 (by decide +kernel) rfl⟩
set_option maxRecDepth 100000 in
theorem ok_X11_pass : xMokV mX11_pass 3 := ⟨⟨gdT 13 (by decide +kernel) rfl, gdT 1545 rfl rfl, by decide +kernel⟩, gdT 1543 (by decide +kernel) rfl, gdT 1544 (by decide +kernel) rfl⟩
set_option maxRecDepth 100000 in
theorem ok_X11_quarrel : xMokV mX11_quarrel 2 := ⟨⟨gdT 13 (by decide +kernel) rfl, gdT 1489 rfl rfl, by decide +kernel⟩, gdT 1487 (by decide +kernel) rfl, gdT 1488 (by decide +kernel) rfl⟩
set_option maxRecDepth 100000 in
theorem ok_X11_read : xMokV mX11_read 2 := ⟨⟨gdT 13 (by decide +kernel) rfl, gdT 1704 rfl rfl, by decide +kernel⟩, gdT 1702 (by decide +kernel) rfl, gdT 1703 (by decide +kernel) rfl⟩
set_option maxRecDepth 100000 in
theorem ok_X11_reader : xMokV mX11_reader 1 := ⟨⟨gdT 13 (by decide +kernel) rfl, gdT 1700 rfl rfl, by decide +kernel⟩, gdT 1698 (by decide +kernel) rfl, gdT 1699 (by decide +kernel) rfl⟩
set_option maxRecDepth 100000 in
theorem ok_X11_readersOf : xMokV mX11_readersOf 1 := ⟨⟨gdT 13 (by decide +kernel) rfl, gdT 1732 rfl rfl, by decide +kernel⟩, gdT 1731 (by decide +kernel) rfl, gdP 90 (by decide +kernel) rfl⟩
set_option maxRecDepth 100000 in
theorem ok_X11_round : xMokV mX11_round 3 := ⟨⟨gdT 13 (by decide +kernel) rfl, gdT 1657 rfl rfl, by decide +kernel⟩, gdT 1655 (by decide +kernel) rfl, gdT 1656 (by decide +kernel) rfl⟩
set_option maxRecDepth 100000 in
theorem ok_X11_rule : xMokV mX11_rule 4 := ⟨⟨gdT 13 (by decide +kernel) rfl, gdT 1653 rfl rfl, by decide +kernel⟩, gdT 1651 (by decide +kernel) rfl, gdT 1652 (by decide +kernel) rfl⟩
set_option maxRecDepth 100000 in
theorem ok_X11_rules : xMokV mX11_rules 0 := ⟨⟨gdT 13 (by decide +kernel) rfl, gdT 1593 rfl rfl, by decide +kernel⟩, gdT 1591 (by decide +kernel) rfl, gdT 1592 (by decide +kernel) rfl⟩
set_option maxRecDepth 100000 in
theorem ok_X11_see : xMokV mX11_see 0 := ⟨⟨gdT 13 (by decide +kernel) rfl, gdT 1601 rfl rfl, by decide +kernel⟩, gdT 1600 (by decide +kernel) rfl, gdP 72 (by decide +kernel) rfl⟩
set_option maxRecDepth 100000 in
theorem ok_X11_share : xMokV mX11_share 1 := ⟨⟨gdT 13 (by decide +kernel) rfl, gdT 1465 rfl rfl, by decide +kernel⟩, gdT 1464 (by decide +kernel) rfl, gdP 53 (by decide +kernel) rfl⟩
set_option maxRecDepth 100000 in
theorem ok_X11_stop : xMokV mX11_stop 3 := ⟨⟨gdT 13 (by decide +kernel) rfl, gdT 1680 rfl rfl, by decide +kernel⟩, gdT 1678 (by decide +kernel) rfl, gdT 1679 (by decide +kernel) rfl⟩
set_option maxRecDepth 100000 in
theorem ok_X11_tear : xMokV mX11_tear 3 := ⟨⟨gdT 13 (by decide +kernel) rfl, gdT 1553 rfl rfl, by decide +kernel⟩, gdT 1551 (by decide +kernel) rfl, gdT 1552 (by decide +kernel) rfl⟩
set_option maxRecDepth 100000 in
theorem ok_X11_tellAct : xMokV mX11_tellAct 6 := ⟨⟨gdT 13 (by decide +kernel) rfl, gdT 1541 rfl rfl, by decide +kernel⟩, gdT 1540 (by decide +kernel) rfl, gdP 68 (by decide +kernel) rfl⟩
set_option maxRecDepth 100000 in
theorem ok_X11_token : xMokV mX11_token 0 := ⟨⟨gdT 13 (by decide +kernel) rfl, gdT 1597 rfl rfl, by decide +kernel⟩, gdT 1596 (by decide +kernel) rfl, gdP 71 (by decide +kernel) rfl⟩
set_option maxRecDepth 100000 in
theorem ok_X11_torn : xMokV mX11_torn 5 := ⟨⟨gdT 13 (by decide +kernel) rfl, gdT 1529 rfl rfl, by decide +kernel⟩, gdT 1528 (by decide +kernel) rfl, gdP 65 (by decide +kernel) rfl⟩
set_option maxRecDepth 100000 in
theorem ok_X11_view : xMokV mX11_view 1 := ⟨⟨gdT 13 (by decide +kernel) rfl, gdT 1422 rfl rfl, by decide +kernel⟩, gdT 1420 (by decide +kernel) rfl, gdT 1421 (by decide +kernel) rfl⟩
set_option maxRecDepth 100000 in
theorem ok_X11_viewWeek : xMokV mX11_viewWeek 0 := ⟨⟨gdT 13 (by decide +kernel) rfl, gdT 1442 rfl rfl, by decide +kernel⟩, gdT 1441 (by decide +kernel) rfl, gdP 48 (by decide +kernel) rfl⟩
set_option maxRecDepth 100000 in
theorem ok_X11_wander : xMokV mX11_wander 2 := ⟨⟨gdT 13 (by decide +kernel) rfl, gdT 1473 rfl rfl, by decide +kernel⟩, gdT 1472 (by decide +kernel) rfl, gdP 55 (by decide +kernel) rfl⟩
set_option maxRecDepth 100000 in
theorem ok_X11_way : xMokV mX11_way 3 := ⟨⟨gdT 13 (by decide +kernel) rfl, gdT 1392 rfl rfl, by decide +kernel⟩, gdT 1390 (by decide +kernel) rfl, gdT 1391 (by decide +kernel) rfl⟩
set_option maxRecDepth 100000 in
theorem ok_X11_week : xMokV mX11_week 1 := ⟨⟨gdT 13 (by decide +kernel) rfl, gdT 1418 rfl rfl, by decide +kernel⟩, gdT 1416 (by decide +kernel) rfl, gdT 1417 (by decide +kernel) rfl⟩
set_option maxRecDepth 100000 in
theorem ok_X11_whatIs : xMokV mX11_whatIs 0 := ⟨⟨gdT 13 (by decide +kernel) rfl, gdT 1623 rfl rfl, by decide +kernel⟩, gdT 1622 (by decide +kernel) rfl, gdP 77 (by decide +kernel) rfl⟩
set_option maxRecDepth 100000 in
theorem ok_X11_who : xMokV mX11_who 2 := ⟨⟨gdT 13 (by decide +kernel) rfl, gdT 1561 rfl rfl, by decide +kernel⟩, gdT 1559 (by decide +kernel) rfl, gdT 1560 (by decide +kernel) rfl⟩
set_option maxRecDepth 100000 in
theorem ok_X11_whoHas : xMokV mX11_whoHas 3 := ⟨⟨gdT 13 (by decide +kernel) rfl, gdT 1505 rfl rfl, by decide +kernel⟩, gdT 1504 (by decide +kernel) rfl, gdP 59 (by decide +kernel) rfl⟩
set_option maxRecDepth 100000 in
theorem ok_X11_wish : xMokV mX11_wish 3 := ⟨⟨gdT 13 (by decide +kernel) rfl, gdT 1684 rfl rfl, by decide +kernel⟩, gdT 1682 (by decide +kernel) rfl, gdT 1683 (by decide +kernel) rfl⟩
set_option maxRecDepth 100000 in
theorem ok_X11_wrong : xMokV mX11_wrong 0 := ⟨⟨gdT 13 (by decide +kernel) rfl, gdT 1637 rfl rfl, by decide +kernel⟩, gdT 1636 (by decide +kernel) rfl, gdP 78 (by decide +kernel) rfl⟩
set_option maxRecDepth 100000 in
theorem ok_X1_addCamp : xMokV mX1_addCamp 3 := ⟨⟨gdT 4 (by decide +kernel) rfl, gdT 493 rfl rfl, by decide +kernel⟩, gdT 491 (by decide +kernel) rfl, gdT 492 (by decide +kernel) rfl⟩
set_option maxRecDepth 100000 in
theorem ok_X1_addNews : xMokV mX1_addNews 5 := ⟨⟨gdT 4 (by decide +kernel) rfl, gdT 532 rfl rfl, by decide +kernel⟩, gdT 530 (by decide +kernel) rfl, gdT 531 (by decide +kernel) rfl⟩
set_option maxRecDepth 100000 in
theorem ok_X1_copyFrom : xMokV mX1_copyFrom 1 := ⟨⟨gdT 4 (by decide +kernel) rfl, gdT 1106 rfl rfl, by decide +kernel⟩, gdT 1104 (by decide +kernel) rfl, gdT 1105 (by decide +kernel) rfl⟩
set_option maxRecDepth 100000 in
theorem ok_X1_hasCamp : xMokV mX1_hasCamp 1 := ⟨⟨gdT 4 (by decide +kernel) rfl, gdT 528 rfl rfl, by decide +kernel⟩, gdT 526 (by decide +kernel) rfl, gdT 527 (by decide +kernel) rfl⟩
set_option maxRecDepth 100000 in
theorem ok_X1_init : xMokI mX1_init 0 := ⟨⟨gdT 4 (by decide +kernel) rfl, gdT 79 rfl rfl, by decide +kernel⟩, rfl, gdT 78 (by decide +kernel) rfl, rfl⟩
set_option maxRecDepth 100000 in
theorem ok_X1_isNewsOf : xMokV mX1_isNewsOf 4 := ⟨⟨gdT 4 (by decide +kernel) rfl, gdT 593 rfl rfl, by decide +kernel⟩, gdT 591 (by decide +kernel) rfl, gdT 592 (by decide +kernel) rfl⟩
set_option maxRecDepth 100000 in
theorem ok_X2_addCell : xMokV mX2_addCell 1 := ⟨⟨gdT 3 (by decide +kernel) rfl, gdT 454 rfl rfl, by decide +kernel⟩, gdT 452 (by decide +kernel) rfl, gdT 453 (by decide +kernel) rfl⟩
set_option maxRecDepth 100000 in
theorem ok_X2_addGrass : xMokV mX2_addGrass 4 := ⟨⟨gdT 3 (by decide +kernel) rfl, gdT 504 rfl rfl, by decide +kernel⟩, gdT 502 (by decide +kernel) rfl, gdT 503 (by decide +kernel) rfl⟩
set_option maxRecDepth 100000 in
theorem ok_X2_copyFrom : xMokV mX2_copyFrom 1 := ⟨⟨gdT 3 (by decide +kernel) rfl, gdT 1101 rfl rfl, by decide +kernel⟩, gdT 1099 (by decide +kernel) rfl, gdT 1100 (by decide +kernel) rfl⟩
set_option maxRecDepth 100000 in
theorem ok_X2_grassOfWeek : xMokV mX2_grassOfWeek 4 := ⟨⟨gdT 3 (by decide +kernel) rfl, gdT 576 rfl rfl, by decide +kernel⟩, gdT 574 (by decide +kernel) rfl, gdT 575 (by decide +kernel) rfl⟩
set_option maxRecDepth 100000 in
theorem ok_X2_hasCell : xMokV mX2_hasCell 1 := ⟨⟨gdT 3 (by decide +kernel) rfl, gdT 478 rfl rfl, by decide +kernel⟩, gdT 476 (by decide +kernel) rfl, gdT 477 (by decide +kernel) rfl⟩
set_option maxRecDepth 100000 in
theorem ok_X2_hasWell : xMokV mX2_hasWell 1 := ⟨⟨gdT 3 (by decide +kernel) rfl, gdT 658 rfl rfl, by decide +kernel⟩, gdT 656 (by decide +kernel) rfl, gdT 657 (by decide +kernel) rfl⟩
set_option maxRecDepth 100000 in
theorem ok_X2_init : xMokI mX2_init 0 := ⟨⟨gdT 3 (by decide +kernel) rfl, gdT 38 rfl rfl, by decide +kernel⟩, rfl, gdT 37 (by decide +kernel) rfl, rfl⟩
set_option maxRecDepth 100000 in
theorem ok_X2_setWay : xMokV mX2_setWay 3 := ⟨⟨gdT 3 (by decide +kernel) rfl, gdT 485 rfl rfl, by decide +kernel⟩, gdT 483 (by decide +kernel) rfl, gdT 484 (by decide +kernel) rfl⟩
set_option maxRecDepth 100000 in
theorem ok_X3_breakHere : xMokV mX3_breakHere 0 := ⟨⟨gdT 11 (by decide +kernel) rfl, gdT 882 rfl rfl, by decide +kernel⟩, gdT 881 (by decide +kernel) rfl, gdP 28 (by decide +kernel) rfl⟩
set_option maxRecDepth 100000 in
theorem ok_X3_init : xMokI mX3_init 0 := ⟨⟨gdT 11 (by decide +kernel) rfl, gdT 362 rfl rfl, by decide +kernel⟩, rfl, gdT 361 (by decide +kernel) rfl, rfl⟩
set_option maxRecDepth 100000 in
theorem ok_X3_isSign : xMokV mX3_isSign 1 := ⟨⟨gdT 11 (by decide +kernel) rfl, gdT 886 rfl rfl, by decide +kernel⟩, gdT 885 (by decide +kernel) rfl, gdP 29 (by decide +kernel) rfl⟩
set_option maxRecDepth 100000 in
theorem ok_X3_isWord : xMokV mX3_isWord 1 := ⟨⟨gdT 11 (by decide +kernel) rfl, gdT 804 rfl rfl, by decide +kernel⟩, gdT 803 (by decide +kernel) rfl, gdP 24 (by decide +kernel) rfl⟩
set_option maxRecDepth 100000 in
theorem ok_X3_note : xMokV mX3_note 1 := ⟨⟨gdT 11 (by decide +kernel) rfl, gdT 799 rfl rfl, by decide +kernel⟩, gdT 798 (by decide +kernel) rfl, gdP 23 (by decide +kernel) rfl⟩
set_option maxRecDepth 100000 in
theorem ok_X3_parse : xMokV mX3_parse 2 := ⟨⟨gdT 11 (by decide +kernel) rfl, gdT 770 rfl rfl, by decide +kernel⟩, gdT 768 (by decide +kernel) rfl, gdT 769 (by decide +kernel) rfl⟩
set_option maxRecDepth 100000 in
theorem ok_X3_parseDeed : xMokV mX3_parseDeed 1 := ⟨⟨gdT 11 (by decide +kernel) rfl, gdT 904 rfl rfl, by decide +kernel⟩, gdT 903 (by decide +kernel) rfl, gdP 31 (by decide +kernel) rfl⟩
set_option maxRecDepth 100000 in
theorem ok_X3_parseLine : xMokV mX3_parseLine 1 := ⟨⟨gdT 11 (by decide +kernel) rfl, gdT 795 rfl rfl, by decide +kernel⟩, gdT 794 (by decide +kernel) rfl, gdP 22 (by decide +kernel) rfl⟩
set_option maxRecDepth 100000 in
theorem ok_X3_parseTest : xMokV mX3_parseTest 2 := ⟨⟨gdT 11 (by decide +kernel) rfl, gdT 860 rfl rfl, by decide +kernel⟩, gdT 859 (by decide +kernel) rfl, gdP 26 (by decide +kernel) rfl⟩
set_option maxRecDepth 100000 in
theorem ok_X3_parseTests : xMokV mX3_parseTests 1 := ⟨⟨gdT 11 (by decide +kernel) rfl, gdT 856 rfl rfl, by decide +kernel⟩, gdT 855 (by decide +kernel) rfl, gdP 25 (by decide +kernel) rfl⟩
set_option maxRecDepth 100000 in
theorem ok_X3_passRow : xMokV mX3_passRow 2 := ⟨⟨gdT 11 (by decide +kernel) rfl, gdT 787 rfl rfl, by decide +kernel⟩, gdT 786 (by decide +kernel) rfl, gdP 20 (by decide +kernel) rfl⟩
set_option maxRecDepth 100000 in
theorem ok_X3_readDigits : xMokV mX3_readDigits 0 := ⟨⟨gdT 11 (by decide +kernel) rfl, gdT 791 rfl rfl, by decide +kernel⟩, gdT 790 (by decide +kernel) rfl, gdP 21 (by decide +kernel) rfl⟩
set_option maxRecDepth 100000 in
theorem ok_X3_subjectOfWord : xMokV mX3_subjectOfWord 0 := ⟨⟨gdT 11 (by decide +kernel) rfl, gdT 865 rfl rfl, by decide +kernel⟩, gdT 864 (by decide +kernel) rfl, gdP 27 (by decide +kernel) rfl⟩
set_option maxRecDepth 100000 in
theorem ok_X3_takeSign : xMokV mX3_takeSign 1 := ⟨⟨gdT 11 (by decide +kernel) rfl, gdT 895 rfl rfl, by decide +kernel⟩, gdT 894 (by decide +kernel) rfl, gdP 30 (by decide +kernel) rfl⟩
set_option maxRecDepth 100000 in
theorem ok_X3_takeToken : xMokV mX3_takeToken 0 := ⟨⟨gdT 11 (by decide +kernel) rfl, gdT 783 rfl rfl, by decide +kernel⟩, gdT 782 (by decide +kernel) rfl, gdP 19 (by decide +kernel) rfl⟩
set_option maxRecDepth 100000 in
theorem ok_X3_wordOf : xMokS mX3_wordOf 1 := ⟨⟨gdT 11 (by decide +kernel) rfl, gdT 868 rfl rfl, by decide +kernel⟩, gdT 867 (by decide +kernel) rfl⟩
set_option maxRecDepth 100000 in
theorem ok_X4_addReader : xMokV mX4_addReader 1 := ⟨⟨gdT 7 (by decide +kernel) rfl, gdT 1026 rfl rfl, by decide +kernel⟩, gdT 1024 (by decide +kernel) rfl, gdT 1025 (by decide +kernel) rfl⟩
set_option maxRecDepth 100000 in
theorem ok_X4_booksFrom : xMokV mX4_booksFrom 3 := ⟨⟨gdT 7 (by decide +kernel) rfl, gdT 1050 rfl rfl, by decide +kernel⟩, gdT 1049 (by decide +kernel) rfl, gdP 42 (by decide +kernel) rfl⟩
set_option maxRecDepth 100000 in
theorem ok_X4_copyFrom : xMokV mX4_copyFrom 1 := ⟨⟨gdT 7 (by decide +kernel) rfl, gdT 1117 rfl rfl, by decide +kernel⟩, gdT 1115 (by decide +kernel) rfl, gdT 1116 (by decide +kernel) rfl⟩
set_option maxRecDepth 100000 in
theorem ok_X4_hasRead : xMokV mX4_hasRead 2 := ⟨⟨gdT 7 (by decide +kernel) rfl, gdT 1038 rfl rfl, by decide +kernel⟩, gdT 1036 (by decide +kernel) rfl, gdT 1037 (by decide +kernel) rfl⟩
set_option maxRecDepth 100000 in
theorem ok_X4_hasReader : xMokV mX4_hasReader 1 := ⟨⟨gdT 7 (by decide +kernel) rfl, gdT 1034 rfl rfl, by decide +kernel⟩, gdT 1032 (by decide +kernel) rfl, gdT 1033 (by decide +kernel) rfl⟩
set_option maxRecDepth 100000 in
theorem ok_X4_init : xMokI mX4_init 0 := ⟨⟨gdT 7 (by decide +kernel) rfl, gdT 230 rfl rfl, by decide +kernel⟩, rfl, gdT 229 (by decide +kernel) rfl, rfl⟩
set_option maxRecDepth 100000 in
theorem ok_X4_levelOf : xMokV mX4_levelOf 2 := ⟨⟨gdT 7 (by decide +kernel) rfl, gdT 1046 rfl rfl, by decide +kernel⟩, gdT 1044 (by decide +kernel) rfl, gdT 1045 (by decide +kernel) rfl⟩
set_option maxRecDepth 100000 in
theorem ok_X4_readersOf : xMokV mX4_readersOf 2 := ⟨⟨gdT 7 (by decide +kernel) rfl, gdT 1066 rfl rfl, by decide +kernel⟩, gdT 1064 (by decide +kernel) rfl, gdT 1065 (by decide +kernel) rfl⟩
set_option maxRecDepth 100000 in
theorem ok_X5_copyFrom : xMokV mX5_copyFrom 1 := ⟨⟨gdT 6 (by decide +kernel) rfl, gdT 916 rfl rfl, by decide +kernel⟩, gdT 914 (by decide +kernel) rfl, gdT 915 (by decide +kernel) rfl⟩
set_option maxRecDepth 100000 in
theorem ok_X5_firstThatHolds : xMokV mX5_firstThatHolds 2 := ⟨⟨gdT 6 (by decide +kernel) rfl, gdT 692 rfl rfl, by decide +kernel⟩, gdT 690 (by decide +kernel) rfl, gdT 691 (by decide +kernel) rfl⟩
set_option maxRecDepth 100000 in
theorem ok_X5_holds : xMokV mX5_holds 2 := ⟨⟨gdT 6 (by decide +kernel) rfl, gdT 696 rfl rfl, by decide +kernel⟩, gdT 695 (by decide +kernel) rfl, gdP 17 (by decide +kernel) rfl⟩
set_option maxRecDepth 100000 in
theorem ok_X5_init : xMokI mX5_init 0 := ⟨⟨gdT 6 (by decide +kernel) rfl, gdT 197 rfl rfl, by decide +kernel⟩, rfl, gdT 196 (by decide +kernel) rfl, rfl⟩
set_option maxRecDepth 100000 in
theorem ok_X5_keepLine : xMokV mX5_keepLine 3 := ⟨⟨gdT 6 (by decide +kernel) rfl, gdT 909 rfl rfl, by decide +kernel⟩, gdT 907 (by decide +kernel) rfl, gdT 908 (by decide +kernel) rfl⟩
set_option maxRecDepth 100000 in
theorem ok_X5_keepTest : xMokV mX5_keepTest 6 := ⟨⟨gdT 6 (by decide +kernel) rfl, gdT 890 rfl rfl, by decide +kernel⟩, gdT 888 (by decide +kernel) rfl, gdT 889 (by decide +kernel) rfl⟩
set_option maxRecDepth 100000 in
theorem ok_X5_keepTests : xMokV mX5_keepTests 2 := ⟨⟨gdT 6 (by decide +kernel) rfl, gdT 899 rfl rfl, by decide +kernel⟩, gdT 897 (by decide +kernel) rfl, gdT 898 (by decide +kernel) rfl⟩
set_option maxRecDepth 100000 in
theorem ok_X5_meetsTest : xMokV mX5_meetsTest 2 := ⟨⟨gdT 6 (by decide +kernel) rfl, gdT 700 rfl rfl, by decide +kernel⟩, gdT 699 (by decide +kernel) rfl, gdP 18 (by decide +kernel) rfl⟩
set_option maxRecDepth 100000 in
theorem ok_X5_numberBy : xMokV mX5_numberBy 3 := ⟨⟨gdT 6 (by decide +kernel) rfl, gdT 704 rfl rfl, by decide +kernel⟩, gdT 702 (by decide +kernel) rfl, gdT 703 (by decide +kernel) rfl⟩
set_option maxRecDepth 100000 in
theorem ok_X6_addAct : xMokV mX6_addAct 7 := ⟨⟨gdT 5 (by decide +kernel) rfl, gdT 709 rfl rfl, by decide +kernel⟩, gdT 707 (by decide +kernel) rfl, gdT 708 (by decide +kernel) rfl⟩
set_option maxRecDepth 100000 in
theorem ok_X6_addBook : xMokV mX6_addBook 5 := ⟨⟨gdT 5 (by decide +kernel) rfl, gdT 630 rfl rfl, by decide +kernel⟩, gdT 628 (by decide +kernel) rfl, gdT 629 (by decide +kernel) rfl⟩
set_option maxRecDepth 100000 in
theorem ok_X6_copyFrom : xMokV mX6_copyFrom 1 := ⟨⟨gdT 5 (by decide +kernel) rfl, gdT 1111 rfl rfl, by decide +kernel⟩, gdT 1109 (by decide +kernel) rfl, gdT 1110 (by decide +kernel) rfl⟩
set_option maxRecDepth 100000 in
theorem ok_X6_dueWeek : xMokV mX6_dueWeek 4 := ⟨⟨gdT 5 (by decide +kernel) rfl, gdT 672 rfl rfl, by decide +kernel⟩, gdT 670 (by decide +kernel) rfl, gdT 671 (by decide +kernel) rfl⟩
set_option maxRecDepth 100000 in
theorem ok_X6_everHad : xMokV mX6_everHad 3 := ⟨⟨gdT 5 (by decide +kernel) rfl, gdT 1006 rfl rfl, by decide +kernel⟩, gdT 1004 (by decide +kernel) rfl, gdT 1005 (by decide +kernel) rfl⟩
set_option maxRecDepth 100000 in
theorem ok_X6_hasBook : xMokV mX6_hasBook 1 := ⟨⟨gdT 5 (by decide +kernel) rfl, gdT 642 rfl rfl, by decide +kernel⟩, gdT 640 (by decide +kernel) rfl, gdT 641 (by decide +kernel) rfl⟩
set_option maxRecDepth 100000 in
theorem ok_X6_hasRoom : xMokV mX6_hasRoom 0 := ⟨⟨gdT 5 (by decide +kernel) rfl, gdT 638 rfl rfl, by decide +kernel⟩, gdT 636 (by decide +kernel) rfl, gdT 637 (by decide +kernel) rfl⟩
set_option maxRecDepth 100000 in
theorem ok_X6_heldBy : xMokV mX6_heldBy 3 := ⟨⟨gdT 5 (by decide +kernel) rfl, gdT 663 rfl rfl, by decide +kernel⟩, gdT 661 (by decide +kernel) rfl, gdT 662 (by decide +kernel) rfl⟩
set_option maxRecDepth 100000 in
theorem ok_X6_heldByAll : xMokV mX6_heldByAll 2 := ⟨⟨gdT 5 (by decide +kernel) rfl, gdT 1085 rfl rfl, by decide +kernel⟩, gdT 1083 (by decide +kernel) rfl, gdT 1084 (by decide +kernel) rfl⟩
set_option maxRecDepth 100000 in
theorem ok_X6_holder : xMokV mX6_holder 3 := ⟨⟨gdT 5 (by decide +kernel) rfl, gdT 646 rfl rfl, by decide +kernel⟩, gdT 644 (by decide +kernel) rfl, gdT 645 (by decide +kernel) rfl⟩
set_option maxRecDepth 100000 in
theorem ok_X6_holderInRow : xMokV mX6_holderInRow 3 := ⟨⟨gdT 5 (by decide +kernel) rfl, gdT 737 rfl rfl, by decide +kernel⟩, gdT 735 (by decide +kernel) rfl, gdT 736 (by decide +kernel) rfl⟩
set_option maxRecDepth 100000 in
theorem ok_X6_init : xMokI mX6_init 0 := ⟨⟨gdT 5 (by decide +kernel) rfl, gdT 131 rfl rfl, by decide +kernel⟩, rfl, gdT 130 (by decide +kernel) rfl, rfl⟩
set_option maxRecDepth 100000 in
theorem ok_X6_isTorn : xMokV mX6_isTorn 3 := ⟨⟨gdT 5 (by decide +kernel) rfl, gdT 680 rfl rfl, by decide +kernel⟩, gdT 679 (by decide +kernel) rfl, gdP 15 (by decide +kernel) rfl⟩
set_option maxRecDepth 100000 in
theorem ok_X6_lastAct : xMokV mX6_lastAct 4 := ⟨⟨gdT 5 (by decide +kernel) rfl, gdT 650 rfl rfl, by decide +kernel⟩, gdT 649 (by decide +kernel) rfl, gdP 13 (by decide +kernel) rfl⟩
set_option maxRecDepth 100000 in
theorem ok_X6_lateWith : xMokV mX6_lateWith 4 := ⟨⟨gdT 5 (by decide +kernel) rfl, gdT 668 rfl rfl, by decide +kernel⟩, gdT 666 (by decide +kernel) rfl, gdT 667 (by decide +kernel) rfl⟩
set_option maxRecDepth 100000 in
theorem ok_X6_owedBy : xMokV mX6_owedBy 3 := ⟨⟨gdT 5 (by decide +kernel) rfl, gdT 750 rfl rfl, by decide +kernel⟩, gdT 748 (by decide +kernel) rfl, gdT 749 (by decide +kernel) rfl⟩
set_option maxRecDepth 100000 in
theorem ok_X6_pagesLeft : xMokV mX6_pagesLeft 3 := ⟨⟨gdT 5 (by decide +kernel) rfl, gdT 688 rfl rfl, by decide +kernel⟩, gdT 686 (by decide +kernel) rfl, gdT 687 (by decide +kernel) rfl⟩
set_option maxRecDepth 100000 in
theorem ok_X6_tornBy : xMokV mX6_tornBy 3 := ⟨⟨gdT 5 (by decide +kernel) rfl, gdT 676 rfl rfl, by decide +kernel⟩, gdT 674 (by decide +kernel) rfl, gdT 675 (by decide +kernel) rfl⟩
set_option maxRecDepth 100000 in
theorem ok_X7_addBytes : xMokV mX7_addBytes 1 := ⟨⟨gdT 2 (by decide +kernel) rfl, gdT 758 rfl rfl, by decide +kernel⟩, gdT 756 (by decide +kernel) rfl, gdT 757 (by decide +kernel) rfl⟩
set_option maxRecDepth 100000 in
theorem ok_X7_copyFrom : xMokV mX7_copyFrom 1 := ⟨⟨gdT 2 (by decide +kernel) rfl, gdT 1097 rfl rfl, by decide +kernel⟩, gdT 1095 (by decide +kernel) rfl, gdT 1096 (by decide +kernel) rfl⟩
set_option maxRecDepth 100000 in
theorem ok_X7_copyRow : xMokS mX7_copyRow 2 := ⟨⟨gdT 2 (by decide +kernel) rfl, gdT 773 rfl rfl, by decide +kernel⟩, gdT 772 (by decide +kernel) rfl⟩
set_option maxRecDepth 100000 in
theorem ok_X7_init : xMokI mX7_init 0 := ⟨⟨gdT 2 (by decide +kernel) rfl, gdT 32 rfl rfl, by decide +kernel⟩, rfl, gdT 31 (by decide +kernel) rfl, rfl⟩
set_option maxRecDepth 100000 in
theorem ok_X8_addUp : xMokV mX8_addUp 2 := ⟨⟨gdT 10 (by decide +kernel) rfl, gdT 972 rfl rfl, by decide +kernel⟩, gdT 971 (by decide +kernel) rfl, gdP 38 (by decide +kernel) rfl⟩
set_option maxRecDepth 100000 in
theorem ok_X8_choose : xMokV mX8_choose 3 := ⟨⟨gdT 10 (by decide +kernel) rfl, gdT 944 rfl rfl, by decide +kernel⟩, gdT 942 (by decide +kernel) rfl, gdT 943 (by decide +kernel) rfl⟩
set_option maxRecDepth 100000 in
theorem ok_X8_fewestHome : xMokV mX8_fewestHome 2 := ⟨⟨gdT 10 (by decide +kernel) rfl, gdT 958 rfl rfl, by decide +kernel⟩, gdT 957 (by decide +kernel) rfl, gdP 36 (by decide +kernel) rfl⟩
set_option maxRecDepth 100000 in
theorem ok_X8_findDays : xMokV mX8_findDays 1 := ⟨⟨gdT 10 (by decide +kernel) rfl, gdT 948 rfl rfl, by decide +kernel⟩, gdT 947 (by decide +kernel) rfl, gdP 34 (by decide +kernel) rfl⟩
set_option maxRecDepth 100000 in
theorem ok_X8_findHome : xMokV mX8_findHome 1 := ⟨⟨gdT 10 (by decide +kernel) rfl, gdT 954 rfl rfl, by decide +kernel⟩, gdT 953 (by decide +kernel) rfl, gdP 35 (by decide +kernel) rfl⟩
set_option maxRecDepth 100000 in
theorem ok_X8_forget : xMokV mX8_forget 0 := ⟨⟨gdT 10 (by decide +kernel) rfl, gdT 470 rfl rfl, by decide +kernel⟩, gdT 468 (by decide +kernel) rfl, gdT 469 (by decide +kernel) rfl⟩
set_option maxRecDepth 100000 in
theorem ok_X8_hasStop : xMokS mX8_hasStop 2 := ⟨⟨gdT 10 (by decide +kernel) rfl, gdT 961 rfl rfl, by decide +kernel⟩, gdT 960 (by decide +kernel) rfl⟩
set_option maxRecDepth 100000 in
theorem ok_X8_init : xMokI mX8_init 0 := ⟨⟨gdT 10 (by decide +kernel) rfl, gdT 331 rfl rfl, by decide +kernel⟩, rfl, gdT 330 (by decide +kernel) rfl, rfl⟩
set_option maxRecDepth 100000 in
theorem ok_X8_leastStop : xMokV mX8_leastStop 2 := ⟨⟨gdT 10 (by decide +kernel) rfl, gdT 985 rfl rfl, by decide +kernel⟩, gdT 984 (by decide +kernel) rfl, gdP 39 (by decide +kernel) rfl⟩
set_option maxRecDepth 100000 in
theorem ok_X8_lengthBy : xMokV mX8_lengthBy 3 := ⟨⟨gdT 10 (by decide +kernel) rfl, gdT 965 rfl rfl, by decide +kernel⟩, gdT 964 (by decide +kernel) rfl, gdP 37 (by decide +kernel) rfl⟩
set_option maxRecDepth 100000 in
theorem ok_X8_stopAt : xMokV mX8_stopAt 1 := ⟨⟨gdT 10 (by decide +kernel) rfl, gdT 981 rfl rfl, by decide +kernel⟩, gdT 979 (by decide +kernel) rfl, gdT 980 (by decide +kernel) rfl⟩
set_option maxRecDepth 100000 in
theorem ok_X8_without : xMokS mX8_without 2 := ⟨⟨gdT 10 (by decide +kernel) rfl, gdT 968 rfl rfl, by decide +kernel⟩, gdT 967 (by decide +kernel) rfl⟩
set_option maxRecDepth 100000 in
theorem ok_X9_aim : xMokV mX9_aim 1 := ⟨⟨gdT 8 (by decide +kernel) rfl, gdT 552 rfl rfl, by decide +kernel⟩, gdT 550 (by decide +kernel) rfl, gdT 551 (by decide +kernel) rfl⟩
set_option maxRecDepth 100000 in
theorem ok_X9_clearRow : xMokV mX9_clearRow 1 := ⟨⟨gdT 8 (by decide +kernel) rfl, gdT 567 rfl rfl, by decide +kernel⟩, gdT 566 (by decide +kernel) rfl, gdP 6 (by decide +kernel) rfl⟩
set_option maxRecDepth 100000 in
theorem ok_X9_forget : xMokV mX9_forget 0 := ⟨⟨gdT 8 (by decide +kernel) rfl, gdT 466 rfl rfl, by decide +kernel⟩, gdT 464 (by decide +kernel) rfl, gdT 465 (by decide +kernel) rfl⟩
set_option maxRecDepth 100000 in
theorem ok_X9_gather : xMokV mX9_gather 2 := ⟨⟨gdT 8 (by decide +kernel) rfl, gdT 597 rfl rfl, by decide +kernel⟩, gdT 596 (by decide +kernel) rfl, gdP 11 (by decide +kernel) rfl⟩
set_option maxRecDepth 100000 in
theorem ok_X9_hear : xMokV mX9_hear 3 := ⟨⟨gdT 8 (by decide +kernel) rfl, gdT 589 rfl rfl, by decide +kernel⟩, gdT 588 (by decide +kernel) rfl, gdP 10 (by decide +kernel) rfl⟩
set_option maxRecDepth 100000 in
theorem ok_X9_init : xMokI mX9_init 1 := ⟨⟨gdT 8 (by decide +kernel) rfl, gdT 300 rfl rfl, by decide +kernel⟩, rfl, gdT 299 (by decide +kernel) rfl, rfl⟩
set_option maxRecDepth 100000 in
theorem ok_X9_leave : xMokV mX9_leave 2 := ⟨⟨gdT 8 (by decide +kernel) rfl, gdT 601 rfl rfl, by decide +kernel⟩, gdT 600 (by decide +kernel) rfl, gdP 12 (by decide +kernel) rfl⟩
set_option maxRecDepth 100000 in
theorem ok_X9_likeliestOf : xMokV mX9_likeliestOf 3 := ⟨⟨gdT 8 (by decide +kernel) rfl, gdT 613 rfl rfl, by decide +kernel⟩, gdT 611 (by decide +kernel) rfl, gdT 612 (by decide +kernel) rfl⟩
set_option maxRecDepth 100000 in
theorem ok_X9_move : xMokV mX9_move 3 := ⟨⟨gdT 8 (by decide +kernel) rfl, gdT 572 rfl rfl, by decide +kernel⟩, gdT 571 (by decide +kernel) rfl, gdP 7 (by decide +kernel) rfl⟩
set_option maxRecDepth 100000 in
theorem ok_X9_partsAt : xMokV mX9_partsAt 3 := ⟨⟨gdT 8 (by decide +kernel) rfl, gdT 605 rfl rfl, by decide +kernel⟩, gdT 603 (by decide +kernel) rfl, gdT 604 (by decide +kernel) rfl⟩
set_option maxRecDepth 100000 in
theorem ok_X9_quarrelOf : xMokV mX9_quarrelOf 3 := ⟨⟨gdT 8 (by decide +kernel) rfl, gdT 622 rfl rfl, by decide +kernel⟩, gdT 620 (by decide +kernel) rfl, gdT 621 (by decide +kernel) rfl⟩
set_option maxRecDepth 100000 in
theorem ok_X9_reach : xMokV mX9_reach 3 := ⟨⟨gdT 8 (by decide +kernel) rfl, gdT 557 rfl rfl, by decide +kernel⟩, gdT 555 (by decide +kernel) rfl, gdT 556 (by decide +kernel) rfl⟩
set_option maxRecDepth 100000 in
theorem ok_X9_rowOf : xMokS mX9_rowOf 2 := ⟨⟨gdT 8 (by decide +kernel) rfl, gdT 563 rfl rfl, by decide +kernel⟩, gdT 562 (by decide +kernel) rfl⟩
set_option maxRecDepth 100000 in
theorem ok_X9_share : xMokV mX9_share 3 := ⟨⟨gdT 8 (by decide +kernel) rfl, gdT 585 rfl rfl, by decide +kernel⟩, gdT 584 (by decide +kernel) rfl, gdP 9 (by decide +kernel) rfl⟩
set_option maxRecDepth 100000 in
theorem ok_X9_weighGrass : xMokV mX9_weighGrass 2 := ⟨⟨gdT 8 (by decide +kernel) rfl, gdT 581 rfl rfl, by decide +kernel⟩, gdT 580 (by decide +kernel) rfl, gdP 8 (by decide +kernel) rfl⟩
