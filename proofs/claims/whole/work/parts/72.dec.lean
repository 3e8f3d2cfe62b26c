theorem dX0_init_0 : decode cX0_init 0 = .ok (.aload_n 0, 1) := by decide +kernel
theorem dX0_init_1 : decode cX0_init 1 = .ok (.invokespecial 5, 3) := by decide +kernel
theorem dX0_init_4 : decode cX0_init 4 = .ok (.aload_n 0, 1) := by decide +kernel
theorem dX0_init_5 : decode cX0_init 5 = .ok (.sipush 4046, 3) := by decide +kernel
theorem dX0_init_8 : decode cX0_init 8 = .ok (.newarray .long, 2) := by decide +kernel
theorem dX0_init_10 : decode cX0_init 10 = .ok (.putfield 11, 3) := by decide +kernel
theorem dX0_init_13 : decode cX0_init 13 = .ok (.aload_n 0, 1) := by decide +kernel
theorem dX0_init_14 : decode cX0_init 14 = .ok (.sipush 1734, 3) := by decide +kernel
theorem dX0_init_17 : decode cX0_init 17 = .ok (.newarray .byte, 2) := by decide +kernel
theorem dX0_init_19 : decode cX0_init 19 = .ok (.putfield 15, 3) := by decide +kernel
theorem dX0_init_22 : decode cX0_init 22 = .ok (.aload_n 0, 1) := by decide +kernel
theorem dX0_init_23 : decode cX0_init 23 = .ok (.sipush 2040, 3) := by decide +kernel
theorem dX0_init_26 : decode cX0_init 26 = .ok (.newarray .long, 2) := by decide +kernel
theorem dX0_init_28 : decode cX0_init 28 = .ok (.putfield 19, 3) := by decide +kernel
theorem dX0_init_31 : decode cX0_init 31 = .ok (.aload_n 0, 1) := by decide +kernel
theorem dX0_init_32 : decode cX0_init 32 = .ok (.bipush 102, 2) := by decide +kernel
theorem dX0_init_34 : decode cX0_init 34 = .ok (.newarray .long, 2) := by decide +kernel
theorem dX0_init_36 : decode cX0_init 36 = .ok (.putfield 22, 3) := by decide +kernel
theorem dX0_init_39 : decode cX0_init 39 = .ok (.aload_n 0, 1) := by decide +kernel
theorem dX0_init_40 : decode cX0_init 40 = .ok (.aload_n 1, 1) := by decide +kernel
theorem dX0_init_41 : decode cX0_init 41 = .ok (.putfield 25, 3) := by decide +kernel
theorem dX0_init_44 : decode cX0_init 44 = .ok (.aload_n 0, 1) := by decide +kernel
theorem dX0_init_45 : decode cX0_init 45 = .ok (.aload_n 2, 1) := by decide +kernel
theorem dX0_init_46 : decode cX0_init 46 = .ok (.putfield 29, 3) := by decide +kernel
theorem dX0_init_49 : decode cX0_init 49 = .ok (.return_, 1) := by decide +kernel
theorem dX0_spot_0 : decode cX0_spot 0 = .ok (.iload_n 0, 1) := by decide +kernel
theorem dX0_spot_1 : decode cX0_spot 1 = .ok (.iconst 1, 1) := by decide +kernel
theorem dX0_spot_2 : decode cX0_spot 2 = .ok (.isub, 1) := by decide +kernel
theorem dX0_spot_3 : decode cX0_spot 3 = .ok (.bipush 17, 2) := by decide +kernel
theorem dX0_spot_5 : decode cX0_spot 5 = .ok (.imul, 1) := by decide +kernel
theorem dX0_spot_6 : decode cX0_spot 6 = .ok (.iload_n 1, 1) := by decide +kernel
theorem dX0_spot_7 : decode cX0_spot 7 = .ok (.iadd, 1) := by decide +kernel
theorem dX0_spot_8 : decode cX0_spot 8 = .ok (.bipush 17, 2) := by decide +kernel
theorem dX0_spot_10 : decode cX0_spot 10 = .ok (.imul, 1) := by decide +kernel
theorem dX0_spot_11 : decode cX0_spot 11 = .ok (.iload_n 2, 1) := by decide +kernel
theorem dX0_spot_12 : decode cX0_spot 12 = .ok (.iadd, 1) := by decide +kernel
theorem dX0_spot_13 : decode cX0_spot 13 = .ok (.ireturn, 1) := by decide +kernel
theorem dX0_choiceSpot_0 : decode cX0_choiceSpot 0 = .ok (.iload_n 0, 1) := by decide +kernel
theorem dX0_choiceSpot_1 : decode cX0_choiceSpot 1 = .ok (.bipush 9, 2) := by decide +kernel
theorem dX0_choiceSpot_3 : decode cX0_choiceSpot 3 = .ok (.isub, 1) := by decide +kernel
theorem dX0_choiceSpot_4 : decode cX0_choiceSpot 4 = .ok (.bipush 17, 2) := by decide +kernel
theorem dX0_choiceSpot_6 : decode cX0_choiceSpot 6 = .ok (.imul, 1) := by decide +kernel
theorem dX0_choiceSpot_7 : decode cX0_choiceSpot 7 = .ok (.iload_n 1, 1) := by decide +kernel
theorem dX0_choiceSpot_8 : decode cX0_choiceSpot 8 = .ok (.iadd, 1) := by decide +kernel
theorem dX0_choiceSpot_9 : decode cX0_choiceSpot 9 = .ok (.bipush 17, 2) := by decide +kernel
theorem dX0_choiceSpot_11 : decode cX0_choiceSpot 11 = .ok (.imul, 1) := by decide +kernel
theorem dX0_choiceSpot_12 : decode cX0_choiceSpot 12 = .ok (.iload_n 2, 1) := by decide +kernel
theorem dX0_choiceSpot_13 : decode cX0_choiceSpot 13 = .ok (.iadd, 1) := by decide +kernel
theorem dX0_choiceSpot_14 : decode cX0_choiceSpot 14 = .ok (.ireturn, 1) := by decide +kernel
theorem dX0_begunRow_0 : decode cX0_begunRow 0 = .ok (.iload_n 0, 1) := by decide +kernel
theorem dX0_begunRow_1 : decode cX0_begunRow 1 = .ok (.bipush 6, 2) := by decide +kernel
theorem dX0_begunRow_3 : decode cX0_begunRow 3 = .ok (.imul, 1) := by decide +kernel
theorem dX0_begunRow_4 : decode cX0_begunRow 4 = .ok (.iload_n 1, 1) := by decide +kernel
theorem dX0_begunRow_5 : decode cX0_begunRow 5 = .ok (.iadd, 1) := by decide +kernel
theorem dX0_begunRow_6 : decode cX0_begunRow 6 = .ok (.bipush 17, 2) := by decide +kernel
theorem dX0_begunRow_8 : decode cX0_begunRow 8 = .ok (.imul, 1) := by decide +kernel
theorem dX0_begunRow_9 : decode cX0_begunRow 9 = .ok (.ireturn, 1) := by decide +kernel
theorem dX0_fill_0 : decode cX0_fill 0 = .ok (.aload_n 0, 1) := by decide +kernel
theorem dX0_fill_1 : decode cX0_fill 1 = .ok (.invokevirtual 33, 3) := by decide +kernel
theorem dX0_fill_4 : decode cX0_fill 4 = .ok (.aload_n 0, 1) := by decide +kernel
theorem dX0_fill_5 : decode cX0_fill 5 = .ok (.getfield 29, 3) := by decide +kernel
theorem dX0_fill_8 : decode cX0_fill 8 = .ok (.getfield 36, 3) := by decide +kernel
theorem dX0_fill_11 : decode cX0_fill 11 = .ok (.istore_n 1, 1) := by decide +kernel
theorem dX0_fill_12 : decode cX0_fill 12 = .ok (.iload_n 1, 1) := by decide +kernel
theorem dX0_fill_13 : decode cX0_fill 13 = .ok (.ifCond .lt 52, 3) := by decide +kernel
theorem dX0_fill_16 : decode cX0_fill 16 = .ok (.iload_n 1, 1) := by decide +kernel
theorem dX0_fill_17 : decode cX0_fill 17 = .ok (.istore_n 2, 1) := by decide +kernel
theorem dX0_fill_18 : decode cX0_fill 18 = .ok (.iload_n 2, 1) := by decide +kernel
theorem dX0_fill_19 : decode cX0_fill 19 = .ok (.aload_n 0, 1) := by decide +kernel
theorem dX0_fill_20 : decode cX0_fill 20 = .ok (.getfield 29, 3) := by decide +kernel
theorem dX0_fill_23 : decode cX0_fill 23 = .ok (.getfield 36, 3) := by decide +kernel
theorem dX0_fill_26 : decode cX0_fill 26 = .ok (.if_icmp .gt 33, 3) := by decide +kernel
theorem dX0_fill_29 : decode cX0_fill 29 = .ok (.aload_n 0, 1) := by decide +kernel
theorem dX0_fill_30 : decode cX0_fill 30 = .ok (.iload_n 1, 1) := by decide +kernel
theorem dX0_fill_31 : decode cX0_fill 31 = .ok (.iload_n 2, 1) := by decide +kernel
theorem dX0_fill_32 : decode cX0_fill 32 = .ok (.invokevirtual 42, 3) := by decide +kernel
theorem dX0_fill_35 : decode cX0_fill 35 = .ok (.aload_n 0, 1) := by decide +kernel
theorem dX0_fill_36 : decode cX0_fill 36 = .ok (.iload_n 1, 1) := by decide +kernel
theorem dX0_fill_37 : decode cX0_fill 37 = .ok (.iload_n 2, 1) := by decide +kernel
theorem dX0_fill_38 : decode cX0_fill 38 = .ok (.invokevirtual 46, 3) := by decide +kernel
theorem dX0_fill_41 : decode cX0_fill 41 = .ok (.aload_n 0, 1) := by decide +kernel
theorem dX0_fill_42 : decode cX0_fill 42 = .ok (.iload_n 1, 1) := by decide +kernel
theorem dX0_fill_43 : decode cX0_fill 43 = .ok (.iload_n 2, 1) := by decide +kernel
theorem dX0_fill_44 : decode cX0_fill 44 = .ok (.invokevirtual 49, 3) := by decide +kernel
theorem dX0_fill_47 : decode cX0_fill 47 = .ok (.aload_n 0, 1) := by decide +kernel
theorem dX0_fill_48 : decode cX0_fill 48 = .ok (.iload_n 1, 1) := by decide +kernel
theorem dX0_fill_49 : decode cX0_fill 49 = .ok (.iload_n 2, 1) := by decide +kernel
theorem dX0_fill_50 : decode cX0_fill 50 = .ok (.invokevirtual 52, 3) := by decide +kernel
theorem dX0_fill_53 : decode cX0_fill 53 = .ok (.iinc 2 1, 3) := by decide +kernel
theorem dX0_fill_56 : decode cX0_fill 56 = .ok (.goto (-38), 3) := by decide +kernel
theorem dX0_fill_59 : decode cX0_fill 59 = .ok (.iinc 1 (-1), 3) := by decide +kernel
theorem dX0_fill_62 : decode cX0_fill 62 = .ok (.goto (-50), 3) := by decide +kernel
theorem dX0_fill_65 : decode cX0_fill 65 = .ok (.return_, 1) := by decide +kernel
theorem dX0_priceLeaves_0 : decode cX0_priceLeaves 0 = .ok (.iconst 1, 1) := by decide +kernel
theorem dX0_priceLeaves_1 : decode cX0_priceLeaves 1 = .ok (.istore_n 1, 1) := by decide +kernel
theorem dX0_priceLeaves_2 : decode cX0_priceLeaves 2 = .ok (.iload_n 1, 1) := by decide +kernel
theorem dX0_priceLeaves_3 : decode cX0_priceLeaves 3 = .ok (.bipush 8, 2) := by decide +kernel
theorem dX0_priceLeaves_5 : decode cX0_priceLeaves 5 = .ok (.if_icmp .gt 107, 3) := by decide +kernel
theorem dX0_priceLeaves_8 : decode cX0_priceLeaves 8 = .ok (.iconst 0, 1) := by decide +kernel
theorem dX0_priceLeaves_9 : decode cX0_priceLeaves 9 = .ok (.istore_n 2, 1) := by decide +kernel
theorem dX0_priceLeaves_10 : decode cX0_priceLeaves 10 = .ok (.iload_n 2, 1) := by decide +kernel
theorem dX0_priceLeaves_11 : decode cX0_priceLeaves 11 = .ok (.aload_n 0, 1) := by decide +kernel
theorem dX0_priceLeaves_12 : decode cX0_priceLeaves 12 = .ok (.getfield 29, 3) := by decide +kernel
theorem dX0_priceLeaves_15 : decode cX0_priceLeaves 15 = .ok (.getfield 36, 3) := by decide +kernel
theorem dX0_priceLeaves_18 : decode cX0_priceLeaves 18 = .ok (.if_icmp .gt 88, 3) := by decide +kernel
theorem dX0_priceLeaves_21 : decode cX0_priceLeaves 21 = .ok (.aload_n 0, 1) := by decide +kernel
theorem dX0_priceLeaves_22 : decode cX0_priceLeaves 22 = .ok (.getfield 11, 3) := by decide +kernel
theorem dX0_priceLeaves_25 : decode cX0_priceLeaves 25 = .ok (.iload_n 1, 1) := by decide +kernel
theorem dX0_priceLeaves_26 : decode cX0_priceLeaves 26 = .ok (.iload_n 2, 1) := by decide +kernel
theorem dX0_priceLeaves_27 : decode cX0_priceLeaves 27 = .ok (.iload_n 2, 1) := by decide +kernel
theorem dX0_priceLeaves_28 : decode cX0_priceLeaves 28 = .ok (.invokestatic 55, 3) := by decide +kernel
theorem dX0_priceLeaves_31 : decode cX0_priceLeaves 31 = .ok (.ldc2_w 59, 3) := by decide +kernel
theorem dX0_priceLeaves_34 : decode cX0_priceLeaves 34 = .ok (.lastore, 1) := by decide +kernel
theorem dX0_priceLeaves_35 : decode cX0_priceLeaves 35 = .ok (.iload_n 2, 1) := by decide +kernel
theorem dX0_priceLeaves_36 : decode cX0_priceLeaves 36 = .ok (.iconst 1, 1) := by decide +kernel
theorem dX0_priceLeaves_37 : decode cX0_priceLeaves 37 = .ok (.iadd, 1) := by decide +kernel
theorem dX0_priceLeaves_38 : decode cX0_priceLeaves 38 = .ok (.istore_n 3, 1) := by decide +kernel
theorem dX0_priceLeaves_39 : decode cX0_priceLeaves 39 = .ok (.iload_n 3, 1) := by decide +kernel
theorem dX0_priceLeaves_40 : decode cX0_priceLeaves 40 = .ok (.aload_n 0, 1) := by decide +kernel
theorem dX0_priceLeaves_41 : decode cX0_priceLeaves 41 = .ok (.getfield 29, 3) := by decide +kernel
theorem dX0_priceLeaves_44 : decode cX0_priceLeaves 44 = .ok (.getfield 36, 3) := by decide +kernel
theorem dX0_priceLeaves_47 : decode cX0_priceLeaves 47 = .ok (.if_icmp .gt 53, 3) := by decide +kernel
theorem dX0_priceLeaves_50 : decode cX0_priceLeaves 50 = .ok (.iload_n 3, 1) := by decide +kernel
theorem dX0_priceLeaves_51 : decode cX0_priceLeaves 51 = .ok (.iload_n 2, 1) := by decide +kernel
theorem dX0_priceLeaves_52 : decode cX0_priceLeaves 52 = .ok (.isub, 1) := by decide +kernel
theorem dX0_priceLeaves_53 : decode cX0_priceLeaves 53 = .ok (.iconst 1, 1) := by decide +kernel
theorem dX0_priceLeaves_54 : decode cX0_priceLeaves 54 = .ok (.isub, 1) := by decide +kernel
theorem dX0_priceLeaves_55 : decode cX0_priceLeaves 55 = .ok (.aload_n 0, 1) := by decide +kernel
theorem dX0_priceLeaves_56 : decode cX0_priceLeaves 56 = .ok (.getfield 29, 3) := by decide +kernel
theorem dX0_priceLeaves_59 : decode cX0_priceLeaves 59 = .ok (.iload_n 3, 1) := by decide +kernel
theorem dX0_priceLeaves_60 : decode cX0_priceLeaves 60 = .ok (.iconst 1, 1) := by decide +kernel
theorem dX0_priceLeaves_61 : decode cX0_priceLeaves 61 = .ok (.isub, 1) := by decide +kernel
theorem dX0_priceLeaves_62 : decode cX0_priceLeaves 62 = .ok (.invokevirtual 61, 3) := by decide +kernel
theorem dX0_priceLeaves_65 : decode cX0_priceLeaves 65 = .ok (.iload_n 1, 1) := by decide +kernel
theorem dX0_priceLeaves_66 : decode cX0_priceLeaves 66 = .ok (.if_icmp .ne 7, 3) := by decide +kernel
theorem dX0_priceLeaves_69 : decode cX0_priceLeaves 69 = .ok (.iconst 0, 1) := by decide +kernel
theorem dX0_priceLeaves_70 : decode cX0_priceLeaves 70 = .ok (.goto 4, 3) := by decide +kernel
theorem dX0_priceLeaves_73 : decode cX0_priceLeaves 73 = .ok (.iconst 1, 1) := by decide +kernel
theorem dX0_priceLeaves_74 : decode cX0_priceLeaves 74 = .ok (.iadd, 1) := by decide +kernel
theorem dX0_priceLeaves_75 : decode cX0_priceLeaves 75 = .ok (.i2l, 1) := by decide +kernel
theorem dX0_priceLeaves_76 : decode cX0_priceLeaves 76 = .ok (.lstore 4, 2) := by decide +kernel
theorem dX0_priceLeaves_78 : decode cX0_priceLeaves 78 = .ok (.aload_n 0, 1) := by decide +kernel
theorem dX0_priceLeaves_79 : decode cX0_priceLeaves 79 = .ok (.getfield 11, 3) := by decide +kernel
theorem dX0_priceLeaves_82 : decode cX0_priceLeaves 82 = .ok (.iload_n 1, 1) := by decide +kernel
theorem dX0_priceLeaves_83 : decode cX0_priceLeaves 83 = .ok (.iload_n 2, 1) := by decide +kernel
theorem dX0_priceLeaves_84 : decode cX0_priceLeaves 84 = .ok (.iload_n 3, 1) := by decide +kernel
theorem dX0_priceLeaves_85 : decode cX0_priceLeaves 85 = .ok (.invokestatic 55, 3) := by decide +kernel
theorem dX0_priceLeaves_88 : decode cX0_priceLeaves 88 = .ok (.lload 4, 2) := by decide +kernel
theorem dX0_priceLeaves_90 : decode cX0_priceLeaves 90 = .ok (.bipush 32, 2) := by decide +kernel
theorem dX0_priceLeaves_92 : decode cX0_priceLeaves 92 = .ok (.lshl, 1) := by decide +kernel
theorem dX0_priceLeaves_93 : decode cX0_priceLeaves 93 = .ok (.lastore, 1) := by decide +kernel
theorem dX0_priceLeaves_94 : decode cX0_priceLeaves 94 = .ok (.iinc 3 1, 3) := by decide +kernel
theorem dX0_priceLeaves_97 : decode cX0_priceLeaves 97 = .ok (.goto (-58), 3) := by decide +kernel
theorem dX0_priceLeaves_100 : decode cX0_priceLeaves 100 = .ok (.iinc 2 1, 3) := by decide +kernel
theorem dX0_priceLeaves_103 : decode cX0_priceLeaves 103 = .ok (.goto (-93), 3) := by decide +kernel
theorem dX0_priceLeaves_106 : decode cX0_priceLeaves 106 = .ok (.iinc 1 1, 3) := by decide +kernel
theorem dX0_priceLeaves_109 : decode cX0_priceLeaves 109 = .ok (.goto (-107), 3) := by decide +kernel
theorem dX0_priceLeaves_112 : decode cX0_priceLeaves 112 = .ok (.return_, 1) := by decide +kernel
theorem dX0_forget_0 : decode cX0_forget 0 = .ok (.bipush 9, 2) := by decide +kernel
theorem dX0_forget_2 : decode cX0_forget 2 = .ok (.istore_n 3, 1) := by decide +kernel
theorem dX0_forget_3 : decode cX0_forget 3 = .ok (.iload_n 3, 1) := by decide +kernel
theorem dX0_forget_4 : decode cX0_forget 4 = .ok (.bipush 14, 2) := by decide +kernel
theorem dX0_forget_6 : decode cX0_forget 6 = .ok (.if_icmp .gt 35, 3) := by decide +kernel
theorem dX0_forget_9 : decode cX0_forget 9 = .ok (.aload_n 0, 1) := by decide +kernel
theorem dX0_forget_10 : decode cX0_forget 10 = .ok (.getfield 11, 3) := by decide +kernel
theorem dX0_forget_13 : decode cX0_forget 13 = .ok (.iload_n 3, 1) := by decide +kernel
theorem dX0_forget_14 : decode cX0_forget 14 = .ok (.iload_n 1, 1) := by decide +kernel
theorem dX0_forget_15 : decode cX0_forget 15 = .ok (.iload_n 2, 1) := by decide +kernel
theorem dX0_forget_16 : decode cX0_forget 16 = .ok (.invokestatic 55, 3) := by decide +kernel
theorem dX0_forget_19 : decode cX0_forget 19 = .ok (.ldc2_w 65, 3) := by decide +kernel
theorem dX0_forget_22 : decode cX0_forget 22 = .ok (.lastore, 1) := by decide +kernel
theorem dX0_forget_23 : decode cX0_forget 23 = .ok (.aload_n 0, 1) := by decide +kernel
theorem dX0_forget_24 : decode cX0_forget 24 = .ok (.getfield 15, 3) := by decide +kernel
theorem dX0_forget_27 : decode cX0_forget 27 = .ok (.iload_n 3, 1) := by decide +kernel
theorem dX0_forget_28 : decode cX0_forget 28 = .ok (.iload_n 1, 1) := by decide +kernel
theorem dX0_forget_29 : decode cX0_forget 29 = .ok (.iload_n 2, 1) := by decide +kernel
theorem dX0_forget_30 : decode cX0_forget 30 = .ok (.invokestatic 67, 3) := by decide +kernel
theorem dX0_forget_33 : decode cX0_forget 33 = .ok (.iconst (-1), 1) := by decide +kernel
theorem dX0_forget_34 : decode cX0_forget 34 = .ok (.bastore, 1) := by decide +kernel
theorem dX0_forget_35 : decode cX0_forget 35 = .ok (.iinc 3 1, 3) := by decide +kernel
theorem dX0_forget_38 : decode cX0_forget 38 = .ok (.goto (-35), 3) := by decide +kernel
theorem dX0_forget_41 : decode cX0_forget 41 = .ok (.return_, 1) := by decide +kernel
theorem dX0_joinInside_0 : decode cX0_joinInside 0 = .ok (.iconst 0, 1) := by decide +kernel
theorem dX0_joinInside_1 : decode cX0_joinInside 1 = .ok (.istore_n 3, 1) := by decide +kernel
theorem dX0_joinInside_2 : decode cX0_joinInside 2 = .ok (.iload_n 3, 1) := by decide +kernel
theorem dX0_joinInside_3 : decode cX0_joinInside 3 = .ok (.aload_n 0, 1) := by decide +kernel
theorem dX0_joinInside_4 : decode cX0_joinInside 4 = .ok (.getfield 25, 3) := by decide +kernel
theorem dX0_joinInside_7 : decode cX0_joinInside 7 = .ok (.getfield 70, 3) := by decide +kernel
theorem dX0_joinInside_10 : decode cX0_joinInside 10 = .ok (.if_icmp .ge 93, 3) := by decide +kernel
theorem dX0_joinInside_13 : decode cX0_joinInside 13 = .ok (.iload_n 3, 1) := by decide +kernel
theorem dX0_joinInside_14 : decode cX0_joinInside 14 = .ok (.iconst 0, 1) := by decide +kernel
theorem dX0_joinInside_15 : decode cX0_joinInside 15 = .ok (.invokestatic 73, 3) := by decide +kernel
theorem dX0_joinInside_18 : decode cX0_joinInside 18 = .ok (.istore 4, 2) := by decide +kernel
theorem dX0_joinInside_20 : decode cX0_joinInside 20 = .ok (.aload_n 0, 1) := by decide +kernel
theorem dX0_joinInside_21 : decode cX0_joinInside 21 = .ok (.getfield 19, 3) := by decide +kernel
theorem dX0_joinInside_24 : decode cX0_joinInside 24 = .ok (.iload 4, 2) := by decide +kernel
theorem dX0_joinInside_26 : decode cX0_joinInside 26 = .ok (.iload_n 2, 1) := by decide +kernel
theorem dX0_joinInside_27 : decode cX0_joinInside 27 = .ok (.iadd, 1) := by decide +kernel
theorem dX0_joinInside_28 : decode cX0_joinInside 28 = .ok (.iload_n 1, 1) := by decide +kernel
theorem dX0_joinInside_29 : decode cX0_joinInside 29 = .ok (.iload_n 2, 1) := by decide +kernel
theorem dX0_joinInside_30 : decode cX0_joinInside 30 = .ok (.if_icmp .ne 7, 3) := by decide +kernel
theorem dX0_joinInside_33 : decode cX0_joinInside 33 = .ok (.lconst 0, 1) := by decide +kernel
theorem dX0_joinInside_34 : decode cX0_joinInside 34 = .ok (.goto 6, 3) := by decide +kernel
theorem dX0_joinInside_37 : decode cX0_joinInside 37 = .ok (.ldc2_w 65, 3) := by decide +kernel
theorem dX0_joinInside_40 : decode cX0_joinInside 40 = .ok (.lastore, 1) := by decide +kernel
theorem dX0_joinInside_41 : decode cX0_joinInside 41 = .ok (.iconst 0, 1) := by decide +kernel
theorem dX0_joinInside_42 : decode cX0_joinInside 42 = .ok (.istore 5, 2) := by decide +kernel
theorem dX0_joinInside_44 : decode cX0_joinInside 44 = .ok (.iload 5, 2) := by decide +kernel
theorem dX0_joinInside_46 : decode cX0_joinInside 46 = .ok (.aload_n 0, 1) := by decide +kernel
theorem dX0_joinInside_47 : decode cX0_joinInside 47 = .ok (.getfield 25, 3) := by decide +kernel
theorem dX0_joinInside_50 : decode cX0_joinInside 50 = .ok (.getfield 77, 3) := by decide +kernel
theorem dX0_joinInside_53 : decode cX0_joinInside 53 = .ok (.iload_n 3, 1) := by decide +kernel
theorem dX0_joinInside_54 : decode cX0_joinInside 54 = .ok (.iaload, 1) := by decide +kernel
theorem dX0_joinInside_55 : decode cX0_joinInside 55 = .ok (.if_icmp .ge 42, 3) := by decide +kernel
theorem dX0_joinInside_58 : decode cX0_joinInside 58 = .ok (.aload_n 0, 1) := by decide +kernel
theorem dX0_joinInside_59 : decode cX0_joinInside 59 = .ok (.getfield 19, 3) := by decide +kernel
theorem dX0_joinInside_62 : decode cX0_joinInside 62 = .ok (.iload 4, 2) := by decide +kernel
theorem dX0_joinInside_64 : decode cX0_joinInside 64 = .ok (.bipush 17, 2) := by decide +kernel
theorem dX0_joinInside_66 : decode cX0_joinInside 66 = .ok (.iadd, 1) := by decide +kernel
theorem dX0_joinInside_67 : decode cX0_joinInside 67 = .ok (.iload_n 2, 1) := by decide +kernel
theorem dX0_joinInside_68 : decode cX0_joinInside 68 = .ok (.iadd, 1) := by decide +kernel
theorem dX0_joinInside_69 : decode cX0_joinInside 69 = .ok (.aload_n 0, 1) := by decide +kernel
theorem dX0_joinInside_70 : decode cX0_joinInside 70 = .ok (.iload 4, 2) := by decide +kernel
theorem dX0_joinInside_72 : decode cX0_joinInside 72 = .ok (.aload_n 0, 1) := by decide +kernel
theorem dX0_joinInside_73 : decode cX0_joinInside 73 = .ok (.getfield 25, 3) := by decide +kernel
theorem dX0_joinInside_76 : decode cX0_joinInside 76 = .ok (.iload_n 3, 1) := by decide +kernel
theorem dX0_joinInside_77 : decode cX0_joinInside 77 = .ok (.iload 5, 2) := by decide +kernel
theorem dX0_joinInside_79 : decode cX0_joinInside 79 = .ok (.invokevirtual 81, 3) := by decide +kernel
theorem dX0_joinInside_82 : decode cX0_joinInside 82 = .ok (.iload_n 1, 1) := by decide +kernel
theorem dX0_joinInside_83 : decode cX0_joinInside 83 = .ok (.iload_n 2, 1) := by decide +kernel
theorem dX0_joinInside_84 : decode cX0_joinInside 84 = .ok (.invokevirtual 84, 3) := by decide +kernel
theorem dX0_joinInside_87 : decode cX0_joinInside 87 = .ok (.lastore, 1) := by decide +kernel
theorem dX0_joinInside_88 : decode cX0_joinInside 88 = .ok (.iinc 4 17, 3) := by decide +kernel
theorem dX0_joinInside_91 : decode cX0_joinInside 91 = .ok (.iinc 5 1, 3) := by decide +kernel
theorem dX0_joinInside_94 : decode cX0_joinInside 94 = .ok (.goto (-50), 3) := by decide +kernel
theorem dX0_joinInside_97 : decode cX0_joinInside 97 = .ok (.iinc 3 1, 3) := by decide +kernel
theorem dX0_joinInside_100 : decode cX0_joinInside 100 = .ok (.goto (-98), 3) := by decide +kernel
theorem dX0_joinInside_103 : decode cX0_joinInside 103 = .ok (.return_, 1) := by decide +kernel
theorem dX0_leastInside_0 : decode cX0_leastInside 0 = .ok (.ldc2_w 65, 3) := by decide +kernel
theorem dX0_leastInside_3 : decode cX0_leastInside 3 = .ok (.lstore 5, 2) := by decide +kernel
theorem dX0_leastInside_5 : decode cX0_leastInside 5 = .ok (.iload_n 2, 1) := by decide +kernel
theorem dX0_leastInside_6 : decode cX0_leastInside 6 = .ok (.iload_n 3, 1) := by decide +kernel
theorem dX0_leastInside_7 : decode cX0_leastInside 7 = .ok (.iload 4, 2) := by decide +kernel
theorem dX0_leastInside_9 : decode cX0_leastInside 9 = .ok (.invokestatic 55, 3) := by decide +kernel
theorem dX0_leastInside_12 : decode cX0_leastInside 12 = .ok (.istore 7, 2) := by decide +kernel
theorem dX0_leastInside_14 : decode cX0_leastInside 14 = .ok (.iload_n 3, 1) := by decide +kernel
theorem dX0_leastInside_15 : decode cX0_leastInside 15 = .ok (.iconst 1, 1) := by decide +kernel
theorem dX0_leastInside_16 : decode cX0_leastInside 16 = .ok (.iadd, 1) := by decide +kernel
theorem dX0_leastInside_17 : decode cX0_leastInside 17 = .ok (.istore 8, 2) := by decide +kernel
theorem dX0_leastInside_19 : decode cX0_leastInside 19 = .ok (.iload 8, 2) := by decide +kernel
theorem dX0_leastInside_21 : decode cX0_leastInside 21 = .ok (.iload 4, 2) := by decide +kernel
theorem dX0_leastInside_23 : decode cX0_leastInside 23 = .ok (.if_icmp .ge 36, 3) := by decide +kernel
theorem dX0_leastInside_26 : decode cX0_leastInside 26 = .ok (.iinc 7 17, 3) := by decide +kernel
theorem dX0_leastInside_29 : decode cX0_leastInside 29 = .ok (.lload 5, 2) := by decide +kernel
theorem dX0_leastInside_31 : decode cX0_leastInside 31 = .ok (.aload_n 0, 1) := by decide +kernel
theorem dX0_leastInside_32 : decode cX0_leastInside 32 = .ok (.getfield 19, 3) := by decide +kernel
theorem dX0_leastInside_35 : decode cX0_leastInside 35 = .ok (.iload_n 1, 1) := by decide +kernel
theorem dX0_leastInside_36 : decode cX0_leastInside 36 = .ok (.iload 8, 2) := by decide +kernel
theorem dX0_leastInside_38 : decode cX0_leastInside 38 = .ok (.iadd, 1) := by decide +kernel
theorem dX0_leastInside_39 : decode cX0_leastInside 39 = .ok (.laload, 1) := by decide +kernel
theorem dX0_leastInside_40 : decode cX0_leastInside 40 = .ok (.aload_n 0, 1) := by decide +kernel
theorem dX0_leastInside_41 : decode cX0_leastInside 41 = .ok (.getfield 11, 3) := by decide +kernel
theorem dX0_leastInside_44 : decode cX0_leastInside 44 = .ok (.iload 7, 2) := by decide +kernel
theorem dX0_leastInside_46 : decode cX0_leastInside 46 = .ok (.laload, 1) := by decide +kernel
theorem dX0_leastInside_47 : decode cX0_leastInside 47 = .ok (.ladd, 1) := by decide +kernel
theorem dX0_leastInside_48 : decode cX0_leastInside 48 = .ok (.invokestatic 88, 3) := by decide +kernel
theorem dX0_leastInside_51 : decode cX0_leastInside 51 = .ok (.lstore 5, 2) := by decide +kernel
theorem dX0_leastInside_53 : decode cX0_leastInside 53 = .ok (.iinc 8 1, 3) := by decide +kernel
theorem dX0_leastInside_56 : decode cX0_leastInside 56 = .ok (.goto (-37), 3) := by decide +kernel
theorem dX0_leastInside_59 : decode cX0_leastInside 59 = .ok (.lload 5, 2) := by decide +kernel
theorem dX0_leastInside_61 : decode cX0_leastInside 61 = .ok (.lreturn, 1) := by decide +kernel
theorem dX0_settle_0 : decode cX0_settle 0 = .ok (.iconst 1, 1) := by decide +kernel
theorem dX0_settle_1 : decode cX0_settle 1 = .ok (.istore_n 3, 1) := by decide +kernel
theorem dX0_settle_2 : decode cX0_settle 2 = .ok (.iconst 0, 1) := by decide +kernel
theorem dX0_settle_3 : decode cX0_settle 3 = .ok (.istore 4, 2) := by decide +kernel
theorem dX0_settle_5 : decode cX0_settle 5 = .ok (.iload 4, 2) := by decide +kernel
theorem dX0_settle_7 : decode cX0_settle 7 = .ok (.bipush 6, 2) := by decide +kernel
theorem dX0_settle_9 : decode cX0_settle 9 = .ok (.if_icmp .gt 89, 3) := by decide +kernel
theorem dX0_settle_12 : decode cX0_settle 12 = .ok (.iload_n 3, 1) := by decide +kernel
theorem dX0_settle_13 : decode cX0_settle 13 = .ok (.ifCond .eq 85, 3) := by decide +kernel
theorem dX0_settle_16 : decode cX0_settle 16 = .ok (.iconst 0, 1) := by decide +kernel
theorem dX0_settle_17 : decode cX0_settle 17 = .ok (.istore_n 3, 1) := by decide +kernel
theorem dX0_settle_18 : decode cX0_settle 18 = .ok (.iconst 0, 1) := by decide +kernel
theorem dX0_settle_19 : decode cX0_settle 19 = .ok (.istore 5, 2) := by decide +kernel
theorem dX0_settle_21 : decode cX0_settle 21 = .ok (.iload 5, 2) := by decide +kernel
theorem dX0_settle_23 : decode cX0_settle 23 = .ok (.aload_n 0, 1) := by decide +kernel
theorem dX0_settle_24 : decode cX0_settle 24 = .ok (.getfield 25, 3) := by decide +kernel
theorem dX0_settle_27 : decode cX0_settle 27 = .ok (.getfield 70, 3) := by decide +kernel
theorem dX0_settle_30 : decode cX0_settle 30 = .ok (.if_icmp .ge 62, 3) := by decide +kernel
theorem dX0_settle_33 : decode cX0_settle 33 = .ok (.aload_n 0, 1) := by decide +kernel
theorem dX0_settle_34 : decode cX0_settle 34 = .ok (.getfield 25, 3) := by decide +kernel
theorem dX0_settle_37 : decode cX0_settle 37 = .ok (.getfield 94, 3) := by decide +kernel
theorem dX0_settle_40 : decode cX0_settle 40 = .ok (.iload 5, 2) := by decide +kernel
theorem dX0_settle_42 : decode cX0_settle 42 = .ok (.iaload, 1) := by decide +kernel
theorem dX0_settle_43 : decode cX0_settle 43 = .ok (.iload_n 1, 1) := by decide +kernel
theorem dX0_settle_44 : decode cX0_settle 44 = .ok (.iload_n 2, 1) := by decide +kernel
theorem dX0_settle_45 : decode cX0_settle 45 = .ok (.invokestatic 55, 3) := by decide +kernel
theorem dX0_settle_48 : decode cX0_settle 48 = .ok (.istore 6, 2) := by decide +kernel
theorem dX0_settle_50 : decode cX0_settle 50 = .ok (.aload_n 0, 1) := by decide +kernel
theorem dX0_settle_51 : decode cX0_settle 51 = .ok (.iload 5, 2) := by decide +kernel
theorem dX0_settle_53 : decode cX0_settle 53 = .ok (.iload_n 1, 1) := by decide +kernel
theorem dX0_settle_54 : decode cX0_settle 54 = .ok (.iload_n 2, 1) := by decide +kernel
theorem dX0_settle_55 : decode cX0_settle 55 = .ok (.invokevirtual 97, 3) := by decide +kernel
theorem dX0_settle_58 : decode cX0_settle 58 = .ok (.lconst 1, 1) := by decide +kernel
theorem dX0_settle_59 : decode cX0_settle 59 = .ok (.ladd, 1) := by decide +kernel
theorem dX0_settle_60 : decode cX0_settle 60 = .ok (.lstore 7, 2) := by decide +kernel
theorem dX0_settle_62 : decode cX0_settle 62 = .ok (.lload 7, 2) := by decide +kernel
theorem dX0_settle_64 : decode cX0_settle 64 = .ok (.aload_n 0, 1) := by decide +kernel
theorem dX0_settle_65 : decode cX0_settle 65 = .ok (.getfield 11, 3) := by decide +kernel
theorem dX0_settle_68 : decode cX0_settle 68 = .ok (.iload 6, 2) := by decide +kernel
theorem dX0_settle_70 : decode cX0_settle 70 = .ok (.laload, 1) := by decide +kernel
theorem dX0_settle_71 : decode cX0_settle 71 = .ok (.lcmp, 1) := by decide +kernel
theorem dX0_settle_72 : decode cX0_settle 72 = .ok (.ifCond .ge 14, 3) := by decide +kernel
theorem dX0_settle_75 : decode cX0_settle 75 = .ok (.aload_n 0, 1) := by decide +kernel
theorem dX0_settle_76 : decode cX0_settle 76 = .ok (.getfield 11, 3) := by decide +kernel
theorem dX0_settle_79 : decode cX0_settle 79 = .ok (.iload 6, 2) := by decide +kernel
theorem dX0_settle_81 : decode cX0_settle 81 = .ok (.lload 7, 2) := by decide +kernel
theorem dX0_settle_83 : decode cX0_settle 83 = .ok (.lastore, 1) := by decide +kernel
theorem dX0_settle_84 : decode cX0_settle 84 = .ok (.iconst 1, 1) := by decide +kernel
theorem dX0_settle_85 : decode cX0_settle 85 = .ok (.istore_n 3, 1) := by decide +kernel
theorem dX0_settle_86 : decode cX0_settle 86 = .ok (.iinc 5 1, 3) := by decide +kernel
theorem dX0_settle_89 : decode cX0_settle 89 = .ok (.goto (-68), 3) := by decide +kernel
theorem dX0_settle_92 : decode cX0_settle 92 = .ok (.iinc 4 1, 3) := by decide +kernel
theorem dX0_settle_95 : decode cX0_settle 95 = .ok (.goto (-90), 3) := by decide +kernel
theorem dX0_settle_98 : decode cX0_settle 98 = .ok (.return_, 1) := by decide +kernel
theorem dX0_extend_0 : decode cX0_extend 0 = .ok (.iload_n 1, 1) := by decide +kernel
theorem dX0_extend_1 : decode cX0_extend 1 = .ok (.iconst 0, 1) := by decide +kernel
theorem dX0_extend_2 : decode cX0_extend 2 = .ok (.invokestatic 73, 3) := by decide +kernel
theorem dX0_extend_5 : decode cX0_extend 5 = .ok (.istore 4, 2) := by decide +kernel
theorem dX0_extend_7 : decode cX0_extend 7 = .ok (.iconst 0, 1) := by decide +kernel
theorem dX0_extend_8 : decode cX0_extend 8 = .ok (.istore 5, 2) := by decide +kernel
theorem dX0_extend_10 : decode cX0_extend 10 = .ok (.iload 5, 2) := by decide +kernel
theorem dX0_extend_12 : decode cX0_extend 12 = .ok (.aload_n 0, 1) := by decide +kernel
theorem dX0_extend_13 : decode cX0_extend 13 = .ok (.getfield 25, 3) := by decide +kernel
theorem dX0_extend_16 : decode cX0_extend 16 = .ok (.getfield 77, 3) := by decide +kernel
theorem dX0_extend_19 : decode cX0_extend 19 = .ok (.iload_n 1, 1) := by decide +kernel
theorem dX0_extend_20 : decode cX0_extend 20 = .ok (.iaload, 1) := by decide +kernel
theorem dX0_extend_21 : decode cX0_extend 21 = .ok (.if_icmp .ge 100, 3) := by decide +kernel
theorem dX0_extend_24 : decode cX0_extend 24 = .ok (.aload_n 0, 1) := by decide +kernel
theorem dX0_extend_25 : decode cX0_extend 25 = .ok (.getfield 25, 3) := by decide +kernel
theorem dX0_extend_28 : decode cX0_extend 28 = .ok (.iload_n 1, 1) := by decide +kernel
theorem dX0_extend_29 : decode cX0_extend 29 = .ok (.iload 5, 2) := by decide +kernel
theorem dX0_extend_31 : decode cX0_extend 31 = .ok (.invokevirtual 81, 3) := by decide +kernel
theorem dX0_extend_34 : decode cX0_extend 34 = .ok (.istore 6, 2) := by decide +kernel
theorem dX0_extend_36 : decode cX0_extend 36 = .ok (.aload_n 0, 1) := by decide +kernel
theorem dX0_extend_37 : decode cX0_extend 37 = .ok (.getfield 19, 3) := by decide +kernel
theorem dX0_extend_40 : decode cX0_extend 40 = .ok (.iload 4, 2) := by decide +kernel
theorem dX0_extend_42 : decode cX0_extend 42 = .ok (.iload_n 3, 1) := by decide +kernel
theorem dX0_extend_43 : decode cX0_extend 43 = .ok (.iadd, 1) := by decide +kernel
theorem dX0_extend_44 : decode cX0_extend 44 = .ok (.laload, 1) := by decide +kernel
theorem dX0_extend_45 : decode cX0_extend 45 = .ok (.aload_n 0, 1) := by decide +kernel
theorem dX0_extend_46 : decode cX0_extend 46 = .ok (.getfield 11, 3) := by decide +kernel
theorem dX0_extend_49 : decode cX0_extend 49 = .ok (.iload 6, 2) := by decide +kernel
theorem dX0_extend_51 : decode cX0_extend 51 = .ok (.iload_n 3, 1) := by decide +kernel
theorem dX0_extend_52 : decode cX0_extend 52 = .ok (.iload_n 3, 1) := by decide +kernel
theorem dX0_extend_53 : decode cX0_extend 53 = .ok (.invokestatic 55, 3) := by decide +kernel
theorem dX0_extend_56 : decode cX0_extend 56 = .ok (.laload, 1) := by decide +kernel
theorem dX0_extend_57 : decode cX0_extend 57 = .ok (.ladd, 1) := by decide +kernel
theorem dX0_extend_58 : decode cX0_extend 58 = .ok (.lstore 7, 2) := by decide +kernel
theorem dX0_extend_60 : decode cX0_extend 60 = .ok (.aload_n 0, 1) := by decide +kernel
theorem dX0_extend_61 : decode cX0_extend 61 = .ok (.getfield 19, 3) := by decide +kernel
theorem dX0_extend_64 : decode cX0_extend 64 = .ok (.iload 4, 2) := by decide +kernel
theorem dX0_extend_66 : decode cX0_extend 66 = .ok (.iload_n 2, 1) := by decide +kernel
theorem dX0_extend_67 : decode cX0_extend 67 = .ok (.iadd, 1) := by decide +kernel
theorem dX0_extend_68 : decode cX0_extend 68 = .ok (.laload, 1) := by decide +kernel
theorem dX0_extend_69 : decode cX0_extend 69 = .ok (.aload_n 0, 1) := by decide +kernel
theorem dX0_extend_70 : decode cX0_extend 70 = .ok (.getfield 11, 3) := by decide +kernel
theorem dX0_extend_73 : decode cX0_extend 73 = .ok (.iload 6, 2) := by decide +kernel
theorem dX0_extend_75 : decode cX0_extend 75 = .ok (.iload_n 2, 1) := by decide +kernel
theorem dX0_extend_76 : decode cX0_extend 76 = .ok (.iload_n 3, 1) := by decide +kernel
theorem dX0_extend_77 : decode cX0_extend 77 = .ok (.invokestatic 55, 3) := by decide +kernel
theorem dX0_extend_80 : decode cX0_extend 80 = .ok (.laload, 1) := by decide +kernel
theorem dX0_extend_81 : decode cX0_extend 81 = .ok (.ladd, 1) := by decide +kernel
theorem dX0_extend_82 : decode cX0_extend 82 = .ok (.lstore 9, 2) := by decide +kernel
theorem dX0_extend_84 : decode cX0_extend 84 = .ok (.iinc 4 17, 3) := by decide +kernel
theorem dX0_extend_87 : decode cX0_extend 87 = .ok (.aload_n 0, 1) := by decide +kernel
theorem dX0_extend_88 : decode cX0_extend 88 = .ok (.getfield 19, 3) := by decide +kernel
theorem dX0_extend_91 : decode cX0_extend 91 = .ok (.iload 4, 2) := by decide +kernel
theorem dX0_extend_93 : decode cX0_extend 93 = .ok (.iload_n 3, 1) := by decide +kernel
theorem dX0_extend_94 : decode cX0_extend 94 = .ok (.iadd, 1) := by decide +kernel
theorem dX0_extend_95 : decode cX0_extend 95 = .ok (.aload_n 0, 1) := by decide +kernel
theorem dX0_extend_96 : decode cX0_extend 96 = .ok (.getfield 19, 3) := by decide +kernel
theorem dX0_extend_99 : decode cX0_extend 99 = .ok (.iload 4, 2) := by decide +kernel
theorem dX0_extend_101 : decode cX0_extend 101 = .ok (.iload_n 3, 1) := by decide +kernel
theorem dX0_extend_102 : decode cX0_extend 102 = .ok (.iadd, 1) := by decide +kernel
theorem dX0_extend_103 : decode cX0_extend 103 = .ok (.laload, 1) := by decide +kernel
theorem dX0_extend_104 : decode cX0_extend 104 = .ok (.lload 7, 2) := by decide +kernel
theorem dX0_extend_106 : decode cX0_extend 106 = .ok (.lload 9, 2) := by decide +kernel
theorem dX0_extend_108 : decode cX0_extend 108 = .ok (.invokestatic 88, 3) := by decide +kernel
theorem dX0_extend_111 : decode cX0_extend 111 = .ok (.invokestatic 88, 3) := by decide +kernel
theorem dX0_extend_114 : decode cX0_extend 114 = .ok (.lastore, 1) := by decide +kernel
theorem dX0_extend_115 : decode cX0_extend 115 = .ok (.iinc 5 1, 3) := by decide +kernel
theorem dX0_extend_118 : decode cX0_extend 118 = .ok (.goto (-108), 3) := by decide +kernel
theorem dX0_extend_121 : decode cX0_extend 121 = .ok (.aload_n 0, 1) := by decide +kernel
theorem dX0_extend_122 : decode cX0_extend 122 = .ok (.getfield 19, 3) := by decide +kernel
theorem dX0_extend_125 : decode cX0_extend 125 = .ok (.iload 4, 2) := by decide +kernel
theorem dX0_extend_127 : decode cX0_extend 127 = .ok (.iload_n 3, 1) := by decide +kernel
theorem dX0_extend_128 : decode cX0_extend 128 = .ok (.iadd, 1) := by decide +kernel
theorem dX0_extend_129 : decode cX0_extend 129 = .ok (.laload, 1) := by decide +kernel
theorem dX0_extend_130 : decode cX0_extend 130 = .ok (.lreturn, 1) := by decide +kernel
theorem dX0_choose_0 : decode cX0_choose 0 = .ok (.aload_n 0, 1) := by decide +kernel
theorem dX0_choose_1 : decode cX0_choose 1 = .ok (.getfield 25, 3) := by decide +kernel
theorem dX0_choose_4 : decode cX0_choose 4 = .ok (.getfield 70, 3) := by decide +kernel
theorem dX0_choose_7 : decode cX0_choose 7 = .ok (.iconst 1, 1) := by decide +kernel
theorem dX0_choose_8 : decode cX0_choose 8 = .ok (.isub, 1) := by decide +kernel
theorem dX0_choose_9 : decode cX0_choose 9 = .ok (.istore_n 3, 1) := by decide +kernel
theorem dX0_choose_10 : decode cX0_choose 10 = .ok (.iload_n 3, 1) := by decide +kernel
theorem dX0_choose_11 : decode cX0_choose 11 = .ok (.ifCond .lt 85, 3) := by decide +kernel
theorem dX0_choose_14 : decode cX0_choose 14 = .ok (.aload_n 0, 1) := by decide +kernel
theorem dX0_choose_15 : decode cX0_choose 15 = .ok (.getfield 25, 3) := by decide +kernel
theorem dX0_choose_18 : decode cX0_choose 18 = .ok (.getfield 94, 3) := by decide +kernel
theorem dX0_choose_21 : decode cX0_choose 21 = .ok (.iload_n 3, 1) := by decide +kernel
theorem dX0_choose_22 : decode cX0_choose 22 = .ok (.iaload, 1) := by decide +kernel
theorem dX0_choose_23 : decode cX0_choose 23 = .ok (.istore 4, 2) := by decide +kernel
theorem dX0_choose_25 : decode cX0_choose 25 = .ok (.aload_n 0, 1) := by decide +kernel
theorem dX0_choose_26 : decode cX0_choose 26 = .ok (.getfield 19, 3) := by decide +kernel
theorem dX0_choose_29 : decode cX0_choose 29 = .ok (.iload_n 3, 1) := by decide +kernel
theorem dX0_choose_30 : decode cX0_choose 30 = .ok (.aload_n 0, 1) := by decide +kernel
theorem dX0_choose_31 : decode cX0_choose 31 = .ok (.getfield 25, 3) := by decide +kernel
theorem dX0_choose_34 : decode cX0_choose 34 = .ok (.getfield 77, 3) := by decide +kernel
theorem dX0_choose_37 : decode cX0_choose 37 = .ok (.iload_n 3, 1) := by decide +kernel
theorem dX0_choose_38 : decode cX0_choose 38 = .ok (.iaload, 1) := by decide +kernel
theorem dX0_choose_39 : decode cX0_choose 39 = .ok (.invokestatic 73, 3) := by decide +kernel
theorem dX0_choose_42 : decode cX0_choose 42 = .ok (.iload_n 2, 1) := by decide +kernel
theorem dX0_choose_43 : decode cX0_choose 43 = .ok (.iadd, 1) := by decide +kernel
theorem dX0_choose_44 : decode cX0_choose 44 = .ok (.laload, 1) := by decide +kernel
theorem dX0_choose_45 : decode cX0_choose 45 = .ok (.lconst 1, 1) := by decide +kernel
theorem dX0_choose_46 : decode cX0_choose 46 = .ok (.ladd, 1) := by decide +kernel
theorem dX0_choose_47 : decode cX0_choose 47 = .ok (.lstore 5, 2) := by decide +kernel
theorem dX0_choose_49 : decode cX0_choose 49 = .ok (.lload 5, 2) := by decide +kernel
theorem dX0_choose_51 : decode cX0_choose 51 = .ok (.ldc2_w 65, 3) := by decide +kernel
theorem dX0_choose_54 : decode cX0_choose 54 = .ok (.lcmp, 1) := by decide +kernel
theorem dX0_choose_55 : decode cX0_choose 55 = .ok (.ifCond .ge 35, 3) := by decide +kernel
theorem dX0_choose_58 : decode cX0_choose 58 = .ok (.lload 5, 2) := by decide +kernel
theorem dX0_choose_60 : decode cX0_choose 60 = .ok (.aload_n 0, 1) := by decide +kernel
theorem dX0_choose_61 : decode cX0_choose 61 = .ok (.getfield 11, 3) := by decide +kernel
theorem dX0_choose_64 : decode cX0_choose 64 = .ok (.iload 4, 2) := by decide +kernel
theorem dX0_choose_66 : decode cX0_choose 66 = .ok (.iload_n 1, 1) := by decide +kernel
theorem dX0_choose_67 : decode cX0_choose 67 = .ok (.iload_n 2, 1) := by decide +kernel
theorem dX0_choose_68 : decode cX0_choose 68 = .ok (.invokestatic 55, 3) := by decide +kernel
theorem dX0_choose_71 : decode cX0_choose 71 = .ok (.laload, 1) := by decide +kernel
theorem dX0_choose_72 : decode cX0_choose 72 = .ok (.lcmp, 1) := by decide +kernel
theorem dX0_choose_73 : decode cX0_choose 73 = .ok (.ifCond .ne 17, 3) := by decide +kernel
theorem dX0_choose_76 : decode cX0_choose 76 = .ok (.aload_n 0, 1) := by decide +kernel
theorem dX0_choose_77 : decode cX0_choose 77 = .ok (.getfield 15, 3) := by decide +kernel
theorem dX0_choose_80 : decode cX0_choose 80 = .ok (.iload 4, 2) := by decide +kernel
theorem dX0_choose_82 : decode cX0_choose 82 = .ok (.iload_n 1, 1) := by decide +kernel
theorem dX0_choose_83 : decode cX0_choose 83 = .ok (.iload_n 2, 1) := by decide +kernel
theorem dX0_choose_84 : decode cX0_choose 84 = .ok (.invokestatic 67, 3) := by decide +kernel
theorem dX0_choose_87 : decode cX0_choose 87 = .ok (.iload_n 3, 1) := by decide +kernel
theorem dX0_choose_88 : decode cX0_choose 88 = .ok (.i2b, 1) := by decide +kernel
theorem dX0_choose_89 : decode cX0_choose 89 = .ok (.bastore, 1) := by decide +kernel
theorem dX0_choose_90 : decode cX0_choose 90 = .ok (.iinc 3 (-1), 3) := by decide +kernel
theorem dX0_choose_93 : decode cX0_choose 93 = .ok (.goto (-83), 3) := by decide +kernel
theorem dX0_choose_96 : decode cX0_choose 96 = .ok (.return_, 1) := by decide +kernel
theorem dX0_ruleFor_0 : decode cX0_ruleFor 0 = .ok (.aload_n 0, 1) := by decide +kernel
theorem dX0_ruleFor_1 : decode cX0_ruleFor 1 = .ok (.getfield 15, 3) := by decide +kernel
theorem dX0_ruleFor_4 : decode cX0_ruleFor 4 = .ok (.iload_n 1, 1) := by decide +kernel
theorem dX0_ruleFor_5 : decode cX0_ruleFor 5 = .ok (.iload_n 2, 1) := by decide +kernel
theorem dX0_ruleFor_6 : decode cX0_ruleFor 6 = .ok (.iload_n 3, 1) := by decide +kernel
theorem dX0_ruleFor_7 : decode cX0_ruleFor 7 = .ok (.invokestatic 67, 3) := by decide +kernel
theorem dX0_ruleFor_10 : decode cX0_ruleFor 10 = .ok (.baload, 1) := by decide +kernel
theorem dX0_ruleFor_11 : decode cX0_ruleFor 11 = .ok (.ireturn, 1) := by decide +kernel
theorem dX0_costOf_0 : decode cX0_costOf 0 = .ok (.aload_n 0, 1) := by decide +kernel
theorem dX0_costOf_1 : decode cX0_costOf 1 = .ok (.getfield 11, 3) := by decide +kernel
theorem dX0_costOf_4 : decode cX0_costOf 4 = .ok (.iload_n 1, 1) := by decide +kernel
theorem dX0_costOf_5 : decode cX0_costOf 5 = .ok (.iload_n 2, 1) := by decide +kernel
theorem dX0_costOf_6 : decode cX0_costOf 6 = .ok (.iload_n 3, 1) := by decide +kernel
theorem dX0_costOf_7 : decode cX0_costOf 7 = .ok (.invokestatic 55, 3) := by decide +kernel
theorem dX0_costOf_10 : decode cX0_costOf 10 = .ok (.laload, 1) := by decide +kernel
theorem dX0_costOf_11 : decode cX0_costOf 11 = .ok (.bipush 32, 2) := by decide +kernel
theorem dX0_costOf_13 : decode cX0_costOf 13 = .ok (.lshr, 1) := by decide +kernel
theorem dX0_costOf_14 : decode cX0_costOf 14 = .ok (.l2i, 1) := by decide +kernel
theorem dX0_costOf_15 : decode cX0_costOf 15 = .ok (.ireturn, 1) := by decide +kernel
theorem dX0_treeEnd_0 : decode cX0_treeEnd 0 = .ok (.ldc2_w 65, 3) := by decide +kernel
theorem dX0_treeEnd_3 : decode cX0_treeEnd 3 = .ok (.lstore_n 1, 1) := by decide +kernel
theorem dX0_treeEnd_4 : decode cX0_treeEnd 4 = .ok (.iconst 0, 1) := by decide +kernel
theorem dX0_treeEnd_5 : decode cX0_treeEnd 5 = .ok (.istore_n 3, 1) := by decide +kernel
theorem dX0_treeEnd_6 : decode cX0_treeEnd 6 = .ok (.iconst 0, 1) := by decide +kernel
theorem dX0_treeEnd_7 : decode cX0_treeEnd 7 = .ok (.istore 4, 2) := by decide +kernel
theorem dX0_treeEnd_9 : decode cX0_treeEnd 9 = .ok (.iload 4, 2) := by decide +kernel
theorem dX0_treeEnd_11 : decode cX0_treeEnd 11 = .ok (.aload_n 0, 1) := by decide +kernel
theorem dX0_treeEnd_12 : decode cX0_treeEnd 12 = .ok (.getfield 29, 3) := by decide +kernel
theorem dX0_treeEnd_15 : decode cX0_treeEnd 15 = .ok (.getfield 36, 3) := by decide +kernel
theorem dX0_treeEnd_18 : decode cX0_treeEnd 18 = .ok (.if_icmp .gt 52, 3) := by decide +kernel
theorem dX0_treeEnd_21 : decode cX0_treeEnd 21 = .ok (.aload_n 0, 1) := by decide +kernel
theorem dX0_treeEnd_22 : decode cX0_treeEnd 22 = .ok (.getfield 11, 3) := by decide +kernel
theorem dX0_treeEnd_25 : decode cX0_treeEnd 25 = .ok (.bipush 9, 2) := by decide +kernel
theorem dX0_treeEnd_27 : decode cX0_treeEnd 27 = .ok (.iconst 0, 1) := by decide +kernel
theorem dX0_treeEnd_28 : decode cX0_treeEnd 28 = .ok (.iload 4, 2) := by decide +kernel
theorem dX0_treeEnd_30 : decode cX0_treeEnd 30 = .ok (.invokestatic 55, 3) := by decide +kernel
theorem dX0_treeEnd_33 : decode cX0_treeEnd 33 = .ok (.laload, 1) := by decide +kernel
theorem dX0_treeEnd_34 : decode cX0_treeEnd 34 = .ok (.aload_n 0, 1) := by decide +kernel
theorem dX0_treeEnd_35 : decode cX0_treeEnd 35 = .ok (.getfield 29, 3) := by decide +kernel
theorem dX0_treeEnd_38 : decode cX0_treeEnd 38 = .ok (.getfield 36, 3) := by decide +kernel
theorem dX0_treeEnd_41 : decode cX0_treeEnd 41 = .ok (.iload 4, 2) := by decide +kernel
theorem dX0_treeEnd_43 : decode cX0_treeEnd 43 = .ok (.isub, 1) := by decide +kernel
theorem dX0_treeEnd_44 : decode cX0_treeEnd 44 = .ok (.i2l, 1) := by decide +kernel
theorem dX0_treeEnd_45 : decode cX0_treeEnd 45 = .ok (.bipush 32, 2) := by decide +kernel
theorem dX0_treeEnd_47 : decode cX0_treeEnd 47 = .ok (.lshl, 1) := by decide +kernel
theorem dX0_treeEnd_48 : decode cX0_treeEnd 48 = .ok (.ladd, 1) := by decide +kernel
theorem dX0_treeEnd_49 : decode cX0_treeEnd 49 = .ok (.lstore 5, 2) := by decide +kernel
theorem dX0_treeEnd_51 : decode cX0_treeEnd 51 = .ok (.lload 5, 2) := by decide +kernel
theorem dX0_treeEnd_53 : decode cX0_treeEnd 53 = .ok (.lload_n 1, 1) := by decide +kernel
theorem dX0_treeEnd_54 : decode cX0_treeEnd 54 = .ok (.lcmp, 1) := by decide +kernel
theorem dX0_treeEnd_55 : decode cX0_treeEnd 55 = .ok (.ifCond .gt 9, 3) := by decide +kernel
theorem dX0_treeEnd_58 : decode cX0_treeEnd 58 = .ok (.lload 5, 2) := by decide +kernel
theorem dX0_treeEnd_60 : decode cX0_treeEnd 60 = .ok (.lstore_n 1, 1) := by decide +kernel
theorem dX0_treeEnd_61 : decode cX0_treeEnd 61 = .ok (.iload 4, 2) := by decide +kernel
theorem dX0_treeEnd_63 : decode cX0_treeEnd 63 = .ok (.istore_n 3, 1) := by decide +kernel
theorem dX0_treeEnd_64 : decode cX0_treeEnd 64 = .ok (.iinc 4 1, 3) := by decide +kernel
theorem dX0_treeEnd_67 : decode cX0_treeEnd 67 = .ok (.goto (-58), 3) := by decide +kernel
theorem dX0_treeEnd_70 : decode cX0_treeEnd 70 = .ok (.iload_n 3, 1) := by decide +kernel
theorem dX0_treeEnd_71 : decode cX0_treeEnd 71 = .ok (.ireturn, 1) := by decide +kernel
theorem dX0_split_0 : decode cX0_split 0 = .ok (.aload_n 0, 1) := by decide +kernel
theorem dX0_split_1 : decode cX0_split 1 = .ok (.iload_n 1, 1) := by decide +kernel
theorem dX0_split_2 : decode cX0_split 2 = .ok (.iload_n 2, 1) := by decide +kernel
theorem dX0_split_3 : decode cX0_split 3 = .ok (.iload_n 3, 1) := by decide +kernel
theorem dX0_split_4 : decode cX0_split 4 = .ok (.invokevirtual 101, 3) := by decide +kernel
theorem dX0_split_7 : decode cX0_split 7 = .ok (.iload_n 3, 1) := by decide +kernel
theorem dX0_split_8 : decode cX0_split 8 = .ok (.istore 5, 2) := by decide +kernel
theorem dX0_split_10 : decode cX0_split 10 = .ok (.aload_n 0, 1) := by decide +kernel
theorem dX0_split_11 : decode cX0_split 11 = .ok (.getfield 25, 3) := by decide +kernel
theorem dX0_split_14 : decode cX0_split 14 = .ok (.getfield 77, 3) := by decide +kernel
theorem dX0_split_17 : decode cX0_split 17 = .ok (.iload_n 1, 1) := by decide +kernel
theorem dX0_split_18 : decode cX0_split 18 = .ok (.iaload, 1) := by decide +kernel
theorem dX0_split_19 : decode cX0_split 19 = .ok (.iconst 1, 1) := by decide +kernel
theorem dX0_split_20 : decode cX0_split 20 = .ok (.isub, 1) := by decide +kernel
theorem dX0_split_21 : decode cX0_split 21 = .ok (.istore 6, 2) := by decide +kernel
theorem dX0_split_23 : decode cX0_split 23 = .ok (.iload 6, 2) := by decide +kernel
theorem dX0_split_25 : decode cX0_split 25 = .ok (.ifCond .lt 101, 3) := by decide +kernel
theorem dX0_split_28 : decode cX0_split 28 = .ok (.aload_n 0, 1) := by decide +kernel
theorem dX0_split_29 : decode cX0_split 29 = .ok (.getfield 25, 3) := by decide +kernel
theorem dX0_split_32 : decode cX0_split 32 = .ok (.iload_n 1, 1) := by decide +kernel
theorem dX0_split_33 : decode cX0_split 33 = .ok (.iload 6, 2) := by decide +kernel
theorem dX0_split_35 : decode cX0_split 35 = .ok (.invokevirtual 81, 3) := by decide +kernel
theorem dX0_split_38 : decode cX0_split 38 = .ok (.istore 7, 2) := by decide +kernel
theorem dX0_split_40 : decode cX0_split 40 = .ok (.iload 6, 2) := by decide +kernel
theorem dX0_split_42 : decode cX0_split 42 = .ok (.bipush 17, 2) := by decide +kernel
theorem dX0_split_44 : decode cX0_split 44 = .ok (.imul, 1) := by decide +kernel
theorem dX0_split_45 : decode cX0_split 45 = .ok (.istore 8, 2) := by decide +kernel
theorem dX0_split_47 : decode cX0_split 47 = .ok (.aload_n 0, 1) := by decide +kernel
theorem dX0_split_48 : decode cX0_split 48 = .ok (.getfield 22, 3) := by decide +kernel
theorem dX0_split_51 : decode cX0_split 51 = .ok (.iload 8, 2) := by decide +kernel
theorem dX0_split_53 : decode cX0_split 53 = .ok (.bipush 17, 2) := by decide +kernel
theorem dX0_split_55 : decode cX0_split 55 = .ok (.iadd, 1) := by decide +kernel
theorem dX0_split_56 : decode cX0_split 56 = .ok (.iload 5, 2) := by decide +kernel
theorem dX0_split_58 : decode cX0_split 58 = .ok (.iadd, 1) := by decide +kernel
theorem dX0_split_59 : decode cX0_split 59 = .ok (.laload, 1) := by decide +kernel
theorem dX0_split_60 : decode cX0_split 60 = .ok (.lstore 9, 2) := by decide +kernel
theorem dX0_split_62 : decode cX0_split 62 = .ok (.iload 5, 2) := by decide +kernel
theorem dX0_split_64 : decode cX0_split 64 = .ok (.istore 11, 2) := by decide +kernel
theorem dX0_split_66 : decode cX0_split 66 = .ok (.iload 11, 2) := by decide +kernel
theorem dX0_split_68 : decode cX0_split 68 = .ok (.iload_n 2, 1) := by decide +kernel
theorem dX0_split_69 : decode cX0_split 69 = .ok (.if_icmp .le 40, 3) := by decide +kernel
theorem dX0_split_72 : decode cX0_split 72 = .ok (.aload_n 0, 1) := by decide +kernel
theorem dX0_split_73 : decode cX0_split 73 = .ok (.getfield 22, 3) := by decide +kernel
theorem dX0_split_76 : decode cX0_split 76 = .ok (.iload 8, 2) := by decide +kernel
theorem dX0_split_78 : decode cX0_split 78 = .ok (.iload 11, 2) := by decide +kernel
theorem dX0_split_80 : decode cX0_split 80 = .ok (.iadd, 1) := by decide +kernel
theorem dX0_split_81 : decode cX0_split 81 = .ok (.laload, 1) := by decide +kernel
theorem dX0_split_82 : decode cX0_split 82 = .ok (.aload_n 0, 1) := by decide +kernel
theorem dX0_split_83 : decode cX0_split 83 = .ok (.getfield 11, 3) := by decide +kernel
theorem dX0_split_86 : decode cX0_split 86 = .ok (.iload 7, 2) := by decide +kernel
theorem dX0_split_88 : decode cX0_split 88 = .ok (.iload 11, 2) := by decide +kernel
theorem dX0_split_90 : decode cX0_split 90 = .ok (.iload 5, 2) := by decide +kernel
theorem dX0_split_92 : decode cX0_split 92 = .ok (.invokestatic 55, 3) := by decide +kernel
theorem dX0_split_95 : decode cX0_split 95 = .ok (.laload, 1) := by decide +kernel
theorem dX0_split_96 : decode cX0_split 96 = .ok (.ladd, 1) := by decide +kernel
theorem dX0_split_97 : decode cX0_split 97 = .ok (.lload 9, 2) := by decide +kernel
theorem dX0_split_99 : decode cX0_split 99 = .ok (.lcmp, 1) := by decide +kernel
theorem dX0_split_100 : decode cX0_split 100 = .ok (.ifCond .eq 9, 3) := by decide +kernel
theorem dX0_split_103 : decode cX0_split 103 = .ok (.iinc 11 (-1), 3) := by decide +kernel
theorem dX0_split_106 : decode cX0_split 106 = .ok (.goto (-40), 3) := by decide +kernel
theorem dX0_split_109 : decode cX0_split 109 = .ok (.aload 4, 2) := by decide +kernel
theorem dX0_split_111 : decode cX0_split 111 = .ok (.iload 6, 2) := by decide +kernel
theorem dX0_split_113 : decode cX0_split 113 = .ok (.iload 11, 2) := by decide +kernel
theorem dX0_split_115 : decode cX0_split 115 = .ok (.iastore, 1) := by decide +kernel
theorem dX0_split_116 : decode cX0_split 116 = .ok (.iload 11, 2) := by decide +kernel
theorem dX0_split_118 : decode cX0_split 118 = .ok (.istore 5, 2) := by decide +kernel
theorem dX0_split_120 : decode cX0_split 120 = .ok (.iinc 6 (-1), 3) := by decide +kernel
theorem dX0_split_123 : decode cX0_split 123 = .ok (.goto (-100), 3) := by decide +kernel
theorem dX0_split_126 : decode cX0_split 126 = .ok (.return_, 1) := by decide +kernel
theorem dX0_trace_0 : decode cX0_trace 0 = .ok (.iload_n 2, 1) := by decide +kernel
theorem dX0_trace_1 : decode cX0_trace 1 = .ok (.istore 4, 2) := by decide +kernel
theorem dX0_trace_3 : decode cX0_trace 3 = .ok (.iload 4, 2) := by decide +kernel
theorem dX0_trace_5 : decode cX0_trace 5 = .ok (.iload_n 3, 1) := by decide +kernel
theorem dX0_trace_6 : decode cX0_trace 6 = .ok (.if_icmp .gt 29, 3) := by decide +kernel
theorem dX0_trace_9 : decode cX0_trace 9 = .ok (.aload_n 0, 1) := by decide +kernel
theorem dX0_trace_10 : decode cX0_trace 10 = .ok (.getfield 22, 3) := by decide +kernel
theorem dX0_trace_13 : decode cX0_trace 13 = .ok (.iload 4, 2) := by decide +kernel
theorem dX0_trace_15 : decode cX0_trace 15 = .ok (.iload 4, 2) := by decide +kernel
theorem dX0_trace_17 : decode cX0_trace 17 = .ok (.iload_n 2, 1) := by decide +kernel
theorem dX0_trace_18 : decode cX0_trace 18 = .ok (.if_icmp .ne 7, 3) := by decide +kernel
theorem dX0_trace_21 : decode cX0_trace 21 = .ok (.lconst 0, 1) := by decide +kernel
theorem dX0_trace_22 : decode cX0_trace 22 = .ok (.goto 6, 3) := by decide +kernel
theorem dX0_trace_25 : decode cX0_trace 25 = .ok (.ldc2_w 65, 3) := by decide +kernel
theorem dX0_trace_28 : decode cX0_trace 28 = .ok (.lastore, 1) := by decide +kernel
theorem dX0_trace_29 : decode cX0_trace 29 = .ok (.iinc 4 1, 3) := by decide +kernel
theorem dX0_trace_32 : decode cX0_trace 32 = .ok (.goto (-29), 3) := by decide +kernel
theorem dX0_trace_35 : decode cX0_trace 35 = .ok (.iconst 0, 1) := by decide +kernel
theorem dX0_trace_36 : decode cX0_trace 36 = .ok (.istore 4, 2) := by decide +kernel
theorem dX0_trace_38 : decode cX0_trace 38 = .ok (.iload 4, 2) := by decide +kernel
theorem dX0_trace_40 : decode cX0_trace 40 = .ok (.aload_n 0, 1) := by decide +kernel
theorem dX0_trace_41 : decode cX0_trace 41 = .ok (.getfield 25, 3) := by decide +kernel
theorem dX0_trace_44 : decode cX0_trace 44 = .ok (.getfield 77, 3) := by decide +kernel
theorem dX0_trace_47 : decode cX0_trace 47 = .ok (.iload_n 1, 1) := by decide +kernel
theorem dX0_trace_48 : decode cX0_trace 48 = .ok (.iaload, 1) := by decide +kernel
theorem dX0_trace_49 : decode cX0_trace 49 = .ok (.if_icmp .ge 111, 3) := by decide +kernel
theorem dX0_trace_52 : decode cX0_trace 52 = .ok (.aload_n 0, 1) := by decide +kernel
theorem dX0_trace_53 : decode cX0_trace 53 = .ok (.getfield 25, 3) := by decide +kernel
theorem dX0_trace_56 : decode cX0_trace 56 = .ok (.iload_n 1, 1) := by decide +kernel
theorem dX0_trace_57 : decode cX0_trace 57 = .ok (.iload 4, 2) := by decide +kernel
theorem dX0_trace_59 : decode cX0_trace 59 = .ok (.invokevirtual 81, 3) := by decide +kernel
theorem dX0_trace_62 : decode cX0_trace 62 = .ok (.istore 5, 2) := by decide +kernel
theorem dX0_trace_64 : decode cX0_trace 64 = .ok (.iload 4, 2) := by decide +kernel
theorem dX0_trace_66 : decode cX0_trace 66 = .ok (.bipush 17, 2) := by decide +kernel
theorem dX0_trace_68 : decode cX0_trace 68 = .ok (.imul, 1) := by decide +kernel
theorem dX0_trace_69 : decode cX0_trace 69 = .ok (.istore 6, 2) := by decide +kernel
theorem dX0_trace_71 : decode cX0_trace 71 = .ok (.iload_n 2, 1) := by decide +kernel
theorem dX0_trace_72 : decode cX0_trace 72 = .ok (.istore 7, 2) := by decide +kernel
theorem dX0_trace_74 : decode cX0_trace 74 = .ok (.iload 7, 2) := by decide +kernel
theorem dX0_trace_76 : decode cX0_trace 76 = .ok (.iload_n 3, 1) := by decide +kernel
theorem dX0_trace_77 : decode cX0_trace 77 = .ok (.if_icmp .gt 77, 3) := by decide +kernel
theorem dX0_trace_80 : decode cX0_trace 80 = .ok (.ldc2_w 65, 3) := by decide +kernel
theorem dX0_trace_83 : decode cX0_trace 83 = .ok (.lstore 8, 2) := by decide +kernel
theorem dX0_trace_85 : decode cX0_trace 85 = .ok (.iload_n 2, 1) := by decide +kernel
theorem dX0_trace_86 : decode cX0_trace 86 = .ok (.istore 10, 2) := by decide +kernel
theorem dX0_trace_88 : decode cX0_trace 88 = .ok (.iload 10, 2) := by decide +kernel
theorem dX0_trace_90 : decode cX0_trace 90 = .ok (.iload 7, 2) := by decide +kernel
theorem dX0_trace_92 : decode cX0_trace 92 = .ok (.if_icmp .gt 41, 3) := by decide +kernel
theorem dX0_trace_95 : decode cX0_trace 95 = .ok (.lload 8, 2) := by decide +kernel
theorem dX0_trace_97 : decode cX0_trace 97 = .ok (.aload_n 0, 1) := by decide +kernel
theorem dX0_trace_98 : decode cX0_trace 98 = .ok (.getfield 22, 3) := by decide +kernel
theorem dX0_trace_101 : decode cX0_trace 101 = .ok (.iload 6, 2) := by decide +kernel
theorem dX0_trace_103 : decode cX0_trace 103 = .ok (.iload 10, 2) := by decide +kernel
theorem dX0_trace_105 : decode cX0_trace 105 = .ok (.iadd, 1) := by decide +kernel
theorem dX0_trace_106 : decode cX0_trace 106 = .ok (.laload, 1) := by decide +kernel
theorem dX0_trace_107 : decode cX0_trace 107 = .ok (.aload_n 0, 1) := by decide +kernel
theorem dX0_trace_108 : decode cX0_trace 108 = .ok (.getfield 11, 3) := by decide +kernel
theorem dX0_trace_111 : decode cX0_trace 111 = .ok (.iload 5, 2) := by decide +kernel
theorem dX0_trace_113 : decode cX0_trace 113 = .ok (.iload 10, 2) := by decide +kernel
theorem dX0_trace_115 : decode cX0_trace 115 = .ok (.iload 7, 2) := by decide +kernel
theorem dX0_trace_117 : decode cX0_trace 117 = .ok (.invokestatic 55, 3) := by decide +kernel
theorem dX0_trace_120 : decode cX0_trace 120 = .ok (.laload, 1) := by decide +kernel
theorem dX0_trace_121 : decode cX0_trace 121 = .ok (.ladd, 1) := by decide +kernel
theorem dX0_trace_122 : decode cX0_trace 122 = .ok (.invokestatic 88, 3) := by decide +kernel
theorem dX0_trace_125 : decode cX0_trace 125 = .ok (.lstore 8, 2) := by decide +kernel
theorem dX0_trace_127 : decode cX0_trace 127 = .ok (.iinc 10 1, 3) := by decide +kernel
theorem dX0_trace_130 : decode cX0_trace 130 = .ok (.goto (-42), 3) := by decide +kernel
theorem dX0_trace_133 : decode cX0_trace 133 = .ok (.aload_n 0, 1) := by decide +kernel
theorem dX0_trace_134 : decode cX0_trace 134 = .ok (.getfield 22, 3) := by decide +kernel
theorem dX0_trace_137 : decode cX0_trace 137 = .ok (.iload 6, 2) := by decide +kernel
theorem dX0_trace_139 : decode cX0_trace 139 = .ok (.bipush 17, 2) := by decide +kernel
theorem dX0_trace_141 : decode cX0_trace 141 = .ok (.iadd, 1) := by decide +kernel
theorem dX0_trace_142 : decode cX0_trace 142 = .ok (.iload 7, 2) := by decide +kernel
theorem dX0_trace_144 : decode cX0_trace 144 = .ok (.iadd, 1) := by decide +kernel
theorem dX0_trace_145 : decode cX0_trace 145 = .ok (.lload 8, 2) := by decide +kernel
theorem dX0_trace_147 : decode cX0_trace 147 = .ok (.lastore, 1) := by decide +kernel
theorem dX0_trace_148 : decode cX0_trace 148 = .ok (.iinc 7 1, 3) := by decide +kernel
theorem dX0_trace_151 : decode cX0_trace 151 = .ok (.goto (-77), 3) := by decide +kernel
theorem dX0_trace_154 : decode cX0_trace 154 = .ok (.iinc 4 1, 3) := by decide +kernel
theorem dX0_trace_157 : decode cX0_trace 157 = .ok (.goto (-119), 3) := by decide +kernel
theorem dX0_trace_160 : decode cX0_trace 160 = .ok (.return_, 1) := by decide +kernel
theorem dX1_init_0 : decode cX1_init 0 = .ok (.aload_n 0, 1) := by decide +kernel
theorem dX1_init_1 : decode cX1_init 1 = .ok (.invokespecial 3, 3) := by decide +kernel
theorem dX1_init_4 : decode cX1_init 4 = .ok (.aload_n 0, 1) := by decide +kernel
theorem dX1_init_5 : decode cX1_init 5 = .ok (.bipush 80, 2) := by decide +kernel
theorem dX1_init_7 : decode cX1_init 7 = .ok (.newarray .byte, 2) := by decide +kernel
theorem dX1_init_9 : decode cX1_init 9 = .ok (.putfield 9, 3) := by decide +kernel
theorem dX1_init_12 : decode cX1_init 12 = .ok (.aload_n 0, 1) := by decide +kernel
theorem dX1_init_13 : decode cX1_init 13 = .ok (.iconst 0, 1) := by decide +kernel
theorem dX1_init_14 : decode cX1_init 14 = .ok (.putfield 15, 3) := by decide +kernel
theorem dX1_init_17 : decode cX1_init 17 = .ok (.aload_n 0, 1) := by decide +kernel
theorem dX1_init_18 : decode cX1_init 18 = .ok (.bipush 16, 2) := by decide +kernel
theorem dX1_init_20 : decode cX1_init 20 = .ok (.newarray .int, 2) := by decide +kernel
theorem dX1_init_22 : decode cX1_init 22 = .ok (.putfield 19, 3) := by decide +kernel
theorem dX1_init_25 : decode cX1_init 25 = .ok (.aload_n 0, 1) := by decide +kernel
theorem dX1_init_26 : decode cX1_init 26 = .ok (.bipush 16, 2) := by decide +kernel
theorem dX1_init_28 : decode cX1_init 28 = .ok (.newarray .int, 2) := by decide +kernel
theorem dX1_init_30 : decode cX1_init 30 = .ok (.putfield 23, 3) := by decide +kernel
theorem dX1_init_33 : decode cX1_init 33 = .ok (.aload_n 0, 1) := by decide +kernel
theorem dX1_init_34 : decode cX1_init 34 = .ok (.bipush 16, 2) := by decide +kernel
theorem dX1_init_36 : decode cX1_init 36 = .ok (.newarray .int, 2) := by decide +kernel
theorem dX1_init_38 : decode cX1_init 38 = .ok (.putfield 26, 3) := by decide +kernel
theorem dX1_init_41 : decode cX1_init 41 = .ok (.aload_n 0, 1) := by decide +kernel
theorem dX1_init_42 : decode cX1_init 42 = .ok (.bipush 18, 2) := by decide +kernel
theorem dX1_init_44 : decode cX1_init 44 = .ok (.newarray .int, 2) := by decide +kernel
theorem dX1_init_46 : decode cX1_init 46 = .ok (.putfield 29, 3) := by decide +kernel
theorem dX1_init_49 : decode cX1_init 49 = .ok (.aload_n 0, 1) := by decide +kernel
theorem dX1_init_50 : decode cX1_init 50 = .ok (.bipush 40, 2) := by decide +kernel
theorem dX1_init_52 : decode cX1_init 52 = .ok (.newarray .int, 2) := by decide +kernel
theorem dX1_init_54 : decode cX1_init 54 = .ok (.putfield 32, 3) := by decide +kernel
theorem dX1_init_57 : decode cX1_init 57 = .ok (.aload_n 0, 1) := by decide +kernel
theorem dX1_init_58 : decode cX1_init 58 = .ok (.bipush 40, 2) := by decide +kernel
theorem dX1_init_60 : decode cX1_init 60 = .ok (.newarray .int, 2) := by decide +kernel
theorem dX1_init_62 : decode cX1_init 62 = .ok (.putfield 35, 3) := by decide +kernel
theorem dX1_init_65 : decode cX1_init 65 = .ok (.aload_n 0, 1) := by decide +kernel
theorem dX1_init_66 : decode cX1_init 66 = .ok (.iconst 0, 1) := by decide +kernel
theorem dX1_init_67 : decode cX1_init 67 = .ok (.putfield 38, 3) := by decide +kernel
theorem dX1_init_70 : decode cX1_init 70 = .ok (.aload_n 0, 1) := by decide +kernel
theorem dX1_init_71 : decode cX1_init 71 = .ok (.iconst 0, 1) := by decide +kernel
theorem dX1_init_72 : decode cX1_init 72 = .ok (.putfield 41, 3) := by decide +kernel
theorem dX1_init_75 : decode cX1_init 75 = .ok (.return_, 1) := by decide +kernel
theorem dX1_read_0 : decode cX1_read 0 = .ok (.aload_n 0, 1) := by decide +kernel
theorem dX1_read_1 : decode cX1_read 1 = .ok (.iconst 0, 1) := by decide +kernel
theorem dX1_read_2 : decode cX1_read 2 = .ok (.iload_n 2, 1) := by decide +kernel
theorem dX1_read_3 : decode cX1_read 3 = .ok (.aload_n 1, 1) := by decide +kernel
theorem dX1_read_4 : decode cX1_read 4 = .ok (.arraylength, 1) := by decide +kernel
theorem dX1_read_5 : decode cX1_read 5 = .ok (.bipush 80, 2) := by decide +kernel
theorem dX1_read_7 : decode cX1_read 7 = .ok (.invokestatic 44, 3) := by decide +kernel
theorem dX1_read_10 : decode cX1_read 10 = .ok (.invokestatic 44, 3) := by decide +kernel
theorem dX1_read_13 : decode cX1_read 13 = .ok (.invokestatic 50, 3) := by decide +kernel
theorem dX1_read_16 : decode cX1_read 16 = .ok (.putfield 15, 3) := by decide +kernel
theorem dX1_read_19 : decode cX1_read 19 = .ok (.aload_n 1, 1) := by decide +kernel
theorem dX1_read_20 : decode cX1_read 20 = .ok (.iconst 0, 1) := by decide +kernel
theorem dX1_read_21 : decode cX1_read 21 = .ok (.aload_n 0, 1) := by decide +kernel
theorem dX1_read_22 : decode cX1_read 22 = .ok (.getfield 9, 3) := by decide +kernel
theorem dX1_read_25 : decode cX1_read 25 = .ok (.iconst 0, 1) := by decide +kernel
theorem dX1_read_26 : decode cX1_read 26 = .ok (.aload_n 0, 1) := by decide +kernel
theorem dX1_read_27 : decode cX1_read 27 = .ok (.getfield 15, 3) := by decide +kernel
theorem dX1_read_30 : decode cX1_read 30 = .ok (.invokestatic 53, 3) := by decide +kernel
theorem dX1_read_33 : decode cX1_read 33 = .ok (.aload_n 0, 1) := by decide +kernel
theorem dX1_read_34 : decode cX1_read 34 = .ok (.iconst 0, 1) := by decide +kernel
theorem dX1_read_35 : decode cX1_read 35 = .ok (.putfield 38, 3) := by decide +kernel
theorem dX1_read_38 : decode cX1_read 38 = .ok (.aload_n 0, 1) := by decide +kernel
theorem dX1_read_39 : decode cX1_read 39 = .ok (.iconst 0, 1) := by decide +kernel
theorem dX1_read_40 : decode cX1_read 40 = .ok (.putfield 41, 3) := by decide +kernel
theorem dX1_read_43 : decode cX1_read 43 = .ok (.aload_n 0, 1) := by decide +kernel
theorem dX1_read_44 : decode cX1_read 44 = .ok (.getfield 29, 3) := by decide +kernel
theorem dX1_read_47 : decode cX1_read 47 = .ok (.iconst 0, 1) := by decide +kernel
theorem dX1_read_48 : decode cX1_read 48 = .ok (.iconst 0, 1) := by decide +kernel
theorem dX1_read_49 : decode cX1_read 49 = .ok (.iastore, 1) := by decide +kernel
theorem dX1_read_50 : decode cX1_read 50 = .ok (.iconst 0, 1) := by decide +kernel
theorem dX1_read_51 : decode cX1_read 51 = .ok (.istore_n 3, 1) := by decide +kernel
theorem dX1_read_52 : decode cX1_read 52 = .ok (.iconst 0, 1) := by decide +kernel
theorem dX1_read_53 : decode cX1_read 53 = .ok (.istore 4, 2) := by decide +kernel
theorem dX1_read_55 : decode cX1_read 55 = .ok (.iload 4, 2) := by decide +kernel
theorem dX1_read_57 : decode cX1_read 57 = .ok (.bipush 80, 2) := by decide +kernel
theorem dX1_read_59 : decode cX1_read 59 = .ok (.if_icmp .ge 30, 3) := by decide +kernel
theorem dX1_read_62 : decode cX1_read 62 = .ok (.iload_n 3, 1) := by decide +kernel
theorem dX1_read_63 : decode cX1_read 63 = .ok (.aload_n 0, 1) := by decide +kernel
theorem dX1_read_64 : decode cX1_read 64 = .ok (.getfield 15, 3) := by decide +kernel
theorem dX1_read_67 : decode cX1_read 67 = .ok (.if_icmp .ge 22, 3) := by decide +kernel
theorem dX1_read_70 : decode cX1_read 70 = .ok (.aload_n 0, 1) := by decide +kernel
theorem dX1_read_71 : decode cX1_read 71 = .ok (.iload_n 3, 1) := by decide +kernel
theorem dX1_read_72 : decode cX1_read 72 = .ok (.invokevirtual 59, 3) := by decide +kernel
theorem dX1_read_75 : decode cX1_read 75 = .ok (.istore_n 3, 1) := by decide +kernel
theorem dX1_read_76 : decode cX1_read 76 = .ok (.iload_n 3, 1) := by decide +kernel
theorem dX1_read_77 : decode cX1_read 77 = .ok (.iconst (-1), 1) := by decide +kernel
theorem dX1_read_78 : decode cX1_read 78 = .ok (.if_icmp .ne 5, 3) := by decide +kernel
theorem dX1_read_81 : decode cX1_read 81 = .ok (.iconst 0, 1) := by decide +kernel
theorem dX1_read_82 : decode cX1_read 82 = .ok (.ireturn, 1) := by decide +kernel
theorem dX1_read_83 : decode cX1_read 83 = .ok (.iinc 4 1, 3) := by decide +kernel
theorem dX1_read_86 : decode cX1_read 86 = .ok (.goto (-31), 3) := by decide +kernel
theorem dX1_read_89 : decode cX1_read 89 = .ok (.aload_n 0, 1) := by decide +kernel
theorem dX1_read_90 : decode cX1_read 90 = .ok (.getfield 29, 3) := by decide +kernel
theorem dX1_read_93 : decode cX1_read 93 = .ok (.aload_n 0, 1) := by decide +kernel
theorem dX1_read_94 : decode cX1_read 94 = .ok (.getfield 38, 3) := by decide +kernel
theorem dX1_read_97 : decode cX1_read 97 = .ok (.iconst 1, 1) := by decide +kernel
theorem dX1_read_98 : decode cX1_read 98 = .ok (.iadd, 1) := by decide +kernel
theorem dX1_read_99 : decode cX1_read 99 = .ok (.aload_n 0, 1) := by decide +kernel
theorem dX1_read_100 : decode cX1_read 100 = .ok (.getfield 41, 3) := by decide +kernel
theorem dX1_read_103 : decode cX1_read 103 = .ok (.iastore, 1) := by decide +kernel
theorem dX1_read_104 : decode cX1_read 104 = .ok (.iconst 1, 1) := by decide +kernel
theorem dX1_read_105 : decode cX1_read 105 = .ok (.ireturn, 1) := by decide +kernel
theorem dX1_take_0 : decode cX1_take 0 = .ok (.aload_n 0, 1) := by decide +kernel
theorem dX1_take_1 : decode cX1_take 1 = .ok (.getfield 9, 3) := by decide +kernel
theorem dX1_take_4 : decode cX1_take 4 = .ok (.iload_n 1, 1) := by decide +kernel
theorem dX1_take_5 : decode cX1_take 5 = .ok (.baload, 1) := by decide +kernel
theorem dX1_take_6 : decode cX1_take 6 = .ok (.istore_n 2, 1) := by decide +kernel
theorem dX1_take_7 : decode cX1_take 7 = .ok (.iload_n 2, 1) := by decide +kernel
theorem dX1_take_8 : decode cX1_take 8 = .ok (.bipush 32, 2) := by decide +kernel
theorem dX1_take_10 : decode cX1_take 10 = .ok (.if_icmp .eq 9, 3) := by decide +kernel
theorem dX1_take_13 : decode cX1_take 13 = .ok (.iload_n 2, 1) := by decide +kernel
theorem dX1_take_14 : decode cX1_take 14 = .ok (.bipush 10, 2) := by decide +kernel
theorem dX1_take_16 : decode cX1_take 16 = .ok (.if_icmp .ne 7, 3) := by decide +kernel
theorem dX1_take_19 : decode cX1_take 19 = .ok (.iload_n 1, 1) := by decide +kernel
theorem dX1_take_20 : decode cX1_take 20 = .ok (.iconst 1, 1) := by decide +kernel
theorem dX1_take_21 : decode cX1_take 21 = .ok (.iadd, 1) := by decide +kernel
theorem dX1_take_22 : decode cX1_take 22 = .ok (.ireturn, 1) := by decide +kernel
theorem dX1_take_23 : decode cX1_take 23 = .ok (.iload_n 2, 1) := by decide +kernel
theorem dX1_take_24 : decode cX1_take 24 = .ok (.bipush 123, 2) := by decide +kernel
theorem dX1_take_26 : decode cX1_take 26 = .ok (.if_icmp .ne 11, 3) := by decide +kernel
theorem dX1_take_29 : decode cX1_take 29 = .ok (.aload_n 0, 1) := by decide +kernel
theorem dX1_take_30 : decode cX1_take 30 = .ok (.iload_n 1, 1) := by decide +kernel
theorem dX1_take_31 : decode cX1_take 31 = .ok (.invokevirtual 63, 3) := by decide +kernel
theorem dX1_take_34 : decode cX1_take 34 = .ok (.goto 4, 3) := by decide +kernel
theorem dX1_take_37 : decode cX1_take 37 = .ok (.iconst (-1), 1) := by decide +kernel
theorem dX1_take_38 : decode cX1_take 38 = .ok (.istore_n 3, 1) := by decide +kernel
theorem dX1_take_39 : decode cX1_take 39 = .ok (.iload_n 3, 1) := by decide +kernel
theorem dX1_take_40 : decode cX1_take 40 = .ok (.iconst (-1), 1) := by decide +kernel
theorem dX1_take_41 : decode cX1_take 41 = .ok (.if_icmp .eq 12, 3) := by decide +kernel
theorem dX1_take_44 : decode cX1_take 44 = .ok (.aload_n 0, 1) := by decide +kernel
theorem dX1_take_45 : decode cX1_take 45 = .ok (.iload_n 1, 1) := by decide +kernel
theorem dX1_take_46 : decode cX1_take 46 = .ok (.iload_n 3, 1) := by decide +kernel
theorem dX1_take_47 : decode cX1_take 47 = .ok (.iconst 1, 1) := by decide +kernel
theorem dX1_take_48 : decode cX1_take 48 = .ok (.iadd, 1) := by decide +kernel
theorem dX1_take_49 : decode cX1_take 49 = .ok (.invokevirtual 66, 3) := by decide +kernel
theorem dX1_take_52 : decode cX1_take 52 = .ok (.ireturn, 1) := by decide +kernel
theorem dX1_take_53 : decode cX1_take 53 = .ok (.aload_n 0, 1) := by decide +kernel
theorem dX1_take_54 : decode cX1_take 54 = .ok (.getfield 38, 3) := by decide +kernel
theorem dX1_take_57 : decode cX1_take 57 = .ok (.bipush 16, 2) := by decide +kernel
theorem dX1_take_59 : decode cX1_take 59 = .ok (.if_icmp .lt 5, 3) := by decide +kernel
theorem dX1_take_62 : decode cX1_take 62 = .ok (.iconst (-1), 1) := by decide +kernel
theorem dX1_take_63 : decode cX1_take 63 = .ok (.ireturn, 1) := by decide +kernel
theorem dX1_take_64 : decode cX1_take 64 = .ok (.iload_n 2, 1) := by decide +kernel
theorem dX1_take_65 : decode cX1_take 65 = .ok (.bipush 97, 2) := by decide +kernel
theorem dX1_take_67 : decode cX1_take 67 = .ok (.if_icmp .lt 13, 3) := by decide +kernel
theorem dX1_take_70 : decode cX1_take 70 = .ok (.iload_n 2, 1) := by decide +kernel
theorem dX1_take_71 : decode cX1_take 71 = .ok (.bipush 105, 2) := by decide +kernel
theorem dX1_take_73 : decode cX1_take 73 = .ok (.if_icmp .ge 7, 3) := by decide +kernel
theorem dX1_take_76 : decode cX1_take 76 = .ok (.iconst 1, 1) := by decide +kernel
theorem dX1_take_77 : decode cX1_take 77 = .ok (.goto 4, 3) := by decide +kernel
theorem dX1_take_80 : decode cX1_take 80 = .ok (.iconst 0, 1) := by decide +kernel
theorem dX1_take_81 : decode cX1_take 81 = .ok (.istore 4, 2) := by decide +kernel
theorem dX1_take_83 : decode cX1_take 83 = .ok (.iload 4, 2) := by decide +kernel
theorem dX1_take_85 : decode cX1_take 85 = .ok (.ifCond .eq 13, 3) := by decide +kernel
theorem dX1_take_88 : decode cX1_take 88 = .ok (.aload_n 0, 1) := by decide +kernel
theorem dX1_take_89 : decode cX1_take 89 = .ok (.iload_n 1, 1) := by decide +kernel
theorem dX1_take_90 : decode cX1_take 90 = .ok (.iconst 1, 1) := by decide +kernel
theorem dX1_take_91 : decode cX1_take 91 = .ok (.iadd, 1) := by decide +kernel
theorem dX1_take_92 : decode cX1_take 92 = .ok (.invokevirtual 69, 3) := by decide +kernel
theorem dX1_take_95 : decode cX1_take 95 = .ok (.goto 6, 3) := by decide +kernel
theorem dX1_take_98 : decode cX1_take 98 = .ok (.iload_n 1, 1) := by decide +kernel
theorem dX1_take_99 : decode cX1_take 99 = .ok (.iconst 1, 1) := by decide +kernel
theorem dX1_take_100 : decode cX1_take 100 = .ok (.iadd, 1) := by decide +kernel
theorem dX1_take_101 : decode cX1_take 101 = .ok (.istore 5, 2) := by decide +kernel
theorem dX1_take_103 : decode cX1_take 103 = .ok (.aload_n 0, 1) := by decide +kernel
theorem dX1_take_104 : decode cX1_take 104 = .ok (.getfield 19, 3) := by decide +kernel
theorem dX1_take_107 : decode cX1_take 107 = .ok (.aload_n 0, 1) := by decide +kernel
theorem dX1_take_108 : decode cX1_take 108 = .ok (.getfield 38, 3) := by decide +kernel
theorem dX1_take_111 : decode cX1_take 111 = .ok (.iload_n 1, 1) := by decide +kernel
theorem dX1_take_112 : decode cX1_take 112 = .ok (.iastore, 1) := by decide +kernel
theorem dX1_take_113 : decode cX1_take 113 = .ok (.aload_n 0, 1) := by decide +kernel
theorem dX1_take_114 : decode cX1_take 114 = .ok (.getfield 23, 3) := by decide +kernel
theorem dX1_take_117 : decode cX1_take 117 = .ok (.aload_n 0, 1) := by decide +kernel
theorem dX1_take_118 : decode cX1_take 118 = .ok (.getfield 38, 3) := by decide +kernel
theorem dX1_take_121 : decode cX1_take 121 = .ok (.iload 5, 2) := by decide +kernel
theorem dX1_take_123 : decode cX1_take 123 = .ok (.iload_n 1, 1) := by decide +kernel
theorem dX1_take_124 : decode cX1_take 124 = .ok (.isub, 1) := by decide +kernel
theorem dX1_take_125 : decode cX1_take 125 = .ok (.iastore, 1) := by decide +kernel
theorem dX1_take_126 : decode cX1_take 126 = .ok (.aload_n 0, 1) := by decide +kernel
theorem dX1_take_127 : decode cX1_take 127 = .ok (.getfield 26, 3) := by decide +kernel
theorem dX1_take_130 : decode cX1_take 130 = .ok (.aload_n 0, 1) := by decide +kernel
theorem dX1_take_131 : decode cX1_take 131 = .ok (.getfield 38, 3) := by decide +kernel
theorem dX1_take_134 : decode cX1_take 134 = .ok (.iload 4, 2) := by decide +kernel
theorem dX1_take_136 : decode cX1_take 136 = .ok (.ifCond .eq 12, 3) := by decide +kernel
theorem dX1_take_139 : decode cX1_take 139 = .ok (.iload_n 2, 1) := by decide +kernel
theorem dX1_take_140 : decode cX1_take 140 = .ok (.bipush 97, 2) := by decide +kernel
theorem dX1_take_142 : decode cX1_take 142 = .ok (.isub, 1) := by decide +kernel
theorem dX1_take_143 : decode cX1_take 143 = .ok (.iconst 1, 1) := by decide +kernel
theorem dX1_take_144 : decode cX1_take 144 = .ok (.iadd, 1) := by decide +kernel
theorem dX1_take_145 : decode cX1_take 145 = .ok (.goto 4, 3) := by decide +kernel
theorem dX1_take_148 : decode cX1_take 148 = .ok (.iconst 0, 1) := by decide +kernel
theorem dX1_take_149 : decode cX1_take 149 = .ok (.iastore, 1) := by decide +kernel
theorem dX1_take_150 : decode cX1_take 150 = .ok (.aload_n 0, 1) := by decide +kernel
theorem dX1_take_151 : decode cX1_take 151 = .ok (.dup, 1) := by decide +kernel
theorem dX1_take_152 : decode cX1_take 152 = .ok (.getfield 38, 3) := by decide +kernel
theorem dX1_take_155 : decode cX1_take 155 = .ok (.iconst 1, 1) := by decide +kernel
theorem dX1_take_156 : decode cX1_take 156 = .ok (.iadd, 1) := by decide +kernel
theorem dX1_take_157 : decode cX1_take 157 = .ok (.putfield 38, 3) := by decide +kernel
theorem dX1_take_160 : decode cX1_take 160 = .ok (.aload_n 0, 1) := by decide +kernel
theorem dX1_take_161 : decode cX1_take 161 = .ok (.getfield 29, 3) := by decide +kernel
theorem dX1_take_164 : decode cX1_take 164 = .ok (.aload_n 0, 1) := by decide +kernel
theorem dX1_take_165 : decode cX1_take 165 = .ok (.getfield 38, 3) := by decide +kernel
theorem dX1_take_168 : decode cX1_take 168 = .ok (.aload_n 0, 1) := by decide +kernel
theorem dX1_take_169 : decode cX1_take 169 = .ok (.getfield 41, 3) := by decide +kernel
theorem dX1_take_172 : decode cX1_take 172 = .ok (.iastore, 1) := by decide +kernel
theorem dX1_take_173 : decode cX1_take 173 = .ok (.iload 5, 2) := by decide +kernel
theorem dX1_take_175 : decode cX1_take 175 = .ok (.ireturn, 1) := by decide +kernel
theorem dX1_takeComment_0 : decode cX1_takeComment 0 = .ok (.aload_n 0, 1) := by decide +kernel
theorem dX1_takeComment_1 : decode cX1_takeComment 1 = .ok (.getfield 41, 3) := by decide +kernel
theorem dX1_takeComment_4 : decode cX1_takeComment 4 = .ok (.bipush 40, 2) := by decide +kernel
theorem dX1_takeComment_6 : decode cX1_takeComment 6 = .ok (.if_icmp .ge 33, 3) := by decide +kernel
theorem dX1_takeComment_9 : decode cX1_takeComment 9 = .ok (.aload_n 0, 1) := by decide +kernel
theorem dX1_takeComment_10 : decode cX1_takeComment 10 = .ok (.getfield 32, 3) := by decide +kernel
theorem dX1_takeComment_13 : decode cX1_takeComment 13 = .ok (.aload_n 0, 1) := by decide +kernel
theorem dX1_takeComment_14 : decode cX1_takeComment 14 = .ok (.getfield 41, 3) := by decide +kernel
theorem dX1_takeComment_17 : decode cX1_takeComment 17 = .ok (.iload_n 1, 1) := by decide +kernel
theorem dX1_takeComment_18 : decode cX1_takeComment 18 = .ok (.iastore, 1) := by decide +kernel
theorem dX1_takeComment_19 : decode cX1_takeComment 19 = .ok (.aload_n 0, 1) := by decide +kernel
theorem dX1_takeComment_20 : decode cX1_takeComment 20 = .ok (.getfield 35, 3) := by decide +kernel
theorem dX1_takeComment_23 : decode cX1_takeComment 23 = .ok (.aload_n 0, 1) := by decide +kernel
theorem dX1_takeComment_24 : decode cX1_takeComment 24 = .ok (.getfield 41, 3) := by decide +kernel
theorem dX1_takeComment_27 : decode cX1_takeComment 27 = .ok (.iload_n 2, 1) := by decide +kernel
theorem dX1_takeComment_28 : decode cX1_takeComment 28 = .ok (.iastore, 1) := by decide +kernel
theorem dX1_takeComment_29 : decode cX1_takeComment 29 = .ok (.aload_n 0, 1) := by decide +kernel
theorem dX1_takeComment_30 : decode cX1_takeComment 30 = .ok (.dup, 1) := by decide +kernel
theorem dX1_takeComment_31 : decode cX1_takeComment 31 = .ok (.getfield 41, 3) := by decide +kernel
theorem dX1_takeComment_34 : decode cX1_takeComment 34 = .ok (.iconst 1, 1) := by decide +kernel
theorem dX1_takeComment_35 : decode cX1_takeComment 35 = .ok (.iadd, 1) := by decide +kernel
theorem dX1_takeComment_36 : decode cX1_takeComment 36 = .ok (.putfield 41, 3) := by decide +kernel
theorem dX1_takeComment_39 : decode cX1_takeComment 39 = .ok (.iload_n 2, 1) := by decide +kernel
theorem dX1_takeComment_40 : decode cX1_takeComment 40 = .ok (.ireturn, 1) := by decide +kernel
theorem dX1_closing_0 : decode cX1_closing 0 = .ok (.iload_n 1, 1) := by decide +kernel
theorem dX1_closing_1 : decode cX1_closing 1 = .ok (.iconst 1, 1) := by decide +kernel
theorem dX1_closing_2 : decode cX1_closing 2 = .ok (.iadd, 1) := by decide +kernel
theorem dX1_closing_3 : decode cX1_closing 3 = .ok (.istore_n 2, 1) := by decide +kernel
theorem dX1_closing_4 : decode cX1_closing 4 = .ok (.iload_n 2, 1) := by decide +kernel
theorem dX1_closing_5 : decode cX1_closing 5 = .ok (.aload_n 0, 1) := by decide +kernel
theorem dX1_closing_6 : decode cX1_closing 6 = .ok (.getfield 15, 3) := by decide +kernel
theorem dX1_closing_9 : decode cX1_closing 9 = .ok (.if_icmp .ge 22, 3) := by decide +kernel
theorem dX1_closing_12 : decode cX1_closing 12 = .ok (.aload_n 0, 1) := by decide +kernel
theorem dX1_closing_13 : decode cX1_closing 13 = .ok (.getfield 9, 3) := by decide +kernel
theorem dX1_closing_16 : decode cX1_closing 16 = .ok (.iload_n 2, 1) := by decide +kernel
theorem dX1_closing_17 : decode cX1_closing 17 = .ok (.baload, 1) := by decide +kernel
theorem dX1_closing_18 : decode cX1_closing 18 = .ok (.bipush 125, 2) := by decide +kernel
theorem dX1_closing_20 : decode cX1_closing 20 = .ok (.if_icmp .ne 5, 3) := by decide +kernel
theorem dX1_closing_23 : decode cX1_closing 23 = .ok (.iload_n 2, 1) := by decide +kernel
theorem dX1_closing_24 : decode cX1_closing 24 = .ok (.ireturn, 1) := by decide +kernel
theorem dX1_closing_25 : decode cX1_closing 25 = .ok (.iinc 2 1, 3) := by decide +kernel
theorem dX1_closing_28 : decode cX1_closing 28 = .ok (.goto (-24), 3) := by decide +kernel
theorem dX1_closing_31 : decode cX1_closing 31 = .ok (.iconst (-1), 1) := by decide +kernel
theorem dX1_closing_32 : decode cX1_closing 32 = .ok (.ireturn, 1) := by decide +kernel
theorem dX1_behindDigits_0 : decode cX1_behindDigits 0 = .ok (.iload_n 1, 1) := by decide +kernel
theorem dX1_behindDigits_1 : decode cX1_behindDigits 1 = .ok (.istore_n 2, 1) := by decide +kernel
theorem dX1_behindDigits_2 : decode cX1_behindDigits 2 = .ok (.iload_n 2, 1) := by decide +kernel
theorem dX1_behindDigits_3 : decode cX1_behindDigits 3 = .ok (.aload_n 0, 1) := by decide +kernel
theorem dX1_behindDigits_4 : decode cX1_behindDigits 4 = .ok (.getfield 15, 3) := by decide +kernel
theorem dX1_behindDigits_7 : decode cX1_behindDigits 7 = .ok (.if_icmp .ge 21, 3) := by decide +kernel
theorem dX1_behindDigits_10 : decode cX1_behindDigits 10 = .ok (.aload_n 0, 1) := by decide +kernel
theorem dX1_behindDigits_11 : decode cX1_behindDigits 11 = .ok (.getfield 9, 3) := by decide +kernel
theorem dX1_behindDigits_14 : decode cX1_behindDigits 14 = .ok (.iload_n 2, 1) := by decide +kernel
theorem dX1_behindDigits_15 : decode cX1_behindDigits 15 = .ok (.baload, 1) := by decide +kernel
theorem dX1_behindDigits_16 : decode cX1_behindDigits 16 = .ok (.invokestatic 72, 3) := by decide +kernel
theorem dX1_behindDigits_19 : decode cX1_behindDigits 19 = .ok (.ifCond .eq 9, 3) := by decide +kernel
theorem dX1_behindDigits_22 : decode cX1_behindDigits 22 = .ok (.iinc 2 1, 3) := by decide +kernel
theorem dX1_behindDigits_25 : decode cX1_behindDigits 25 = .ok (.goto (-23), 3) := by decide +kernel
theorem dX1_behindDigits_28 : decode cX1_behindDigits 28 = .ok (.iload_n 2, 1) := by decide +kernel
theorem dX1_behindDigits_29 : decode cX1_behindDigits 29 = .ok (.ireturn, 1) := by decide +kernel
theorem dX1_signOf_0 : decode cX1_signOf 0 = .ok (.iload_n 1, 1) := by decide +kernel
theorem dX1_signOf_1 : decode cX1_signOf 1 = .ok (.ifCond .lt 20, 3) := by decide +kernel
theorem dX1_signOf_4 : decode cX1_signOf 4 = .ok (.iload_n 1, 1) := by decide +kernel
theorem dX1_signOf_5 : decode cX1_signOf 5 = .ok (.aload_n 0, 1) := by decide +kernel
theorem dX1_signOf_6 : decode cX1_signOf 6 = .ok (.getfield 38, 3) := by decide +kernel
theorem dX1_signOf_9 : decode cX1_signOf 9 = .ok (.if_icmp .ge 12, 3) := by decide +kernel
theorem dX1_signOf_12 : decode cX1_signOf 12 = .ok (.aload_n 0, 1) := by decide +kernel
theorem dX1_signOf_13 : decode cX1_signOf 13 = .ok (.getfield 26, 3) := by decide +kernel
theorem dX1_signOf_16 : decode cX1_signOf 16 = .ok (.iload_n 1, 1) := by decide +kernel
theorem dX1_signOf_17 : decode cX1_signOf 17 = .ok (.iaload, 1) := by decide +kernel
theorem dX1_signOf_18 : decode cX1_signOf 18 = .ok (.goto 4, 3) := by decide +kernel
theorem dX1_signOf_21 : decode cX1_signOf 21 = .ok (.iconst 0, 1) := by decide +kernel
theorem dX1_signOf_22 : decode cX1_signOf 22 = .ok (.ireturn, 1) := by decide +kernel
theorem dX1_lengthOf_0 : decode cX1_lengthOf 0 = .ok (.iload_n 1, 1) := by decide +kernel
theorem dX1_lengthOf_1 : decode cX1_lengthOf 1 = .ok (.ifCond .lt 20, 3) := by decide +kernel
theorem dX1_lengthOf_4 : decode cX1_lengthOf 4 = .ok (.iload_n 1, 1) := by decide +kernel
theorem dX1_lengthOf_5 : decode cX1_lengthOf 5 = .ok (.aload_n 0, 1) := by decide +kernel
theorem dX1_lengthOf_6 : decode cX1_lengthOf 6 = .ok (.getfield 38, 3) := by decide +kernel
theorem dX1_lengthOf_9 : decode cX1_lengthOf 9 = .ok (.if_icmp .ge 12, 3) := by decide +kernel
theorem dX1_lengthOf_12 : decode cX1_lengthOf 12 = .ok (.aload_n 0, 1) := by decide +kernel
theorem dX1_lengthOf_13 : decode cX1_lengthOf 13 = .ok (.getfield 23, 3) := by decide +kernel
theorem dX1_lengthOf_16 : decode cX1_lengthOf 16 = .ok (.iload_n 1, 1) := by decide +kernel
theorem dX1_lengthOf_17 : decode cX1_lengthOf 17 = .ok (.iaload, 1) := by decide +kernel
theorem dX1_lengthOf_18 : decode cX1_lengthOf 18 = .ok (.goto 4, 3) := by decide +kernel
theorem dX1_lengthOf_21 : decode cX1_lengthOf 21 = .ok (.iconst 0, 1) := by decide +kernel
theorem dX1_lengthOf_22 : decode cX1_lengthOf 22 = .ok (.ireturn, 1) := by decide +kernel
theorem dX1_commentsOf_0 : decode cX1_commentsOf 0 = .ok (.iload_n 1, 1) := by decide +kernel
theorem dX1_commentsOf_1 : decode cX1_commentsOf 1 = .ok (.ifCond .lt 29, 3) := by decide +kernel
theorem dX1_commentsOf_4 : decode cX1_commentsOf 4 = .ok (.iload_n 1, 1) := by decide +kernel
theorem dX1_commentsOf_5 : decode cX1_commentsOf 5 = .ok (.aload_n 0, 1) := by decide +kernel
theorem dX1_commentsOf_6 : decode cX1_commentsOf 6 = .ok (.getfield 38, 3) := by decide +kernel
theorem dX1_commentsOf_9 : decode cX1_commentsOf 9 = .ok (.if_icmp .gt 21, 3) := by decide +kernel
theorem dX1_commentsOf_12 : decode cX1_commentsOf 12 = .ok (.aload_n 0, 1) := by decide +kernel
theorem dX1_commentsOf_13 : decode cX1_commentsOf 13 = .ok (.getfield 29, 3) := by decide +kernel
theorem dX1_commentsOf_16 : decode cX1_commentsOf 16 = .ok (.iload_n 1, 1) := by decide +kernel
theorem dX1_commentsOf_17 : decode cX1_commentsOf 17 = .ok (.iconst 1, 1) := by decide +kernel
theorem dX1_commentsOf_18 : decode cX1_commentsOf 18 = .ok (.iadd, 1) := by decide +kernel
theorem dX1_commentsOf_19 : decode cX1_commentsOf 19 = .ok (.iaload, 1) := by decide +kernel
theorem dX1_commentsOf_20 : decode cX1_commentsOf 20 = .ok (.aload_n 0, 1) := by decide +kernel
theorem dX1_commentsOf_21 : decode cX1_commentsOf 21 = .ok (.getfield 29, 3) := by decide +kernel
theorem dX1_commentsOf_24 : decode cX1_commentsOf 24 = .ok (.iload_n 1, 1) := by decide +kernel
theorem dX1_commentsOf_25 : decode cX1_commentsOf 25 = .ok (.iaload, 1) := by decide +kernel
theorem dX1_commentsOf_26 : decode cX1_commentsOf 26 = .ok (.isub, 1) := by decide +kernel
theorem dX1_commentsOf_27 : decode cX1_commentsOf 27 = .ok (.goto 4, 3) := by decide +kernel
theorem dX1_commentsOf_30 : decode cX1_commentsOf 30 = .ok (.iconst 0, 1) := by decide +kernel
theorem dX1_commentsOf_31 : decode cX1_commentsOf 31 = .ok (.ireturn, 1) := by decide +kernel
theorem dX1_beginsWithDigit_0 : decode cX1_beginsWithDigit 0 = .ok (.iload_n 1, 1) := by decide +kernel
theorem dX1_beginsWithDigit_1 : decode cX1_beginsWithDigit 1 = .ok (.ifCond .lt 40, 3) := by decide +kernel
theorem dX1_beginsWithDigit_4 : decode cX1_beginsWithDigit 4 = .ok (.iload_n 1, 1) := by decide +kernel
theorem dX1_beginsWithDigit_5 : decode cX1_beginsWithDigit 5 = .ok (.aload_n 0, 1) := by decide +kernel
theorem dX1_beginsWithDigit_6 : decode cX1_beginsWithDigit 6 = .ok (.getfield 38, 3) := by decide +kernel
theorem dX1_beginsWithDigit_9 : decode cX1_beginsWithDigit 9 = .ok (.if_icmp .ge 32, 3) := by decide +kernel
theorem dX1_beginsWithDigit_12 : decode cX1_beginsWithDigit 12 = .ok (.aload_n 0, 1) := by decide +kernel
theorem dX1_beginsWithDigit_13 : decode cX1_beginsWithDigit 13 = .ok (.iload_n 1, 1) := by decide +kernel
theorem dX1_beginsWithDigit_14 : decode cX1_beginsWithDigit 14 = .ok (.invokevirtual 76, 3) := by decide +kernel
theorem dX1_beginsWithDigit_17 : decode cX1_beginsWithDigit 17 = .ok (.ifCond .ne 24, 3) := by decide +kernel
theorem dX1_beginsWithDigit_20 : decode cX1_beginsWithDigit 20 = .ok (.aload_n 0, 1) := by decide +kernel
theorem dX1_beginsWithDigit_21 : decode cX1_beginsWithDigit 21 = .ok (.getfield 9, 3) := by decide +kernel
theorem dX1_beginsWithDigit_24 : decode cX1_beginsWithDigit 24 = .ok (.aload_n 0, 1) := by decide +kernel
theorem dX1_beginsWithDigit_25 : decode cX1_beginsWithDigit 25 = .ok (.getfield 19, 3) := by decide +kernel
theorem dX1_beginsWithDigit_28 : decode cX1_beginsWithDigit 28 = .ok (.iload_n 1, 1) := by decide +kernel
theorem dX1_beginsWithDigit_29 : decode cX1_beginsWithDigit 29 = .ok (.iaload, 1) := by decide +kernel
theorem dX1_beginsWithDigit_30 : decode cX1_beginsWithDigit 30 = .ok (.baload, 1) := by decide +kernel
theorem dX1_beginsWithDigit_31 : decode cX1_beginsWithDigit 31 = .ok (.invokestatic 72, 3) := by decide +kernel
theorem dX1_beginsWithDigit_34 : decode cX1_beginsWithDigit 34 = .ok (.ifCond .eq 7, 3) := by decide +kernel
theorem dX1_beginsWithDigit_37 : decode cX1_beginsWithDigit 37 = .ok (.iconst 1, 1) := by decide +kernel
theorem dX1_beginsWithDigit_38 : decode cX1_beginsWithDigit 38 = .ok (.goto 4, 3) := by decide +kernel
theorem dX1_beginsWithDigit_41 : decode cX1_beginsWithDigit 41 = .ok (.iconst 0, 1) := by decide +kernel
theorem dX1_beginsWithDigit_42 : decode cX1_beginsWithDigit 42 = .ok (.ireturn, 1) := by decide +kernel
theorem dX1_widthOf_0 : decode cX1_widthOf 0 = .ok (.aload_n 0, 1) := by decide +kernel
theorem dX1_widthOf_1 : decode cX1_widthOf 1 = .ok (.iload_n 1, 1) := by decide +kernel
theorem dX1_widthOf_2 : decode cX1_widthOf 2 = .ok (.invokevirtual 79, 3) := by decide +kernel
theorem dX1_widthOf_5 : decode cX1_widthOf 5 = .ok (.istore_n 2, 1) := by decide +kernel
theorem dX1_widthOf_6 : decode cX1_widthOf 6 = .ok (.aload_n 0, 1) := by decide +kernel
theorem dX1_widthOf_7 : decode cX1_widthOf 7 = .ok (.getfield 29, 3) := by decide +kernel
theorem dX1_widthOf_10 : decode cX1_widthOf 10 = .ok (.iload_n 1, 1) := by decide +kernel
theorem dX1_widthOf_11 : decode cX1_widthOf 11 = .ok (.iaload, 1) := by decide +kernel
theorem dX1_widthOf_12 : decode cX1_widthOf 12 = .ok (.aload_n 0, 1) := by decide +kernel
theorem dX1_widthOf_13 : decode cX1_widthOf 13 = .ok (.iload_n 1, 1) := by decide +kernel
theorem dX1_widthOf_14 : decode cX1_widthOf 14 = .ok (.invokevirtual 76, 3) := by decide +kernel
theorem dX1_widthOf_17 : decode cX1_widthOf 17 = .ok (.iadd, 1) := by decide +kernel
theorem dX1_widthOf_18 : decode cX1_widthOf 18 = .ok (.istore_n 3, 1) := by decide +kernel
theorem dX1_widthOf_19 : decode cX1_widthOf 19 = .ok (.aload_n 0, 1) := by decide +kernel
theorem dX1_widthOf_20 : decode cX1_widthOf 20 = .ok (.getfield 29, 3) := by decide +kernel
theorem dX1_widthOf_23 : decode cX1_widthOf 23 = .ok (.iload_n 1, 1) := by decide +kernel
theorem dX1_widthOf_24 : decode cX1_widthOf 24 = .ok (.iaload, 1) := by decide +kernel
theorem dX1_widthOf_25 : decode cX1_widthOf 25 = .ok (.istore 4, 2) := by decide +kernel
theorem dX1_widthOf_27 : decode cX1_widthOf 27 = .ok (.iload 4, 2) := by decide +kernel
theorem dX1_widthOf_29 : decode cX1_widthOf 29 = .ok (.iload_n 3, 1) := by decide +kernel
theorem dX1_widthOf_30 : decode cX1_widthOf 30 = .ok (.if_icmp .ge 29, 3) := by decide +kernel
theorem dX1_widthOf_33 : decode cX1_widthOf 33 = .ok (.iload_n 2, 1) := by decide +kernel
theorem dX1_widthOf_34 : decode cX1_widthOf 34 = .ok (.aload_n 0, 1) := by decide +kernel
theorem dX1_widthOf_35 : decode cX1_widthOf 35 = .ok (.getfield 35, 3) := by decide +kernel
theorem dX1_widthOf_38 : decode cX1_widthOf 38 = .ok (.iload 4, 2) := by decide +kernel
theorem dX1_widthOf_40 : decode cX1_widthOf 40 = .ok (.iaload, 1) := by decide +kernel
theorem dX1_widthOf_41 : decode cX1_widthOf 41 = .ok (.aload_n 0, 1) := by decide +kernel
theorem dX1_widthOf_42 : decode cX1_widthOf 42 = .ok (.getfield 32, 3) := by decide +kernel
theorem dX1_widthOf_45 : decode cX1_widthOf 45 = .ok (.iload 4, 2) := by decide +kernel
theorem dX1_widthOf_47 : decode cX1_widthOf 47 = .ok (.iaload, 1) := by decide +kernel
theorem dX1_widthOf_48 : decode cX1_widthOf 48 = .ok (.isub, 1) := by decide +kernel
theorem dX1_widthOf_49 : decode cX1_widthOf 49 = .ok (.iconst 1, 1) := by decide +kernel
theorem dX1_widthOf_50 : decode cX1_widthOf 50 = .ok (.iadd, 1) := by decide +kernel
theorem dX1_widthOf_51 : decode cX1_widthOf 51 = .ok (.iadd, 1) := by decide +kernel
theorem dX1_widthOf_52 : decode cX1_widthOf 52 = .ok (.istore_n 2, 1) := by decide +kernel
theorem dX1_widthOf_53 : decode cX1_widthOf 53 = .ok (.iinc 4 1, 3) := by decide +kernel
theorem dX1_widthOf_56 : decode cX1_widthOf 56 = .ok (.goto (-29), 3) := by decide +kernel
theorem dX1_widthOf_59 : decode cX1_widthOf 59 = .ok (.iload_n 2, 1) := by decide +kernel
theorem dX1_widthOf_60 : decode cX1_widthOf 60 = .ok (.ireturn, 1) := by decide +kernel
theorem dX2_init_0 : decode cX2_init 0 = .ok (.aload_n 0, 1) := by decide +kernel
theorem dX2_init_1 : decode cX2_init 1 = .ok (.invokespecial 3, 3) := by decide +kernel
theorem dX2_init_4 : decode cX2_init 4 = .ok (.aload_n 0, 1) := by decide +kernel
theorem dX2_init_5 : decode cX2_init 5 = .ok (.bipush 20, 2) := by decide +kernel
theorem dX2_init_7 : decode cX2_init 7 = .ok (.newarray .int, 2) := by decide +kernel
theorem dX2_init_9 : decode cX2_init 9 = .ok (.putfield 9, 3) := by decide +kernel
theorem dX2_init_12 : decode cX2_init 12 = .ok (.aload_n 0, 1) := by decide +kernel
theorem dX2_init_13 : decode cX2_init 13 = .ok (.bipush 20, 2) := by decide +kernel
theorem dX2_init_15 : decode cX2_init 15 = .ok (.newarray .int, 2) := by decide +kernel
theorem dX2_init_17 : decode cX2_init 17 = .ok (.putfield 15, 3) := by decide +kernel
theorem dX2_init_20 : decode cX2_init 20 = .ok (.aload_n 0, 1) := by decide +kernel
theorem dX2_init_21 : decode cX2_init 21 = .ok (.bipush 100, 2) := by decide +kernel
theorem dX2_init_23 : decode cX2_init 23 = .ok (.newarray .int, 2) := by decide +kernel
theorem dX2_init_25 : decode cX2_init 25 = .ok (.putfield 18, 3) := by decide +kernel
theorem dX2_init_28 : decode cX2_init 28 = .ok (.aload_n 0, 1) := by decide +kernel
theorem dX2_init_29 : decode cX2_init 29 = .ok (.bipush 100, 2) := by decide +kernel
theorem dX2_init_31 : decode cX2_init 31 = .ok (.newarray .int, 2) := by decide +kernel
theorem dX2_init_33 : decode cX2_init 33 = .ok (.putfield 21, 3) := by decide +kernel
theorem dX2_init_36 : decode cX2_init 36 = .ok (.aload_n 0, 1) := by decide +kernel
theorem dX2_init_37 : decode cX2_init 37 = .ok (.bipush 20, 2) := by decide +kernel
theorem dX2_init_39 : decode cX2_init 39 = .ok (.newarray .boolean, 2) := by decide +kernel
theorem dX2_init_41 : decode cX2_init 41 = .ok (.putfield 24, 3) := by decide +kernel
theorem dX2_init_44 : decode cX2_init 44 = .ok (.aload_n 0, 1) := by decide +kernel
theorem dX2_init_45 : decode cX2_init 45 = .ok (.bipush 6, 2) := by decide +kernel
theorem dX2_init_47 : decode cX2_init 47 = .ok (.newarray .boolean, 2) := by decide +kernel
theorem dX2_init_49 : decode cX2_init 49 = .ok (.putfield 28, 3) := by decide +kernel
theorem dX2_init_52 : decode cX2_init 52 = .ok (.aload_n 0, 1) := by decide +kernel
theorem dX2_init_53 : decode cX2_init 53 = .ok (.iconst 0, 1) := by decide +kernel
theorem dX2_init_54 : decode cX2_init 54 = .ok (.putfield 31, 3) := by decide +kernel
theorem dX2_init_57 : decode cX2_init 57 = .ok (.return_, 1) := by decide +kernel
theorem dX2_symbolsIn_0 : decode cX2_symbolsIn 0 = .ok (.iload_n 0, 1) := by decide +kernel
theorem dX2_symbolsIn_1 : decode cX2_symbolsIn 1 = .ok (.ifCond .lt 9, 3) := by decide +kernel
theorem dX2_symbolsIn_4 : decode cX2_symbolsIn 4 = .ok (.iload_n 0, 1) := by decide +kernel
theorem dX2_symbolsIn_5 : decode cX2_symbolsIn 5 = .ok (.ldc 35, 2) := by decide +kernel
theorem dX2_symbolsIn_7 : decode cX2_symbolsIn 7 = .ok (.if_icmp .lt 5, 3) := by decide +kernel
theorem dX2_symbolsIn_10 : decode cX2_symbolsIn 10 = .ok (.iconst (-1), 1) := by decide +kernel
theorem dX2_symbolsIn_11 : decode cX2_symbolsIn 11 = .ok (.ireturn, 1) := by decide +kernel
theorem dX2_symbolsIn_12 : decode cX2_symbolsIn 12 = .ok (.iconst 0, 1) := by decide +kernel
theorem dX2_symbolsIn_13 : decode cX2_symbolsIn 13 = .ok (.istore_n 1, 1) := by decide +kernel
theorem dX2_symbolsIn_14 : decode cX2_symbolsIn 14 = .ok (.iload_n 0, 1) := by decide +kernel
theorem dX2_symbolsIn_15 : decode cX2_symbolsIn 15 = .ok (.istore_n 2, 1) := by decide +kernel
theorem dX2_symbolsIn_16 : decode cX2_symbolsIn 16 = .ok (.iconst 0, 1) := by decide +kernel
theorem dX2_symbolsIn_17 : decode cX2_symbolsIn 17 = .ok (.istore_n 3, 1) := by decide +kernel
theorem dX2_symbolsIn_18 : decode cX2_symbolsIn 18 = .ok (.iload_n 3, 1) := by decide +kernel
theorem dX2_symbolsIn_19 : decode cX2_symbolsIn 19 = .ok (.iconst 5, 1) := by decide +kernel
theorem dX2_symbolsIn_20 : decode cX2_symbolsIn 20 = .ok (.if_icmp .ge 41, 3) := by decide +kernel
theorem dX2_symbolsIn_23 : decode cX2_symbolsIn 23 = .ok (.iload_n 2, 1) := by decide +kernel
theorem dX2_symbolsIn_24 : decode cX2_symbolsIn 24 = .ok (.ifCond .le 37, 3) := by decide +kernel
theorem dX2_symbolsIn_27 : decode cX2_symbolsIn 27 = .ok (.iload_n 2, 1) := by decide +kernel
theorem dX2_symbolsIn_28 : decode cX2_symbolsIn 28 = .ok (.bipush 15, 2) := by decide +kernel
theorem dX2_symbolsIn_30 : decode cX2_symbolsIn 30 = .ok (.iand, 1) := by decide +kernel
theorem dX2_symbolsIn_31 : decode cX2_symbolsIn 31 = .ok (.istore 4, 2) := by decide +kernel
theorem dX2_symbolsIn_33 : decode cX2_symbolsIn 33 = .ok (.iload 4, 2) := by decide +kernel
theorem dX2_symbolsIn_35 : decode cX2_symbolsIn 35 = .ok (.iconst 1, 1) := by decide +kernel
theorem dX2_symbolsIn_36 : decode cX2_symbolsIn 36 = .ok (.if_icmp .lt 10, 3) := by decide +kernel
theorem dX2_symbolsIn_39 : decode cX2_symbolsIn 39 = .ok (.iload 4, 2) := by decide +kernel
theorem dX2_symbolsIn_41 : decode cX2_symbolsIn 41 = .ok (.bipush 14, 2) := by decide +kernel
theorem dX2_symbolsIn_43 : decode cX2_symbolsIn 43 = .ok (.if_icmp .le 5, 3) := by decide +kernel
theorem dX2_symbolsIn_46 : decode cX2_symbolsIn 46 = .ok (.iconst (-1), 1) := by decide +kernel
theorem dX2_symbolsIn_47 : decode cX2_symbolsIn 47 = .ok (.ireturn, 1) := by decide +kernel
theorem dX2_symbolsIn_48 : decode cX2_symbolsIn 48 = .ok (.iinc 1 1, 3) := by decide +kernel
theorem dX2_symbolsIn_51 : decode cX2_symbolsIn 51 = .ok (.iload_n 2, 1) := by decide +kernel
theorem dX2_symbolsIn_52 : decode cX2_symbolsIn 52 = .ok (.iconst 4, 1) := by decide +kernel
theorem dX2_symbolsIn_53 : decode cX2_symbolsIn 53 = .ok (.ishr, 1) := by decide +kernel
theorem dX2_symbolsIn_54 : decode cX2_symbolsIn 54 = .ok (.istore_n 2, 1) := by decide +kernel
theorem dX2_symbolsIn_55 : decode cX2_symbolsIn 55 = .ok (.iinc 3 1, 3) := by decide +kernel
theorem dX2_symbolsIn_58 : decode cX2_symbolsIn 58 = .ok (.goto (-40), 3) := by decide +kernel
theorem dX2_symbolsIn_61 : decode cX2_symbolsIn 61 = .ok (.iload_n 1, 1) := by decide +kernel
theorem dX2_symbolsIn_62 : decode cX2_symbolsIn 62 = .ok (.ireturn, 1) := by decide +kernel
theorem dX2_hintsFit_0 : decode cX2_hintsFit 0 = .ok (.iload_n 0, 1) := by decide +kernel
theorem dX2_hintsFit_1 : decode cX2_hintsFit 1 = .ok (.ifCond .ge 5, 3) := by decide +kernel
theorem dX2_hintsFit_4 : decode cX2_hintsFit 4 = .ok (.iconst 0, 1) := by decide +kernel
theorem dX2_hintsFit_5 : decode cX2_hintsFit 5 = .ok (.ireturn, 1) := by decide +kernel
theorem dX2_hintsFit_6 : decode cX2_hintsFit 6 = .ok (.iload_n 0, 1) := by decide +kernel
theorem dX2_hintsFit_7 : decode cX2_hintsFit 7 = .ok (.istore_n 2, 1) := by decide +kernel
theorem dX2_hintsFit_8 : decode cX2_hintsFit 8 = .ok (.iconst 1, 1) := by decide +kernel
theorem dX2_hintsFit_9 : decode cX2_hintsFit 9 = .ok (.istore_n 3, 1) := by decide +kernel
theorem dX2_hintsFit_10 : decode cX2_hintsFit 10 = .ok (.iload_n 3, 1) := by decide +kernel
theorem dX2_hintsFit_11 : decode cX2_hintsFit 11 = .ok (.iload_n 1, 1) := by decide +kernel
theorem dX2_hintsFit_12 : decode cX2_hintsFit 12 = .ok (.if_icmp .ge 22, 3) := by decide +kernel
theorem dX2_hintsFit_15 : decode cX2_hintsFit 15 = .ok (.iload_n 2, 1) := by decide +kernel
theorem dX2_hintsFit_16 : decode cX2_hintsFit 16 = .ok (.iconst 3, 1) := by decide +kernel
theorem dX2_hintsFit_17 : decode cX2_hintsFit 17 = .ok (.iand, 1) := by decide +kernel
theorem dX2_hintsFit_18 : decode cX2_hintsFit 18 = .ok (.iconst 3, 1) := by decide +kernel
theorem dX2_hintsFit_19 : decode cX2_hintsFit 19 = .ok (.if_icmp .ne 5, 3) := by decide +kernel
theorem dX2_hintsFit_22 : decode cX2_hintsFit 22 = .ok (.iconst 0, 1) := by decide +kernel
theorem dX2_hintsFit_23 : decode cX2_hintsFit 23 = .ok (.ireturn, 1) := by decide +kernel
theorem dX2_hintsFit_24 : decode cX2_hintsFit 24 = .ok (.iload_n 2, 1) := by decide +kernel
theorem dX2_hintsFit_25 : decode cX2_hintsFit 25 = .ok (.iconst 2, 1) := by decide +kernel
theorem dX2_hintsFit_26 : decode cX2_hintsFit 26 = .ok (.ishr, 1) := by decide +kernel
theorem dX2_hintsFit_27 : decode cX2_hintsFit 27 = .ok (.istore_n 2, 1) := by decide +kernel
theorem dX2_hintsFit_28 : decode cX2_hintsFit 28 = .ok (.iinc 3 1, 3) := by decide +kernel
theorem dX2_hintsFit_31 : decode cX2_hintsFit 31 = .ok (.goto (-21), 3) := by decide +kernel
theorem dX2_hintsFit_34 : decode cX2_hintsFit 34 = .ok (.iload_n 2, 1) := by decide +kernel
theorem dX2_hintsFit_35 : decode cX2_hintsFit 35 = .ok (.ifCond .ne 7, 3) := by decide +kernel
theorem dX2_hintsFit_38 : decode cX2_hintsFit 38 = .ok (.iconst 1, 1) := by decide +kernel
theorem dX2_hintsFit_39 : decode cX2_hintsFit 39 = .ok (.goto 4, 3) := by decide +kernel
theorem dX2_hintsFit_42 : decode cX2_hintsFit 42 = .ok (.iconst 0, 1) := by decide +kernel
theorem dX2_hintsFit_43 : decode cX2_hintsFit 43 = .ok (.ireturn, 1) := by decide +kernel
theorem dX2_add_0 : decode cX2_add 0 = .ok (.aload_n 0, 1) := by decide +kernel
theorem dX2_add_1 : decode cX2_add 1 = .ok (.getfield 31, 3) := by decide +kernel
theorem dX2_add_4 : decode cX2_add 4 = .ok (.istore 5, 2) := by decide +kernel
theorem dX2_add_6 : decode cX2_add 6 = .ok (.iload_n 2, 1) := by decide +kernel
theorem dX2_add_7 : decode cX2_add 7 = .ok (.invokestatic 36, 3) := by decide +kernel
theorem dX2_add_10 : decode cX2_add 10 = .ok (.istore 6, 2) := by decide +kernel
theorem dX2_add_12 : decode cX2_add 12 = .ok (.iload 5, 2) := by decide +kernel
theorem dX2_add_14 : decode cX2_add 14 = .ok (.bipush 20, 2) := by decide +kernel
theorem dX2_add_16 : decode cX2_add 16 = .ok (.if_icmp .ge 9, 3) := by decide +kernel
theorem dX2_add_19 : decode cX2_add 19 = .ok (.iload 6, 2) := by decide +kernel
theorem dX2_add_21 : decode cX2_add 21 = .ok (.iconst (-1), 1) := by decide +kernel
theorem dX2_add_22 : decode cX2_add 22 = .ok (.if_icmp .ne 5, 3) := by decide +kernel
theorem dX2_add_25 : decode cX2_add 25 = .ok (.iconst (-1), 1) := by decide +kernel
theorem dX2_add_26 : decode cX2_add 26 = .ok (.ireturn, 1) := by decide +kernel
theorem dX2_add_27 : decode cX2_add 27 = .ok (.aload_n 0, 1) := by decide +kernel
theorem dX2_add_28 : decode cX2_add 28 = .ok (.getfield 9, 3) := by decide +kernel
theorem dX2_add_31 : decode cX2_add 31 = .ok (.iload 5, 2) := by decide +kernel
theorem dX2_add_33 : decode cX2_add 33 = .ok (.iload_n 1, 1) := by decide +kernel
theorem dX2_add_34 : decode cX2_add 34 = .ok (.iastore, 1) := by decide +kernel
theorem dX2_add_35 : decode cX2_add 35 = .ok (.aload_n 0, 1) := by decide +kernel
theorem dX2_add_36 : decode cX2_add 36 = .ok (.getfield 15, 3) := by decide +kernel
theorem dX2_add_39 : decode cX2_add 39 = .ok (.iload 5, 2) := by decide +kernel
theorem dX2_add_41 : decode cX2_add 41 = .ok (.iload 6, 2) := by decide +kernel
theorem dX2_add_43 : decode cX2_add 43 = .ok (.iastore, 1) := by decide +kernel
theorem dX2_add_44 : decode cX2_add 44 = .ok (.aload_n 0, 1) := by decide +kernel
theorem dX2_add_45 : decode cX2_add 45 = .ok (.getfield 24, 3) := by decide +kernel
theorem dX2_add_48 : decode cX2_add 48 = .ok (.iload 5, 2) := by decide +kernel
theorem dX2_add_50 : decode cX2_add 50 = .ok (.iload 4, 2) := by decide +kernel
theorem dX2_add_52 : decode cX2_add 52 = .ok (.bastore, 1) := by decide +kernel
theorem dX2_add_53 : decode cX2_add 53 = .ok (.iconst 0, 1) := by decide +kernel
theorem dX2_add_54 : decode cX2_add 54 = .ok (.istore 7, 2) := by decide +kernel
theorem dX2_add_56 : decode cX2_add 56 = .ok (.iload 7, 2) := by decide +kernel
theorem dX2_add_58 : decode cX2_add 58 = .ok (.iload 6, 2) := by decide +kernel
theorem dX2_add_60 : decode cX2_add 60 = .ok (.if_icmp .ge 59, 3) := by decide +kernel
theorem dX2_add_63 : decode cX2_add 63 = .ok (.iload 6, 2) := by decide +kernel
theorem dX2_add_65 : decode cX2_add 65 = .ok (.iconst 1, 1) := by decide +kernel
theorem dX2_add_66 : decode cX2_add 66 = .ok (.isub, 1) := by decide +kernel
theorem dX2_add_67 : decode cX2_add 67 = .ok (.iload 7, 2) := by decide +kernel
theorem dX2_add_69 : decode cX2_add 69 = .ok (.isub, 1) := by decide +kernel
theorem dX2_add_70 : decode cX2_add 70 = .ok (.istore 8, 2) := by decide +kernel
theorem dX2_add_72 : decode cX2_add 72 = .ok (.aload_n 0, 1) := by decide +kernel
theorem dX2_add_73 : decode cX2_add 73 = .ok (.getfield 18, 3) := by decide +kernel
theorem dX2_add_76 : decode cX2_add 76 = .ok (.iload 5, 2) := by decide +kernel
theorem dX2_add_78 : decode cX2_add 78 = .ok (.iconst 5, 1) := by decide +kernel
theorem dX2_add_79 : decode cX2_add 79 = .ok (.imul, 1) := by decide +kernel
theorem dX2_add_80 : decode cX2_add 80 = .ok (.iload 7, 2) := by decide +kernel
theorem dX2_add_82 : decode cX2_add 82 = .ok (.iadd, 1) := by decide +kernel
theorem dX2_add_83 : decode cX2_add 83 = .ok (.iload_n 2, 1) := by decide +kernel
theorem dX2_add_84 : decode cX2_add 84 = .ok (.iconst 4, 1) := by decide +kernel
theorem dX2_add_85 : decode cX2_add 85 = .ok (.iload 8, 2) := by decide +kernel
theorem dX2_add_87 : decode cX2_add 87 = .ok (.imul, 1) := by decide +kernel
theorem dX2_add_88 : decode cX2_add 88 = .ok (.ishr, 1) := by decide +kernel
theorem dX2_add_89 : decode cX2_add 89 = .ok (.bipush 15, 2) := by decide +kernel
theorem dX2_add_91 : decode cX2_add 91 = .ok (.iand, 1) := by decide +kernel
theorem dX2_add_92 : decode cX2_add 92 = .ok (.iastore, 1) := by decide +kernel
theorem dX2_add_93 : decode cX2_add 93 = .ok (.aload_n 0, 1) := by decide +kernel
theorem dX2_add_94 : decode cX2_add 94 = .ok (.getfield 21, 3) := by decide +kernel
theorem dX2_add_97 : decode cX2_add 97 = .ok (.iload 5, 2) := by decide +kernel
theorem dX2_add_99 : decode cX2_add 99 = .ok (.iconst 5, 1) := by decide +kernel
theorem dX2_add_100 : decode cX2_add 100 = .ok (.imul, 1) := by decide +kernel
theorem dX2_add_101 : decode cX2_add 101 = .ok (.iload 7, 2) := by decide +kernel
theorem dX2_add_103 : decode cX2_add 103 = .ok (.iadd, 1) := by decide +kernel
theorem dX2_add_104 : decode cX2_add 104 = .ok (.iload_n 3, 1) := by decide +kernel
theorem dX2_add_105 : decode cX2_add 105 = .ok (.iconst 2, 1) := by decide +kernel
theorem dX2_add_106 : decode cX2_add 106 = .ok (.iload 8, 2) := by decide +kernel
theorem dX2_add_108 : decode cX2_add 108 = .ok (.imul, 1) := by decide +kernel
theorem dX2_add_109 : decode cX2_add 109 = .ok (.ishr, 1) := by decide +kernel
theorem dX2_add_110 : decode cX2_add 110 = .ok (.iconst 3, 1) := by decide +kernel
theorem dX2_add_111 : decode cX2_add 111 = .ok (.iand, 1) := by decide +kernel
theorem dX2_add_112 : decode cX2_add 112 = .ok (.iastore, 1) := by decide +kernel
theorem dX2_add_113 : decode cX2_add 113 = .ok (.iinc 7 1, 3) := by decide +kernel
theorem dX2_add_116 : decode cX2_add 116 = .ok (.goto (-60), 3) := by decide +kernel
theorem dX2_add_119 : decode cX2_add 119 = .ok (.aload_n 0, 1) := by decide +kernel
theorem dX2_add_120 : decode cX2_add 120 = .ok (.dup, 1) := by decide +kernel
theorem dX2_add_121 : decode cX2_add 121 = .ok (.getfield 31, 3) := by decide +kernel
theorem dX2_add_124 : decode cX2_add 124 = .ok (.iconst 1, 1) := by decide +kernel
theorem dX2_add_125 : decode cX2_add 125 = .ok (.iadd, 1) := by decide +kernel
theorem dX2_add_126 : decode cX2_add 126 = .ok (.putfield 31, 3) := by decide +kernel
theorem dX2_add_129 : decode cX2_add 129 = .ok (.aload_n 0, 1) := by decide +kernel
theorem dX2_add_130 : decode cX2_add 130 = .ok (.invokevirtual 40, 3) := by decide +kernel
theorem dX2_add_133 : decode cX2_add 133 = .ok (.iload 5, 2) := by decide +kernel
theorem dX2_add_135 : decode cX2_add 135 = .ok (.ireturn, 1) := by decide +kernel
theorem dX2_hasGround_0 : decode cX2_hasGround 0 = .ok (.iload_n 1, 1) := by decide +kernel
theorem dX2_hasGround_1 : decode cX2_hasGround 1 = .ok (.invokestatic 43, 3) := by decide +kernel
theorem dX2_hasGround_4 : decode cX2_hasGround 4 = .ok (.ifCond .eq 19, 3) := by decide +kernel
theorem dX2_hasGround_7 : decode cX2_hasGround 7 = .ok (.aload_n 0, 1) := by decide +kernel
theorem dX2_hasGround_8 : decode cX2_hasGround 8 = .ok (.getfield 28, 3) := by decide +kernel
theorem dX2_hasGround_11 : decode cX2_hasGround 11 = .ok (.iload_n 1, 1) := by decide +kernel
theorem dX2_hasGround_12 : decode cX2_hasGround 12 = .ok (.bipush 9, 2) := by decide +kernel
theorem dX2_hasGround_14 : decode cX2_hasGround 14 = .ok (.isub, 1) := by decide +kernel
theorem dX2_hasGround_15 : decode cX2_hasGround 15 = .ok (.baload, 1) := by decide +kernel
theorem dX2_hasGround_16 : decode cX2_hasGround 16 = .ok (.ifCond .eq 7, 3) := by decide +kernel
theorem dX2_hasGround_19 : decode cX2_hasGround 19 = .ok (.iconst 1, 1) := by decide +kernel
theorem dX2_hasGround_20 : decode cX2_hasGround 20 = .ok (.goto 4, 3) := by decide +kernel
theorem dX2_hasGround_23 : decode cX2_hasGround 23 = .ok (.iconst 0, 1) := by decide +kernel
theorem dX2_hasGround_24 : decode cX2_hasGround 24 = .ok (.ireturn, 1) := by decide +kernel
theorem dX2_findGround_0 : decode cX2_findGround 0 = .ok (.iconst 1, 1) := by decide +kernel
theorem dX2_findGround_1 : decode cX2_findGround 1 = .ok (.istore_n 1, 1) := by decide +kernel
theorem dX2_findGround_2 : decode cX2_findGround 2 = .ok (.iconst 0, 1) := by decide +kernel
theorem dX2_findGround_3 : decode cX2_findGround 3 = .ok (.istore_n 2, 1) := by decide +kernel
theorem dX2_findGround_4 : decode cX2_findGround 4 = .ok (.iload_n 2, 1) := by decide +kernel
theorem dX2_findGround_5 : decode cX2_findGround 5 = .ok (.bipush 6, 2) := by decide +kernel
theorem dX2_findGround_7 : decode cX2_findGround 7 = .ok (.if_icmp .ge 69, 3) := by decide +kernel
theorem dX2_findGround_10 : decode cX2_findGround 10 = .ok (.iload_n 1, 1) := by decide +kernel
theorem dX2_findGround_11 : decode cX2_findGround 11 = .ok (.ifCond .eq 65, 3) := by decide +kernel
theorem dX2_findGround_14 : decode cX2_findGround 14 = .ok (.iconst 0, 1) := by decide +kernel
theorem dX2_findGround_15 : decode cX2_findGround 15 = .ok (.istore_n 1, 1) := by decide +kernel
theorem dX2_findGround_16 : decode cX2_findGround 16 = .ok (.iconst 0, 1) := by decide +kernel
theorem dX2_findGround_17 : decode cX2_findGround 17 = .ok (.istore_n 3, 1) := by decide +kernel
theorem dX2_findGround_18 : decode cX2_findGround 18 = .ok (.iload_n 3, 1) := by decide +kernel
theorem dX2_findGround_19 : decode cX2_findGround 19 = .ok (.aload_n 0, 1) := by decide +kernel
theorem dX2_findGround_20 : decode cX2_findGround 20 = .ok (.getfield 31, 3) := by decide +kernel
theorem dX2_findGround_23 : decode cX2_findGround 23 = .ok (.if_icmp .ge 47, 3) := by decide +kernel
theorem dX2_findGround_26 : decode cX2_findGround 26 = .ok (.aload_n 0, 1) := by decide +kernel
theorem dX2_findGround_27 : decode cX2_findGround 27 = .ok (.aload_n 0, 1) := by decide +kernel
theorem dX2_findGround_28 : decode cX2_findGround 28 = .ok (.getfield 9, 3) := by decide +kernel
theorem dX2_findGround_31 : decode cX2_findGround 31 = .ok (.iload_n 3, 1) := by decide +kernel
theorem dX2_findGround_32 : decode cX2_findGround 32 = .ok (.iaload, 1) := by decide +kernel
theorem dX2_findGround_33 : decode cX2_findGround 33 = .ok (.invokevirtual 47, 3) := by decide +kernel
theorem dX2_findGround_36 : decode cX2_findGround 36 = .ok (.ifCond .ne 28, 3) := by decide +kernel
theorem dX2_findGround_39 : decode cX2_findGround 39 = .ok (.aload_n 0, 1) := by decide +kernel
theorem dX2_findGround_40 : decode cX2_findGround 40 = .ok (.iload_n 3, 1) := by decide +kernel
theorem dX2_findGround_41 : decode cX2_findGround 41 = .ok (.invokevirtual 50, 3) := by decide +kernel
theorem dX2_findGround_44 : decode cX2_findGround 44 = .ok (.ifCond .eq 20, 3) := by decide +kernel
theorem dX2_findGround_47 : decode cX2_findGround 47 = .ok (.aload_n 0, 1) := by decide +kernel
theorem dX2_findGround_48 : decode cX2_findGround 48 = .ok (.getfield 28, 3) := by decide +kernel
theorem dX2_findGround_51 : decode cX2_findGround 51 = .ok (.aload_n 0, 1) := by decide +kernel
theorem dX2_findGround_52 : decode cX2_findGround 52 = .ok (.getfield 9, 3) := by decide +kernel
theorem dX2_findGround_55 : decode cX2_findGround 55 = .ok (.iload_n 3, 1) := by decide +kernel
theorem dX2_findGround_56 : decode cX2_findGround 56 = .ok (.iaload, 1) := by decide +kernel
theorem dX2_findGround_57 : decode cX2_findGround 57 = .ok (.bipush 9, 2) := by decide +kernel
theorem dX2_findGround_59 : decode cX2_findGround 59 = .ok (.isub, 1) := by decide +kernel
theorem dX2_findGround_60 : decode cX2_findGround 60 = .ok (.iconst 1, 1) := by decide +kernel
theorem dX2_findGround_61 : decode cX2_findGround 61 = .ok (.bastore, 1) := by decide +kernel
theorem dX2_findGround_62 : decode cX2_findGround 62 = .ok (.iconst 1, 1) := by decide +kernel
theorem dX2_findGround_63 : decode cX2_findGround 63 = .ok (.istore_n 1, 1) := by decide +kernel
theorem dX2_findGround_64 : decode cX2_findGround 64 = .ok (.iinc 3 1, 3) := by decide +kernel
theorem dX2_findGround_67 : decode cX2_findGround 67 = .ok (.goto (-49), 3) := by decide +kernel
theorem dX2_findGround_70 : decode cX2_findGround 70 = .ok (.iinc 2 1, 3) := by decide +kernel
theorem dX2_findGround_73 : decode cX2_findGround 73 = .ok (.goto (-69), 3) := by decide +kernel
theorem dX2_findGround_76 : decode cX2_findGround 76 = .ok (.return_, 1) := by decide +kernel
theorem dX2_standsOnGround_0 : decode cX2_standsOnGround 0 = .ok (.iconst 0, 1) := by decide +kernel
theorem dX2_standsOnGround_1 : decode cX2_standsOnGround 1 = .ok (.istore_n 2, 1) := by decide +kernel
theorem dX2_standsOnGround_2 : decode cX2_standsOnGround 2 = .ok (.iload_n 2, 1) := by decide +kernel
theorem dX2_standsOnGround_3 : decode cX2_standsOnGround 3 = .ok (.aload_n 0, 1) := by decide +kernel
theorem dX2_standsOnGround_4 : decode cX2_standsOnGround 4 = .ok (.getfield 15, 3) := by decide +kernel
theorem dX2_standsOnGround_7 : decode cX2_standsOnGround 7 = .ok (.iload_n 1, 1) := by decide +kernel
theorem dX2_standsOnGround_8 : decode cX2_standsOnGround 8 = .ok (.iaload, 1) := by decide +kernel
theorem dX2_standsOnGround_9 : decode cX2_standsOnGround 9 = .ok (.if_icmp .ge 33, 3) := by decide +kernel
theorem dX2_standsOnGround_12 : decode cX2_standsOnGround 12 = .ok (.aload_n 0, 1) := by decide +kernel
theorem dX2_standsOnGround_13 : decode cX2_standsOnGround 13 = .ok (.iload_n 1, 1) := by decide +kernel
theorem dX2_standsOnGround_14 : decode cX2_standsOnGround 14 = .ok (.iload_n 2, 1) := by decide +kernel
theorem dX2_standsOnGround_15 : decode cX2_standsOnGround 15 = .ok (.invokevirtual 53, 3) := by decide +kernel
theorem dX2_standsOnGround_18 : decode cX2_standsOnGround 18 = .ok (.istore_n 3, 1) := by decide +kernel
theorem dX2_standsOnGround_19 : decode cX2_standsOnGround 19 = .ok (.iload_n 3, 1) := by decide +kernel
theorem dX2_standsOnGround_20 : decode cX2_standsOnGround 20 = .ok (.invokestatic 43, 3) := by decide +kernel
theorem dX2_standsOnGround_23 : decode cX2_standsOnGround 23 = .ok (.ifCond .eq 13, 3) := by decide +kernel
theorem dX2_standsOnGround_26 : decode cX2_standsOnGround 26 = .ok (.aload_n 0, 1) := by decide +kernel
theorem dX2_standsOnGround_27 : decode cX2_standsOnGround 27 = .ok (.iload_n 3, 1) := by decide +kernel
theorem dX2_standsOnGround_28 : decode cX2_standsOnGround 28 = .ok (.invokevirtual 47, 3) := by decide +kernel
theorem dX2_standsOnGround_31 : decode cX2_standsOnGround 31 = .ok (.ifCond .ne 5, 3) := by decide +kernel
theorem dX2_standsOnGround_34 : decode cX2_standsOnGround 34 = .ok (.iconst 0, 1) := by decide +kernel
theorem dX2_standsOnGround_35 : decode cX2_standsOnGround 35 = .ok (.ireturn, 1) := by decide +kernel
theorem dX2_standsOnGround_36 : decode cX2_standsOnGround 36 = .ok (.iinc 2 1, 3) := by decide +kernel
theorem dX2_standsOnGround_39 : decode cX2_standsOnGround 39 = .ok (.goto (-37), 3) := by decide +kernel
theorem dX2_standsOnGround_42 : decode cX2_standsOnGround 42 = .ok (.iconst 1, 1) := by decide +kernel
theorem dX2_standsOnGround_43 : decode cX2_standsOnGround 43 = .ok (.ireturn, 1) := by decide +kernel
theorem dX2_symbolOf_0 : decode cX2_symbolOf 0 = .ok (.aload_n 0, 1) := by decide +kernel
theorem dX2_symbolOf_1 : decode cX2_symbolOf 1 = .ok (.getfield 18, 3) := by decide +kernel
theorem dX2_symbolOf_4 : decode cX2_symbolOf 4 = .ok (.iload_n 1, 1) := by decide +kernel
theorem dX2_symbolOf_5 : decode cX2_symbolOf 5 = .ok (.iconst 5, 1) := by decide +kernel
theorem dX2_symbolOf_6 : decode cX2_symbolOf 6 = .ok (.imul, 1) := by decide +kernel
theorem dX2_symbolOf_7 : decode cX2_symbolOf 7 = .ok (.iload_n 2, 1) := by decide +kernel
theorem dX2_symbolOf_8 : decode cX2_symbolOf 8 = .ok (.iadd, 1) := by decide +kernel
theorem dX2_symbolOf_9 : decode cX2_symbolOf 9 = .ok (.iaload, 1) := by decide +kernel
theorem dX2_symbolOf_10 : decode cX2_symbolOf 10 = .ok (.ireturn, 1) := by decide +kernel
theorem dX2_hintOf_0 : decode cX2_hintOf 0 = .ok (.aload_n 0, 1) := by decide +kernel
theorem dX2_hintOf_1 : decode cX2_hintOf 1 = .ok (.getfield 21, 3) := by decide +kernel
theorem dX2_hintOf_4 : decode cX2_hintOf 4 = .ok (.iload_n 1, 1) := by decide +kernel
theorem dX2_hintOf_5 : decode cX2_hintOf 5 = .ok (.iconst 5, 1) := by decide +kernel
theorem dX2_hintOf_6 : decode cX2_hintOf 6 = .ok (.imul, 1) := by decide +kernel
theorem dX2_hintOf_7 : decode cX2_hintOf 7 = .ok (.iload_n 2, 1) := by decide +kernel
theorem dX2_hintOf_8 : decode cX2_hintOf 8 = .ok (.iadd, 1) := by decide +kernel
theorem dX2_hintOf_9 : decode cX2_hintOf 9 = .ok (.iaload, 1) := by decide +kernel
theorem dX2_hintOf_10 : decode cX2_hintOf 10 = .ok (.ireturn, 1) := by decide +kernel
theorem dX3_init_0 : decode cX3_init 0 = .ok (.aload_n 0, 1) := by decide +kernel
theorem dX3_init_1 : decode cX3_init 1 = .ok (.invokespecial 3, 3) := by decide +kernel
theorem dX3_init_4 : decode cX3_init 4 = .ok (.aload_n 0, 1) := by decide +kernel
theorem dX3_init_5 : decode cX3_init 5 = .ok (.sipush 1300, 3) := by decide +kernel
theorem dX3_init_8 : decode cX3_init 8 = .ok (.newarray .byte, 2) := by decide +kernel
theorem dX3_init_10 : decode cX3_init 10 = .ok (.putfield 11, 3) := by decide +kernel
theorem dX3_init_13 : decode cX3_init 13 = .ok (.aload_n 0, 1) := by decide +kernel
theorem dX3_init_14 : decode cX3_init 14 = .ok (.sipush 150, 3) := by decide +kernel
theorem dX3_init_17 : decode cX3_init 17 = .ok (.newarray .int, 2) := by decide +kernel
theorem dX3_init_19 : decode cX3_init 19 = .ok (.putfield 15, 3) := by decide +kernel
theorem dX3_init_22 : decode cX3_init 22 = .ok (.aload_n 0, 1) := by decide +kernel
theorem dX3_init_23 : decode cX3_init 23 = .ok (.sipush 150, 3) := by decide +kernel
theorem dX3_init_26 : decode cX3_init 26 = .ok (.newarray .boolean, 2) := by decide +kernel
theorem dX3_init_28 : decode cX3_init 28 = .ok (.putfield 19, 3) := by decide +kernel
theorem dX3_init_31 : decode cX3_init 31 = .ok (.aload_n 0, 1) := by decide +kernel
theorem dX3_init_32 : decode cX3_init 32 = .ok (.sipush 150, 3) := by decide +kernel
theorem dX3_init_35 : decode cX3_init 35 = .ok (.newarray .int, 2) := by decide +kernel
theorem dX3_init_37 : decode cX3_init 37 = .ok (.putfield 23, 3) := by decide +kernel
theorem dX3_init_40 : decode cX3_init 40 = .ok (.aload_n 0, 1) := by decide +kernel
theorem dX3_init_41 : decode cX3_init 41 = .ok (.iconst 0, 1) := by decide +kernel
theorem dX3_init_42 : decode cX3_init 42 = .ok (.putfield 26, 3) := by decide +kernel
theorem dX3_init_45 : decode cX3_init 45 = .ok (.aload_n 0, 1) := by decide +kernel
theorem dX3_init_46 : decode cX3_init 46 = .ok (.iconst 0, 1) := by decide +kernel
theorem dX3_init_47 : decode cX3_init 47 = .ok (.putfield 30, 3) := by decide +kernel
theorem dX3_init_50 : decode cX3_init 50 = .ok (.aload_n 0, 1) := by decide +kernel
theorem dX3_init_51 : decode cX3_init 51 = .ok (.aload_n 1, 1) := by decide +kernel
theorem dX3_init_52 : decode cX3_init 52 = .ok (.putfield 33, 3) := by decide +kernel
theorem dX3_init_55 : decode cX3_init 55 = .ok (.aload_n 0, 1) := by decide +kernel
theorem dX3_init_56 : decode cX3_init 56 = .ok (.aload_n 2, 1) := by decide +kernel
theorem dX3_init_57 : decode cX3_init 57 = .ok (.putfield 37, 3) := by decide +kernel
theorem dX3_init_60 : decode cX3_init 60 = .ok (.aload_n 0, 1) := by decide +kernel
theorem dX3_init_61 : decode cX3_init 61 = .ok (.aload_n 3, 1) := by decide +kernel
theorem dX3_init_62 : decode cX3_init 62 = .ok (.putfield 41, 3) := by decide +kernel
theorem dX3_init_65 : decode cX3_init 65 = .ok (.return_, 1) := by decide +kernel
theorem dX3_at_0 : decode cX3_at 0 = .ok (.iload_n 1, 1) := by decide +kernel
theorem dX3_at_1 : decode cX3_at 1 = .ok (.ifCond .lt 20, 3) := by decide +kernel
theorem dX3_at_4 : decode cX3_at 4 = .ok (.iload_n 1, 1) := by decide +kernel
theorem dX3_at_5 : decode cX3_at 5 = .ok (.aload_n 0, 1) := by decide +kernel
theorem dX3_at_6 : decode cX3_at 6 = .ok (.getfield 26, 3) := by decide +kernel
theorem dX3_at_9 : decode cX3_at 9 = .ok (.if_icmp .ge 12, 3) := by decide +kernel
theorem dX3_at_12 : decode cX3_at 12 = .ok (.aload_n 0, 1) := by decide +kernel
theorem dX3_at_13 : decode cX3_at 13 = .ok (.getfield 11, 3) := by decide +kernel
theorem dX3_at_16 : decode cX3_at 16 = .ok (.iload_n 1, 1) := by decide +kernel
theorem dX3_at_17 : decode cX3_at 17 = .ok (.baload, 1) := by decide +kernel
theorem dX3_at_18 : decode cX3_at 18 = .ok (.goto 4, 3) := by decide +kernel
theorem dX3_at_21 : decode cX3_at 21 = .ok (.iconst (-1), 1) := by decide +kernel
theorem dX3_at_22 : decode cX3_at 22 = .ok (.ireturn, 1) := by decide +kernel
theorem dX3_layOut_0 : decode cX3_layOut 0 = .ok (.aload_n 0, 1) := by decide +kernel
theorem dX3_layOut_1 : decode cX3_layOut 1 = .ok (.invokevirtual 45, 3) := by decide +kernel
theorem dX3_layOut_4 : decode cX3_layOut 4 = .ok (.aload_n 0, 1) := by decide +kernel
theorem dX3_layOut_5 : decode cX3_layOut 5 = .ok (.iconst 0, 1) := by decide +kernel
theorem dX3_layOut_6 : decode cX3_layOut 6 = .ok (.putfield 26, 3) := by decide +kernel
theorem dX3_layOut_9 : decode cX3_layOut 9 = .ok (.aload_n 0, 1) := by decide +kernel
theorem dX3_layOut_10 : decode cX3_layOut 10 = .ok (.iconst 0, 1) := by decide +kernel
theorem dX3_layOut_11 : decode cX3_layOut 11 = .ok (.putfield 30, 3) := by decide +kernel
theorem dX3_layOut_14 : decode cX3_layOut 14 = .ok (.iconst 0, 1) := by decide +kernel
theorem dX3_layOut_15 : decode cX3_layOut 15 = .ok (.istore_n 2, 1) := by decide +kernel
theorem dX3_layOut_16 : decode cX3_layOut 16 = .ok (.iload_n 2, 1) := by decide +kernel
theorem dX3_layOut_17 : decode cX3_layOut 17 = .ok (.aload_n 0, 1) := by decide +kernel
theorem dX3_layOut_18 : decode cX3_layOut 18 = .ok (.getfield 41, 3) := by decide +kernel
theorem dX3_layOut_21 : decode cX3_layOut 21 = .ok (.getfield 48, 3) := by decide +kernel
theorem dX3_layOut_24 : decode cX3_layOut 24 = .ok (.if_icmp .ge 27, 3) := by decide +kernel
theorem dX3_layOut_27 : decode cX3_layOut 27 = .ok (.aload_n 0, 1) := by decide +kernel
theorem dX3_layOut_28 : decode cX3_layOut 28 = .ok (.getfield 41, 3) := by decide +kernel
theorem dX3_layOut_31 : decode cX3_layOut 31 = .ok (.iload_n 2, 1) := by decide +kernel
theorem dX3_layOut_32 : decode cX3_layOut 32 = .ok (.iconst 4, 1) := by decide +kernel
theorem dX3_layOut_33 : decode cX3_layOut 33 = .ok (.invokevirtual 51, 3) := by decide +kernel
theorem dX3_layOut_36 : decode cX3_layOut 36 = .ok (.ifCond .le 9, 3) := by decide +kernel
theorem dX3_layOut_39 : decode cX3_layOut 39 = .ok (.aload_n 0, 1) := by decide +kernel
theorem dX3_layOut_40 : decode cX3_layOut 40 = .ok (.iload_n 2, 1) := by decide +kernel
theorem dX3_layOut_41 : decode cX3_layOut 41 = .ok (.iload_n 1, 1) := by decide +kernel
theorem dX3_layOut_42 : decode cX3_layOut 42 = .ok (.invokevirtual 55, 3) := by decide +kernel
theorem dX3_layOut_45 : decode cX3_layOut 45 = .ok (.iinc 2 1, 3) := by decide +kernel
theorem dX3_layOut_48 : decode cX3_layOut 48 = .ok (.goto (-32), 3) := by decide +kernel
theorem dX3_layOut_51 : decode cX3_layOut 51 = .ok (.aload_n 0, 1) := by decide +kernel
theorem dX3_layOut_52 : decode cX3_layOut 52 = .ok (.invokevirtual 59, 3) := by decide +kernel
theorem dX3_layOut_55 : decode cX3_layOut 55 = .ok (.return_, 1) := by decide +kernel
theorem dX3_measure_0 : decode cX3_measure 0 = .ok (.iconst 0, 1) := by decide +kernel
theorem dX3_measure_1 : decode cX3_measure 1 = .ok (.istore_n 1, 1) := by decide +kernel
theorem dX3_measure_2 : decode cX3_measure 2 = .ok (.iload_n 1, 1) := by decide +kernel
theorem dX3_measure_3 : decode cX3_measure 3 = .ok (.aload_n 0, 1) := by decide +kernel
theorem dX3_measure_4 : decode cX3_measure 4 = .ok (.getfield 41, 3) := by decide +kernel
theorem dX3_measure_7 : decode cX3_measure 7 = .ok (.getfield 48, 3) := by decide +kernel
theorem dX3_measure_10 : decode cX3_measure 10 = .ok (.if_icmp .ge 35, 3) := by decide +kernel
theorem dX3_measure_13 : decode cX3_measure 13 = .ok (.aload_n 0, 1) := by decide +kernel
theorem dX3_measure_14 : decode cX3_measure 14 = .ok (.getfield 15, 3) := by decide +kernel
theorem dX3_measure_17 : decode cX3_measure 17 = .ok (.iload_n 1, 1) := by decide +kernel
theorem dX3_measure_18 : decode cX3_measure 18 = .ok (.aload_n 0, 1) := by decide +kernel
theorem dX3_measure_19 : decode cX3_measure 19 = .ok (.getfield 41, 3) := by decide +kernel
theorem dX3_measure_22 : decode cX3_measure 22 = .ok (.iload_n 1, 1) := by decide +kernel
theorem dX3_measure_23 : decode cX3_measure 23 = .ok (.invokevirtual 62, 3) := by decide +kernel
theorem dX3_measure_26 : decode cX3_measure 26 = .ok (.ifCond .eq 11, 3) := by decide +kernel
theorem dX3_measure_29 : decode cX3_measure 29 = .ok (.aload_n 0, 1) := by decide +kernel
theorem dX3_measure_30 : decode cX3_measure 30 = .ok (.iload_n 1, 1) := by decide +kernel
theorem dX3_measure_31 : decode cX3_measure 31 = .ok (.invokevirtual 66, 3) := by decide +kernel
theorem dX3_measure_34 : decode cX3_measure 34 = .ok (.goto 4, 3) := by decide +kernel
theorem dX3_measure_37 : decode cX3_measure 37 = .ok (.iconst 0, 1) := by decide +kernel
theorem dX3_measure_38 : decode cX3_measure 38 = .ok (.iastore, 1) := by decide +kernel
theorem dX3_measure_39 : decode cX3_measure 39 = .ok (.iinc 1 1, 3) := by decide +kernel
theorem dX3_measure_42 : decode cX3_measure 42 = .ok (.goto (-40), 3) := by decide +kernel
theorem dX3_measure_45 : decode cX3_measure 45 = .ok (.aload_n 0, 1) := by decide +kernel
theorem dX3_measure_46 : decode cX3_measure 46 = .ok (.getfield 41, 3) := by decide +kernel
theorem dX3_measure_49 : decode cX3_measure 49 = .ok (.getfield 48, 3) := by decide +kernel
theorem dX3_measure_52 : decode cX3_measure 52 = .ok (.iconst 1, 1) := by decide +kernel
theorem dX3_measure_53 : decode cX3_measure 53 = .ok (.isub, 1) := by decide +kernel
theorem dX3_measure_54 : decode cX3_measure 54 = .ok (.istore_n 1, 1) := by decide +kernel
theorem dX3_measure_55 : decode cX3_measure 55 = .ok (.iload_n 1, 1) := by decide +kernel
theorem dX3_measure_56 : decode cX3_measure 56 = .ok (.ifCond .le 57, 3) := by decide +kernel
theorem dX3_measure_59 : decode cX3_measure 59 = .ok (.aload_n 0, 1) := by decide +kernel
theorem dX3_measure_60 : decode cX3_measure 60 = .ok (.getfield 41, 3) := by decide +kernel
theorem dX3_measure_63 : decode cX3_measure 63 = .ok (.iload_n 1, 1) := by decide +kernel
theorem dX3_measure_64 : decode cX3_measure 64 = .ok (.iconst 2, 1) := by decide +kernel
theorem dX3_measure_65 : decode cX3_measure 65 = .ok (.invokevirtual 51, 3) := by decide +kernel
theorem dX3_measure_68 : decode cX3_measure 68 = .ok (.istore_n 2, 1) := by decide +kernel
theorem dX3_measure_69 : decode cX3_measure 69 = .ok (.iload_n 2, 1) := by decide +kernel
theorem dX3_measure_70 : decode cX3_measure 70 = .ok (.iconst (-1), 1) := by decide +kernel
theorem dX3_measure_71 : decode cX3_measure 71 = .ok (.if_icmp .eq 36, 3) := by decide +kernel
theorem dX3_measure_74 : decode cX3_measure 74 = .ok (.aload_n 0, 1) := by decide +kernel
theorem dX3_measure_75 : decode cX3_measure 75 = .ok (.getfield 15, 3) := by decide +kernel
theorem dX3_measure_78 : decode cX3_measure 78 = .ok (.iload_n 2, 1) := by decide +kernel
theorem dX3_measure_79 : decode cX3_measure 79 = .ok (.dup2, 1) := by decide +kernel
theorem dX3_measure_80 : decode cX3_measure 80 = .ok (.iaload, 1) := by decide +kernel
theorem dX3_measure_81 : decode cX3_measure 81 = .ok (.aload_n 0, 1) := by decide +kernel
theorem dX3_measure_82 : decode cX3_measure 82 = .ok (.getfield 15, 3) := by decide +kernel
theorem dX3_measure_85 : decode cX3_measure 85 = .ok (.iload_n 1, 1) := by decide +kernel
theorem dX3_measure_86 : decode cX3_measure 86 = .ok (.iaload, 1) := by decide +kernel
theorem dX3_measure_87 : decode cX3_measure 87 = .ok (.aload_n 0, 1) := by decide +kernel
theorem dX3_measure_88 : decode cX3_measure 88 = .ok (.iload_n 1, 1) := by decide +kernel
theorem dX3_measure_89 : decode cX3_measure 89 = .ok (.invokevirtual 70, 3) := by decide +kernel
theorem dX3_measure_92 : decode cX3_measure 92 = .ok (.ifCond .eq 11, 3) := by decide +kernel
theorem dX3_measure_95 : decode cX3_measure 95 = .ok (.aload_n 0, 1) := by decide +kernel
theorem dX3_measure_96 : decode cX3_measure 96 = .ok (.iload_n 1, 1) := by decide +kernel
theorem dX3_measure_97 : decode cX3_measure 97 = .ok (.invokevirtual 73, 3) := by decide +kernel
theorem dX3_measure_100 : decode cX3_measure 100 = .ok (.goto 4, 3) := by decide +kernel
theorem dX3_measure_103 : decode cX3_measure 103 = .ok (.iconst 0, 1) := by decide +kernel
theorem dX3_measure_104 : decode cX3_measure 104 = .ok (.iadd, 1) := by decide +kernel
theorem dX3_measure_105 : decode cX3_measure 105 = .ok (.iadd, 1) := by decide +kernel
theorem dX3_measure_106 : decode cX3_measure 106 = .ok (.iastore, 1) := by decide +kernel
theorem dX3_measure_107 : decode cX3_measure 107 = .ok (.iinc 1 (-1), 3) := by decide +kernel
theorem dX3_measure_110 : decode cX3_measure 110 = .ok (.goto (-55), 3) := by decide +kernel
theorem dX3_measure_113 : decode cX3_measure 113 = .ok (.return_, 1) := by decide +kernel
theorem dX3_leafWidth_0 : decode cX3_leafWidth 0 = .ok (.aload_n 0, 1) := by decide +kernel
theorem dX3_leafWidth_1 : decode cX3_leafWidth 1 = .ok (.getfield 41, 3) := by decide +kernel
theorem dX3_leafWidth_4 : decode cX3_leafWidth 4 = .ok (.iload_n 1, 1) := by decide +kernel
theorem dX3_leafWidth_5 : decode cX3_leafWidth 5 = .ok (.iconst 3, 1) := by decide +kernel
theorem dX3_leafWidth_6 : decode cX3_leafWidth 6 = .ok (.invokevirtual 51, 3) := by decide +kernel
theorem dX3_leafWidth_9 : decode cX3_leafWidth 9 = .ok (.istore_n 2, 1) := by decide +kernel
theorem dX3_leafWidth_10 : decode cX3_leafWidth 10 = .ok (.aload_n 0, 1) := by decide +kernel
theorem dX3_leafWidth_11 : decode cX3_leafWidth 11 = .ok (.getfield 41, 3) := by decide +kernel
theorem dX3_leafWidth_14 : decode cX3_leafWidth 14 = .ok (.iload_n 1, 1) := by decide +kernel
theorem dX3_leafWidth_15 : decode cX3_leafWidth 15 = .ok (.iconst 4, 1) := by decide +kernel
theorem dX3_leafWidth_16 : decode cX3_leafWidth 16 = .ok (.invokevirtual 51, 3) := by decide +kernel
theorem dX3_leafWidth_19 : decode cX3_leafWidth 19 = .ok (.istore_n 3, 1) := by decide +kernel
theorem dX3_leafWidth_20 : decode cX3_leafWidth 20 = .ok (.iconst 0, 1) := by decide +kernel
theorem dX3_leafWidth_21 : decode cX3_leafWidth 21 = .ok (.iload_n 3, 1) := by decide +kernel
theorem dX3_leafWidth_22 : decode cX3_leafWidth 22 = .ok (.iconst 1, 1) := by decide +kernel
theorem dX3_leafWidth_23 : decode cX3_leafWidth 23 = .ok (.isub, 1) := by decide +kernel
theorem dX3_leafWidth_24 : decode cX3_leafWidth 24 = .ok (.invokestatic 76, 3) := by decide +kernel
theorem dX3_leafWidth_27 : decode cX3_leafWidth 27 = .ok (.istore 4, 2) := by decide +kernel
theorem dX3_leafWidth_29 : decode cX3_leafWidth 29 = .ok (.iload_n 2, 1) := by decide +kernel
theorem dX3_leafWidth_30 : decode cX3_leafWidth 30 = .ok (.istore 5, 2) := by decide +kernel
theorem dX3_leafWidth_32 : decode cX3_leafWidth 32 = .ok (.iload 5, 2) := by decide +kernel
theorem dX3_leafWidth_34 : decode cX3_leafWidth 34 = .ok (.iload_n 2, 1) := by decide +kernel
theorem dX3_leafWidth_35 : decode cX3_leafWidth 35 = .ok (.iload_n 3, 1) := by decide +kernel
theorem dX3_leafWidth_36 : decode cX3_leafWidth 36 = .ok (.iadd, 1) := by decide +kernel
theorem dX3_leafWidth_37 : decode cX3_leafWidth 37 = .ok (.if_icmp .ge 23, 3) := by decide +kernel
theorem dX3_leafWidth_40 : decode cX3_leafWidth 40 = .ok (.iload 4, 2) := by decide +kernel
theorem dX3_leafWidth_42 : decode cX3_leafWidth 42 = .ok (.aload_n 0, 1) := by decide +kernel
theorem dX3_leafWidth_43 : decode cX3_leafWidth 43 = .ok (.getfield 37, 3) := by decide +kernel
theorem dX3_leafWidth_46 : decode cX3_leafWidth 46 = .ok (.iload 5, 2) := by decide +kernel
theorem dX3_leafWidth_48 : decode cX3_leafWidth 48 = .ok (.invokevirtual 81, 3) := by decide +kernel
theorem dX3_leafWidth_51 : decode cX3_leafWidth 51 = .ok (.iadd, 1) := by decide +kernel
theorem dX3_leafWidth_52 : decode cX3_leafWidth 52 = .ok (.istore 4, 2) := by decide +kernel
theorem dX3_leafWidth_54 : decode cX3_leafWidth 54 = .ok (.iinc 5 1, 3) := by decide +kernel
theorem dX3_leafWidth_57 : decode cX3_leafWidth 57 = .ok (.goto (-25), 3) := by decide +kernel
theorem dX3_leafWidth_60 : decode cX3_leafWidth 60 = .ok (.iload 4, 2) := by decide +kernel
theorem dX3_leafWidth_62 : decode cX3_leafWidth 62 = .ok (.ireturn, 1) := by decide +kernel
theorem dX3_hasGap_0 : decode cX3_hasGap 0 = .ok (.aload_n 0, 1) := by decide +kernel
theorem dX3_hasGap_1 : decode cX3_hasGap 1 = .ok (.getfield 41, 3) := by decide +kernel
theorem dX3_hasGap_4 : decode cX3_hasGap 4 = .ok (.iload_n 1, 1) := by decide +kernel
theorem dX3_hasGap_5 : decode cX3_hasGap 5 = .ok (.iconst 2, 1) := by decide +kernel
theorem dX3_hasGap_6 : decode cX3_hasGap 6 = .ok (.invokevirtual 51, 3) := by decide +kernel
theorem dX3_hasGap_9 : decode cX3_hasGap 9 = .ok (.istore_n 2, 1) := by decide +kernel
theorem dX3_hasGap_10 : decode cX3_hasGap 10 = .ok (.iload_n 2, 1) := by decide +kernel
theorem dX3_hasGap_11 : decode cX3_hasGap 11 = .ok (.iconst (-1), 1) := by decide +kernel
theorem dX3_hasGap_12 : decode cX3_hasGap 12 = .ok (.if_icmp .eq 40, 3) := by decide +kernel
theorem dX3_hasGap_15 : decode cX3_hasGap 15 = .ok (.aload_n 0, 1) := by decide +kernel
theorem dX3_hasGap_16 : decode cX3_hasGap 16 = .ok (.getfield 41, 3) := by decide +kernel
theorem dX3_hasGap_19 : decode cX3_hasGap 19 = .ok (.iload_n 1, 1) := by decide +kernel
theorem dX3_hasGap_20 : decode cX3_hasGap 20 = .ok (.iconst 4, 1) := by decide +kernel
theorem dX3_hasGap_21 : decode cX3_hasGap 21 = .ok (.invokevirtual 51, 3) := by decide +kernel
theorem dX3_hasGap_24 : decode cX3_hasGap 24 = .ok (.ifCond .le 28, 3) := by decide +kernel
theorem dX3_hasGap_27 : decode cX3_hasGap 27 = .ok (.aload_n 0, 1) := by decide +kernel
theorem dX3_hasGap_28 : decode cX3_hasGap 28 = .ok (.getfield 41, 3) := by decide +kernel
theorem dX3_hasGap_31 : decode cX3_hasGap 31 = .ok (.iload_n 1, 1) := by decide +kernel
theorem dX3_hasGap_32 : decode cX3_hasGap 32 = .ok (.iconst 3, 1) := by decide +kernel
theorem dX3_hasGap_33 : decode cX3_hasGap 33 = .ok (.invokevirtual 51, 3) := by decide +kernel
theorem dX3_hasGap_36 : decode cX3_hasGap 36 = .ok (.aload_n 0, 1) := by decide +kernel
theorem dX3_hasGap_37 : decode cX3_hasGap 37 = .ok (.getfield 41, 3) := by decide +kernel
theorem dX3_hasGap_40 : decode cX3_hasGap 40 = .ok (.iload_n 2, 1) := by decide +kernel
theorem dX3_hasGap_41 : decode cX3_hasGap 41 = .ok (.iconst 3, 1) := by decide +kernel
theorem dX3_hasGap_42 : decode cX3_hasGap 42 = .ok (.invokevirtual 51, 3) := by decide +kernel
theorem dX3_hasGap_45 : decode cX3_hasGap 45 = .ok (.if_icmp .eq 7, 3) := by decide +kernel
theorem dX3_hasGap_48 : decode cX3_hasGap 48 = .ok (.iconst 1, 1) := by decide +kernel
theorem dX3_hasGap_49 : decode cX3_hasGap 49 = .ok (.goto 4, 3) := by decide +kernel
theorem dX3_hasGap_52 : decode cX3_hasGap 52 = .ok (.iconst 0, 1) := by decide +kernel
theorem dX3_hasGap_53 : decode cX3_hasGap 53 = .ok (.ireturn, 1) := by decide +kernel
theorem dX3_flatGap_0 : decode cX3_flatGap 0 = .ok (.aload_n 0, 1) := by decide +kernel
theorem dX3_flatGap_1 : decode cX3_flatGap 1 = .ok (.getfield 41, 3) := by decide +kernel
theorem dX3_flatGap_4 : decode cX3_flatGap 4 = .ok (.getfield 86, 3) := by decide +kernel
theorem dX3_flatGap_7 : decode cX3_flatGap 7 = .ok (.iload_n 1, 1) := by decide +kernel
theorem dX3_flatGap_8 : decode cX3_flatGap 8 = .ok (.iaload, 1) := by decide +kernel
theorem dX3_flatGap_9 : decode cX3_flatGap 9 = .ok (.ifCond .ne 26, 3) := by decide +kernel
theorem dX3_flatGap_12 : decode cX3_flatGap 12 = .ok (.aload_n 0, 1) := by decide +kernel
theorem dX3_flatGap_13 : decode cX3_flatGap 13 = .ok (.getfield 37, 3) := by decide +kernel
theorem dX3_flatGap_16 : decode cX3_flatGap 16 = .ok (.aload_n 0, 1) := by decide +kernel
theorem dX3_flatGap_17 : decode cX3_flatGap 17 = .ok (.getfield 41, 3) := by decide +kernel
theorem dX3_flatGap_20 : decode cX3_flatGap 20 = .ok (.iload_n 1, 1) := by decide +kernel
theorem dX3_flatGap_21 : decode cX3_flatGap 21 = .ok (.iconst 3, 1) := by decide +kernel
theorem dX3_flatGap_22 : decode cX3_flatGap 22 = .ok (.invokevirtual 51, 3) := by decide +kernel
theorem dX3_flatGap_25 : decode cX3_flatGap 25 = .ok (.invokevirtual 89, 3) := by decide +kernel
theorem dX3_flatGap_28 : decode cX3_flatGap 28 = .ok (.ifCond .ne 7, 3) := by decide +kernel
theorem dX3_flatGap_31 : decode cX3_flatGap 31 = .ok (.iconst 1, 1) := by decide +kernel
theorem dX3_flatGap_32 : decode cX3_flatGap 32 = .ok (.goto 4, 3) := by decide +kernel
theorem dX3_flatGap_35 : decode cX3_flatGap 35 = .ok (.iconst 0, 1) := by decide +kernel
theorem dX3_flatGap_36 : decode cX3_flatGap 36 = .ok (.istore_n 2, 1) := by decide +kernel
theorem dX3_flatGap_37 : decode cX3_flatGap 37 = .ok (.iload_n 2, 1) := by decide +kernel
theorem dX3_flatGap_38 : decode cX3_flatGap 38 = .ok (.ifCond .eq 7, 3) := by decide +kernel
theorem dX3_flatGap_41 : decode cX3_flatGap 41 = .ok (.iconst 0, 1) := by decide +kernel
theorem dX3_flatGap_42 : decode cX3_flatGap 42 = .ok (.goto 4, 3) := by decide +kernel
theorem dX3_flatGap_45 : decode cX3_flatGap 45 = .ok (.iconst 1, 1) := by decide +kernel
theorem dX3_flatGap_46 : decode cX3_flatGap 46 = .ok (.ireturn, 1) := by decide +kernel
theorem dX3_layPart_0 : decode cX3_layPart 0 = .ok (.aload_n 0, 1) := by decide +kernel
theorem dX3_layPart_1 : decode cX3_layPart 1 = .ok (.getfield 41, 3) := by decide +kernel
theorem dX3_layPart_4 : decode cX3_layPart 4 = .ok (.iload_n 1, 1) := by decide +kernel
theorem dX3_layPart_5 : decode cX3_layPart 5 = .ok (.iconst 2, 1) := by decide +kernel
theorem dX3_layPart_6 : decode cX3_layPart 6 = .ok (.invokevirtual 51, 3) := by decide +kernel
theorem dX3_layPart_9 : decode cX3_layPart 9 = .ok (.istore_n 3, 1) := by decide +kernel
theorem dX3_layPart_10 : decode cX3_layPart 10 = .ok (.aload_n 0, 1) := by decide +kernel
theorem dX3_layPart_11 : decode cX3_layPart 11 = .ok (.iload_n 1, 1) := by decide +kernel
theorem dX3_layPart_12 : decode cX3_layPart 12 = .ok (.invokevirtual 70, 3) := by decide +kernel
theorem dX3_layPart_15 : decode cX3_layPart 15 = .ok (.ifCond .eq 9, 3) := by decide +kernel
theorem dX3_layPart_18 : decode cX3_layPart 18 = .ok (.aload_n 0, 1) := by decide +kernel
theorem dX3_layPart_19 : decode cX3_layPart 19 = .ok (.iload_n 1, 1) := by decide +kernel
theorem dX3_layPart_20 : decode cX3_layPart 20 = .ok (.iload_n 3, 1) := by decide +kernel
theorem dX3_layPart_21 : decode cX3_layPart 21 = .ok (.invokevirtual 92, 3) := by decide +kernel
theorem dX3_layPart_24 : decode cX3_layPart 24 = .ok (.aload_n 0, 1) := by decide +kernel
theorem dX3_layPart_25 : decode cX3_layPart 25 = .ok (.getfield 41, 3) := by decide +kernel
theorem dX3_layPart_28 : decode cX3_layPart 28 = .ok (.iload_n 1, 1) := by decide +kernel
theorem dX3_layPart_29 : decode cX3_layPart 29 = .ok (.iconst 3, 1) := by decide +kernel
theorem dX3_layPart_30 : decode cX3_layPart 30 = .ok (.invokevirtual 51, 3) := by decide +kernel
theorem dX3_layPart_33 : decode cX3_layPart 33 = .ok (.istore 4, 2) := by decide +kernel
theorem dX3_layPart_35 : decode cX3_layPart 35 = .ok (.aload_n 0, 1) := by decide +kernel
theorem dX3_layPart_36 : decode cX3_layPart 36 = .ok (.getfield 41, 3) := by decide +kernel
theorem dX3_layPart_39 : decode cX3_layPart 39 = .ok (.iload_n 1, 1) := by decide +kernel
theorem dX3_layPart_40 : decode cX3_layPart 40 = .ok (.invokevirtual 62, 3) := by decide +kernel
theorem dX3_layPart_43 : decode cX3_layPart 43 = .ok (.ifCond .eq 22, 3) := by decide +kernel
theorem dX3_layPart_46 : decode cX3_layPart 46 = .ok (.aload_n 0, 1) := by decide +kernel
theorem dX3_layPart_47 : decode cX3_layPart 47 = .ok (.iload 4, 2) := by decide +kernel
theorem dX3_layPart_49 : decode cX3_layPart 49 = .ok (.iload 4, 2) := by decide +kernel
theorem dX3_layPart_51 : decode cX3_layPart 51 = .ok (.aload_n 0, 1) := by decide +kernel
theorem dX3_layPart_52 : decode cX3_layPart 52 = .ok (.getfield 41, 3) := by decide +kernel
theorem dX3_layPart_55 : decode cX3_layPart 55 = .ok (.iload_n 1, 1) := by decide +kernel
theorem dX3_layPart_56 : decode cX3_layPart 56 = .ok (.iconst 4, 1) := by decide +kernel
theorem dX3_layPart_57 : decode cX3_layPart 57 = .ok (.invokevirtual 51, 3) := by decide +kernel
theorem dX3_layPart_60 : decode cX3_layPart 60 = .ok (.iadd, 1) := by decide +kernel
theorem dX3_layPart_61 : decode cX3_layPart 61 = .ok (.invokevirtual 95, 3) := by decide +kernel
theorem dX3_layPart_64 : decode cX3_layPart 64 = .ok (.return_, 1) := by decide +kernel
theorem dX3_layPart_65 : decode cX3_layPart 65 = .ok (.aload_n 0, 1) := by decide +kernel
theorem dX3_layPart_66 : decode cX3_layPart 66 = .ok (.getfield 19, 3) := by decide +kernel
theorem dX3_layPart_69 : decode cX3_layPart 69 = .ok (.iload_n 1, 1) := by decide +kernel
theorem dX3_layPart_70 : decode cX3_layPart 70 = .ok (.aload_n 0, 1) := by decide +kernel
theorem dX3_layPart_71 : decode cX3_layPart 71 = .ok (.getfield 15, 3) := by decide +kernel
theorem dX3_layPart_74 : decode cX3_layPart 74 = .ok (.iload_n 1, 1) := by decide +kernel
theorem dX3_layPart_75 : decode cX3_layPart 75 = .ok (.iaload, 1) := by decide +kernel
theorem dX3_layPart_76 : decode cX3_layPart 76 = .ok (.iload_n 2, 1) := by decide +kernel
theorem dX3_layPart_77 : decode cX3_layPart 77 = .ok (.aload_n 0, 1) := by decide +kernel
theorem dX3_layPart_78 : decode cX3_layPart 78 = .ok (.getfield 30, 3) := by decide +kernel
theorem dX3_layPart_81 : decode cX3_layPart 81 = .ok (.isub, 1) := by decide +kernel
theorem dX3_layPart_82 : decode cX3_layPart 82 = .ok (.if_icmp .le 7, 3) := by decide +kernel
theorem dX3_layPart_85 : decode cX3_layPart 85 = .ok (.iconst 1, 1) := by decide +kernel
theorem dX3_layPart_86 : decode cX3_layPart 86 = .ok (.goto 4, 3) := by decide +kernel
theorem dX3_layPart_89 : decode cX3_layPart 89 = .ok (.iconst 0, 1) := by decide +kernel
theorem dX3_layPart_90 : decode cX3_layPart 90 = .ok (.bastore, 1) := by decide +kernel
theorem dX3_layPart_91 : decode cX3_layPart 91 = .ok (.aload_n 0, 1) := by decide +kernel
theorem dX3_layPart_92 : decode cX3_layPart 92 = .ok (.getfield 23, 3) := by decide +kernel
theorem dX3_layPart_95 : decode cX3_layPart 95 = .ok (.iload_n 1, 1) := by decide +kernel
theorem dX3_layPart_96 : decode cX3_layPart 96 = .ok (.iload_n 3, 1) := by decide +kernel
theorem dX3_layPart_97 : decode cX3_layPart 97 = .ok (.iconst (-1), 1) := by decide +kernel
theorem dX3_layPart_98 : decode cX3_layPart 98 = .ok (.if_icmp .ne 7, 3) := by decide +kernel
theorem dX3_layPart_101 : decode cX3_layPart 101 = .ok (.iconst 0, 1) := by decide +kernel
theorem dX3_layPart_102 : decode cX3_layPart 102 = .ok (.goto 9, 3) := by decide +kernel
theorem dX3_layPart_105 : decode cX3_layPart 105 = .ok (.aload_n 0, 1) := by decide +kernel
theorem dX3_layPart_106 : decode cX3_layPart 106 = .ok (.getfield 23, 3) := by decide +kernel
theorem dX3_layPart_109 : decode cX3_layPart 109 = .ok (.iload_n 3, 1) := by decide +kernel
theorem dX3_layPart_110 : decode cX3_layPart 110 = .ok (.iaload, 1) := by decide +kernel
theorem dX3_layPart_111 : decode cX3_layPart 111 = .ok (.iastore, 1) := by decide +kernel
theorem dX3_layPart_112 : decode cX3_layPart 112 = .ok (.aload_n 0, 1) := by decide +kernel
theorem dX3_layPart_113 : decode cX3_layPart 113 = .ok (.getfield 19, 3) := by decide +kernel
theorem dX3_layPart_116 : decode cX3_layPart 116 = .ok (.iload_n 1, 1) := by decide +kernel
theorem dX3_layPart_117 : decode cX3_layPart 117 = .ok (.baload, 1) := by decide +kernel
theorem dX3_layPart_118 : decode cX3_layPart 118 = .ok (.ifCond .eq 33, 3) := by decide +kernel
theorem dX3_layPart_121 : decode cX3_layPart 121 = .ok (.aload_n 0, 1) := by decide +kernel
theorem dX3_layPart_122 : decode cX3_layPart 122 = .ok (.getfield 33, 3) := by decide +kernel
theorem dX3_layPart_125 : decode cX3_layPart 125 = .ok (.getfield 98, 3) := by decide +kernel
theorem dX3_layPart_128 : decode cX3_layPart 128 = .ok (.aload_n 0, 1) := by decide +kernel
theorem dX3_layPart_129 : decode cX3_layPart 129 = .ok (.getfield 41, 3) := by decide +kernel
theorem dX3_layPart_132 : decode cX3_layPart 132 = .ok (.iload_n 1, 1) := by decide +kernel
theorem dX3_layPart_133 : decode cX3_layPart 133 = .ok (.iconst 0, 1) := by decide +kernel
theorem dX3_layPart_134 : decode cX3_layPart 134 = .ok (.invokevirtual 51, 3) := by decide +kernel
theorem dX3_layPart_137 : decode cX3_layPart 137 = .ok (.baload, 1) := by decide +kernel
theorem dX3_layPart_138 : decode cX3_layPart 138 = .ok (.ifCond .eq 13, 3) := by decide +kernel
theorem dX3_layPart_141 : decode cX3_layPart 141 = .ok (.aload_n 0, 1) := by decide +kernel
theorem dX3_layPart_142 : decode cX3_layPart 142 = .ok (.getfield 23, 3) := by decide +kernel
theorem dX3_layPart_145 : decode cX3_layPart 145 = .ok (.iload_n 1, 1) := by decide +kernel
theorem dX3_layPart_146 : decode cX3_layPart 146 = .ok (.dup2, 1) := by decide +kernel
theorem dX3_layPart_147 : decode cX3_layPart 147 = .ok (.iaload, 1) := by decide +kernel
theorem dX3_layPart_148 : decode cX3_layPart 148 = .ok (.iconst 2, 1) := by decide +kernel
theorem dX3_layPart_149 : decode cX3_layPart 149 = .ok (.iadd, 1) := by decide +kernel
theorem dX3_layPart_150 : decode cX3_layPart 150 = .ok (.iastore, 1) := by decide +kernel
theorem dX3_layPart_151 : decode cX3_layPart 151 = .ok (.return_, 1) := by decide +kernel
theorem dX3_layGap_0 : decode cX3_layGap 0 = .ok (.aload_n 0, 1) := by decide +kernel
theorem dX3_layGap_1 : decode cX3_layGap 1 = .ok (.getfield 41, 3) := by decide +kernel
theorem dX3_layGap_4 : decode cX3_layGap 4 = .ok (.getfield 86, 3) := by decide +kernel
theorem dX3_layGap_7 : decode cX3_layGap 7 = .ok (.iload_n 1, 1) := by decide +kernel
theorem dX3_layGap_8 : decode cX3_layGap 8 = .ok (.iaload, 1) := by decide +kernel
theorem dX3_layGap_9 : decode cX3_layGap 9 = .ok (.iconst 2, 1) := by decide +kernel
theorem dX3_layGap_10 : decode cX3_layGap 10 = .ok (.if_icmp .ne 50, 3) := by decide +kernel
theorem dX3_layGap_13 : decode cX3_layGap 13 = .ok (.aload_n 0, 1) := by decide +kernel
theorem dX3_layGap_14 : decode cX3_layGap 14 = .ok (.getfield 19, 3) := by decide +kernel
theorem dX3_layGap_17 : decode cX3_layGap 17 = .ok (.iload_n 2, 1) := by decide +kernel
theorem dX3_layGap_18 : decode cX3_layGap 18 = .ok (.baload, 1) := by decide +kernel
theorem dX3_layGap_19 : decode cX3_layGap 19 = .ok (.ifCond .eq 41, 3) := by decide +kernel
theorem dX3_layGap_22 : decode cX3_layGap 22 = .ok (.aload_n 0, 1) := by decide +kernel
theorem dX3_layGap_23 : decode cX3_layGap 23 = .ok (.bipush 10, 2) := by decide +kernel
theorem dX3_layGap_25 : decode cX3_layGap 25 = .ok (.invokevirtual 103, 3) := by decide +kernel
theorem dX3_layGap_28 : decode cX3_layGap 28 = .ok (.aload_n 0, 1) := by decide +kernel
theorem dX3_layGap_29 : decode cX3_layGap 29 = .ok (.iconst 0, 1) := by decide +kernel
theorem dX3_layGap_30 : decode cX3_layGap 30 = .ok (.putfield 30, 3) := by decide +kernel
theorem dX3_layGap_33 : decode cX3_layGap 33 = .ok (.iconst 0, 1) := by decide +kernel
theorem dX3_layGap_34 : decode cX3_layGap 34 = .ok (.istore_n 3, 1) := by decide +kernel
theorem dX3_layGap_35 : decode cX3_layGap 35 = .ok (.iload_n 3, 1) := by decide +kernel
theorem dX3_layGap_36 : decode cX3_layGap 36 = .ok (.aload_n 0, 1) := by decide +kernel
theorem dX3_layGap_37 : decode cX3_layGap 37 = .ok (.getfield 23, 3) := by decide +kernel
theorem dX3_layGap_40 : decode cX3_layGap 40 = .ok (.iload_n 2, 1) := by decide +kernel
theorem dX3_layGap_41 : decode cX3_layGap 41 = .ok (.iaload, 1) := by decide +kernel
theorem dX3_layGap_42 : decode cX3_layGap 42 = .ok (.if_icmp .ge 15, 3) := by decide +kernel
theorem dX3_layGap_45 : decode cX3_layGap 45 = .ok (.aload_n 0, 1) := by decide +kernel
theorem dX3_layGap_46 : decode cX3_layGap 46 = .ok (.bipush 32, 2) := by decide +kernel
theorem dX3_layGap_48 : decode cX3_layGap 48 = .ok (.invokevirtual 103, 3) := by decide +kernel
theorem dX3_layGap_51 : decode cX3_layGap 51 = .ok (.iinc 3 1, 3) := by decide +kernel
theorem dX3_layGap_54 : decode cX3_layGap 54 = .ok (.goto (-19), 3) := by decide +kernel
theorem dX3_layGap_57 : decode cX3_layGap 57 = .ok (.goto 17, 3) := by decide +kernel
theorem dX3_layGap_60 : decode cX3_layGap 60 = .ok (.aload_n 0, 1) := by decide +kernel
theorem dX3_layGap_61 : decode cX3_layGap 61 = .ok (.iload_n 1, 1) := by decide +kernel
theorem dX3_layGap_62 : decode cX3_layGap 62 = .ok (.invokevirtual 73, 3) := by decide +kernel
theorem dX3_layGap_65 : decode cX3_layGap 65 = .ok (.ifCond .le 9, 3) := by decide +kernel
theorem dX3_layGap_68 : decode cX3_layGap 68 = .ok (.aload_n 0, 1) := by decide +kernel
theorem dX3_layGap_69 : decode cX3_layGap 69 = .ok (.bipush 32, 2) := by decide +kernel
theorem dX3_layGap_71 : decode cX3_layGap 71 = .ok (.invokevirtual 103, 3) := by decide +kernel
theorem dX3_layGap_74 : decode cX3_layGap 74 = .ok (.return_, 1) := by decide +kernel
theorem dX3_layTokens_0 : decode cX3_layTokens 0 = .ok (.iload_n 1, 1) := by decide +kernel
theorem dX3_layTokens_1 : decode cX3_layTokens 1 = .ok (.istore_n 3, 1) := by decide +kernel
theorem dX3_layTokens_2 : decode cX3_layTokens 2 = .ok (.iload_n 3, 1) := by decide +kernel
theorem dX3_layTokens_3 : decode cX3_layTokens 3 = .ok (.iload_n 2, 1) := by decide +kernel
theorem dX3_layTokens_4 : decode cX3_layTokens 4 = .ok (.if_icmp .ge 74, 3) := by decide +kernel
theorem dX3_layTokens_7 : decode cX3_layTokens 7 = .ok (.iload_n 3, 1) := by decide +kernel
theorem dX3_layTokens_8 : decode cX3_layTokens 8 = .ok (.iload_n 1, 1) := by decide +kernel
theorem dX3_layTokens_9 : decode cX3_layTokens 9 = .ok (.if_icmp .le 9, 3) := by decide +kernel
theorem dX3_layTokens_12 : decode cX3_layTokens 12 = .ok (.aload_n 0, 1) := by decide +kernel
theorem dX3_layTokens_13 : decode cX3_layTokens 13 = .ok (.bipush 32, 2) := by decide +kernel
theorem dX3_layTokens_15 : decode cX3_layTokens 15 = .ok (.invokevirtual 103, 3) := by decide +kernel
theorem dX3_layTokens_18 : decode cX3_layTokens 18 = .ok (.aload_n 0, 1) := by decide +kernel
theorem dX3_layTokens_19 : decode cX3_layTokens 19 = .ok (.iload_n 3, 1) := by decide +kernel
theorem dX3_layTokens_20 : decode cX3_layTokens 20 = .ok (.invokevirtual 107, 3) := by decide +kernel
theorem dX3_layTokens_23 : decode cX3_layTokens 23 = .ok (.aload_n 0, 1) := by decide +kernel
theorem dX3_layTokens_24 : decode cX3_layTokens 24 = .ok (.getfield 37, 3) := by decide +kernel
theorem dX3_layTokens_27 : decode cX3_layTokens 27 = .ok (.iload_n 3, 1) := by decide +kernel
theorem dX3_layTokens_28 : decode cX3_layTokens 28 = .ok (.invokevirtual 110, 3) := by decide +kernel
theorem dX3_layTokens_31 : decode cX3_layTokens 31 = .ok (.ifCond .le 9, 3) := by decide +kernel
theorem dX3_layTokens_34 : decode cX3_layTokens 34 = .ok (.aload_n 0, 1) := by decide +kernel
theorem dX3_layTokens_35 : decode cX3_layTokens 35 = .ok (.bipush 32, 2) := by decide +kernel
theorem dX3_layTokens_37 : decode cX3_layTokens 37 = .ok (.invokevirtual 103, 3) := by decide +kernel
theorem dX3_layTokens_40 : decode cX3_layTokens 40 = .ok (.aload_n 0, 1) := by decide +kernel
theorem dX3_layTokens_41 : decode cX3_layTokens 41 = .ok (.aload_n 0, 1) := by decide +kernel
theorem dX3_layTokens_42 : decode cX3_layTokens 42 = .ok (.getfield 37, 3) := by decide +kernel
theorem dX3_layTokens_45 : decode cX3_layTokens 45 = .ok (.getfield 113, 3) := by decide +kernel
theorem dX3_layTokens_48 : decode cX3_layTokens 48 = .ok (.iload_n 3, 1) := by decide +kernel
theorem dX3_layTokens_49 : decode cX3_layTokens 49 = .ok (.iaload, 1) := by decide +kernel
theorem dX3_layTokens_50 : decode cX3_layTokens 50 = .ok (.aload_n 0, 1) := by decide +kernel
theorem dX3_layTokens_51 : decode cX3_layTokens 51 = .ok (.getfield 37, 3) := by decide +kernel
theorem dX3_layTokens_54 : decode cX3_layTokens 54 = .ok (.getfield 113, 3) := by decide +kernel
theorem dX3_layTokens_57 : decode cX3_layTokens 57 = .ok (.iload_n 3, 1) := by decide +kernel
theorem dX3_layTokens_58 : decode cX3_layTokens 58 = .ok (.iaload, 1) := by decide +kernel
theorem dX3_layTokens_59 : decode cX3_layTokens 59 = .ok (.aload_n 0, 1) := by decide +kernel
theorem dX3_layTokens_60 : decode cX3_layTokens 60 = .ok (.getfield 37, 3) := by decide +kernel
theorem dX3_layTokens_63 : decode cX3_layTokens 63 = .ok (.getfield 116, 3) := by decide +kernel
theorem dX3_layTokens_66 : decode cX3_layTokens 66 = .ok (.iload_n 3, 1) := by decide +kernel
theorem dX3_layTokens_67 : decode cX3_layTokens 67 = .ok (.iaload, 1) := by decide +kernel
theorem dX3_layTokens_68 : decode cX3_layTokens 68 = .ok (.iadd, 1) := by decide +kernel
theorem dX3_layTokens_69 : decode cX3_layTokens 69 = .ok (.invokevirtual 119, 3) := by decide +kernel
theorem dX3_layTokens_72 : decode cX3_layTokens 72 = .ok (.iinc 3 1, 3) := by decide +kernel
theorem dX3_layTokens_75 : decode cX3_layTokens 75 = .ok (.goto (-73), 3) := by decide +kernel
theorem dX3_layTokens_78 : decode cX3_layTokens 78 = .ok (.return_, 1) := by decide +kernel
theorem dX3_layComments_0 : decode cX3_layComments 0 = .ok (.aload_n 0, 1) := by decide +kernel
theorem dX3_layComments_1 : decode cX3_layComments 1 = .ok (.getfield 37, 3) := by decide +kernel
theorem dX3_layComments_4 : decode cX3_layComments 4 = .ok (.getfield 122, 3) := by decide +kernel
theorem dX3_layComments_7 : decode cX3_layComments 7 = .ok (.iload_n 1, 1) := by decide +kernel
theorem dX3_layComments_8 : decode cX3_layComments 8 = .ok (.iaload, 1) := by decide +kernel
theorem dX3_layComments_9 : decode cX3_layComments 9 = .ok (.istore_n 2, 1) := by decide +kernel
theorem dX3_layComments_10 : decode cX3_layComments 10 = .ok (.iload_n 2, 1) := by decide +kernel
theorem dX3_layComments_11 : decode cX3_layComments 11 = .ok (.istore_n 3, 1) := by decide +kernel
theorem dX3_layComments_12 : decode cX3_layComments 12 = .ok (.iload_n 3, 1) := by decide +kernel
theorem dX3_layComments_13 : decode cX3_layComments 13 = .ok (.iload_n 2, 1) := by decide +kernel
theorem dX3_layComments_14 : decode cX3_layComments 14 = .ok (.aload_n 0, 1) := by decide +kernel
theorem dX3_layComments_15 : decode cX3_layComments 15 = .ok (.getfield 37, 3) := by decide +kernel
theorem dX3_layComments_18 : decode cX3_layComments 18 = .ok (.iload_n 1, 1) := by decide +kernel
theorem dX3_layComments_19 : decode cX3_layComments 19 = .ok (.invokevirtual 110, 3) := by decide +kernel
theorem dX3_layComments_22 : decode cX3_layComments 22 = .ok (.iadd, 1) := by decide +kernel
theorem dX3_layComments_23 : decode cX3_layComments 23 = .ok (.if_icmp .ge 42, 3) := by decide +kernel
theorem dX3_layComments_26 : decode cX3_layComments 26 = .ok (.iload_n 3, 1) := by decide +kernel
theorem dX3_layComments_27 : decode cX3_layComments 27 = .ok (.iload_n 2, 1) := by decide +kernel
theorem dX3_layComments_28 : decode cX3_layComments 28 = .ok (.if_icmp .le 9, 3) := by decide +kernel
theorem dX3_layComments_31 : decode cX3_layComments 31 = .ok (.aload_n 0, 1) := by decide +kernel
theorem dX3_layComments_32 : decode cX3_layComments 32 = .ok (.bipush 32, 2) := by decide +kernel
theorem dX3_layComments_34 : decode cX3_layComments 34 = .ok (.invokevirtual 103, 3) := by decide +kernel
theorem dX3_layComments_37 : decode cX3_layComments 37 = .ok (.aload_n 0, 1) := by decide +kernel
theorem dX3_layComments_38 : decode cX3_layComments 38 = .ok (.aload_n 0, 1) := by decide +kernel
theorem dX3_layComments_39 : decode cX3_layComments 39 = .ok (.getfield 37, 3) := by decide +kernel
theorem dX3_layComments_42 : decode cX3_layComments 42 = .ok (.getfield 125, 3) := by decide +kernel
theorem dX3_layComments_45 : decode cX3_layComments 45 = .ok (.iload_n 3, 1) := by decide +kernel
theorem dX3_layComments_46 : decode cX3_layComments 46 = .ok (.iaload, 1) := by decide +kernel
theorem dX3_layComments_47 : decode cX3_layComments 47 = .ok (.aload_n 0, 1) := by decide +kernel
theorem dX3_layComments_48 : decode cX3_layComments 48 = .ok (.getfield 37, 3) := by decide +kernel
theorem dX3_layComments_51 : decode cX3_layComments 51 = .ok (.getfield 128, 3) := by decide +kernel
theorem dX3_layComments_54 : decode cX3_layComments 54 = .ok (.iload_n 3, 1) := by decide +kernel
theorem dX3_layComments_55 : decode cX3_layComments 55 = .ok (.iaload, 1) := by decide +kernel
theorem dX3_layComments_56 : decode cX3_layComments 56 = .ok (.invokevirtual 119, 3) := by decide +kernel
theorem dX3_layComments_59 : decode cX3_layComments 59 = .ok (.iinc 3 1, 3) := by decide +kernel
theorem dX3_layComments_62 : decode cX3_layComments 62 = .ok (.goto (-50), 3) := by decide +kernel
theorem dX3_layComments_65 : decode cX3_layComments 65 = .ok (.return_, 1) := by decide +kernel
theorem dX3_layEnd_0 : decode cX3_layEnd 0 = .ok (.aload_n 0, 1) := by decide +kernel
theorem dX3_layEnd_1 : decode cX3_layEnd 1 = .ok (.getfield 37, 3) := by decide +kernel
theorem dX3_layEnd_4 : decode cX3_layEnd 4 = .ok (.aload_n 0, 1) := by decide +kernel
theorem dX3_layEnd_5 : decode cX3_layEnd 5 = .ok (.getfield 37, 3) := by decide +kernel
theorem dX3_layEnd_8 : decode cX3_layEnd 8 = .ok (.getfield 131, 3) := by decide +kernel
theorem dX3_layEnd_11 : decode cX3_layEnd 11 = .ok (.invokevirtual 110, 3) := by decide +kernel
theorem dX3_layEnd_14 : decode cX3_layEnd 14 = .ok (.ifCond .le 7, 3) := by decide +kernel
theorem dX3_layEnd_17 : decode cX3_layEnd 17 = .ok (.iconst 1, 1) := by decide +kernel
theorem dX3_layEnd_18 : decode cX3_layEnd 18 = .ok (.goto 4, 3) := by decide +kernel
theorem dX3_layEnd_21 : decode cX3_layEnd 21 = .ok (.iconst 0, 1) := by decide +kernel
theorem dX3_layEnd_22 : decode cX3_layEnd 22 = .ok (.istore_n 1, 1) := by decide +kernel
theorem dX3_layEnd_23 : decode cX3_layEnd 23 = .ok (.aload_n 0, 1) := by decide +kernel
theorem dX3_layEnd_24 : decode cX3_layEnd 24 = .ok (.getfield 41, 3) := by decide +kernel
theorem dX3_layEnd_27 : decode cX3_layEnd 27 = .ok (.getfield 132, 3) := by decide +kernel
theorem dX3_layEnd_30 : decode cX3_layEnd 30 = .ok (.ifCond .ne 8, 3) := by decide +kernel
theorem dX3_layEnd_33 : decode cX3_layEnd 33 = .ok (.iload_n 1, 1) := by decide +kernel
theorem dX3_layEnd_34 : decode cX3_layEnd 34 = .ok (.ifCond .ne 4, 3) := by decide +kernel
theorem dX3_layEnd_37 : decode cX3_layEnd 37 = .ok (.return_, 1) := by decide +kernel
theorem dX3_layEnd_38 : decode cX3_layEnd 38 = .ok (.aload_n 0, 1) := by decide +kernel
theorem dX3_layEnd_39 : decode cX3_layEnd 39 = .ok (.getfield 26, 3) := by decide +kernel
theorem dX3_layEnd_42 : decode cX3_layEnd 42 = .ok (.ifCond .le 9, 3) := by decide +kernel
theorem dX3_layEnd_45 : decode cX3_layEnd 45 = .ok (.aload_n 0, 1) := by decide +kernel
theorem dX3_layEnd_46 : decode cX3_layEnd 46 = .ok (.bipush 10, 2) := by decide +kernel
theorem dX3_layEnd_48 : decode cX3_layEnd 48 = .ok (.invokevirtual 103, 3) := by decide +kernel
theorem dX3_layEnd_51 : decode cX3_layEnd 51 = .ok (.aload_n 0, 1) := by decide +kernel
theorem dX3_layEnd_52 : decode cX3_layEnd 52 = .ok (.aload_n 0, 1) := by decide +kernel
theorem dX3_layEnd_53 : decode cX3_layEnd 53 = .ok (.getfield 37, 3) := by decide +kernel
theorem dX3_layEnd_56 : decode cX3_layEnd 56 = .ok (.getfield 131, 3) := by decide +kernel
theorem dX3_layEnd_59 : decode cX3_layEnd 59 = .ok (.aload_n 0, 1) := by decide +kernel
theorem dX3_layEnd_60 : decode cX3_layEnd 60 = .ok (.getfield 41, 3) := by decide +kernel
theorem dX3_layEnd_63 : decode cX3_layEnd 63 = .ok (.getfield 132, 3) := by decide +kernel
theorem dX3_layEnd_66 : decode cX3_layEnd 66 = .ok (.isub, 1) := by decide +kernel
theorem dX3_layEnd_67 : decode cX3_layEnd 67 = .ok (.aload_n 0, 1) := by decide +kernel
theorem dX3_layEnd_68 : decode cX3_layEnd 68 = .ok (.getfield 37, 3) := by decide +kernel
theorem dX3_layEnd_71 : decode cX3_layEnd 71 = .ok (.getfield 131, 3) := by decide +kernel
theorem dX3_layEnd_74 : decode cX3_layEnd 74 = .ok (.invokevirtual 95, 3) := by decide +kernel
theorem dX3_layEnd_77 : decode cX3_layEnd 77 = .ok (.aload_n 0, 1) := by decide +kernel
theorem dX3_layEnd_78 : decode cX3_layEnd 78 = .ok (.getfield 41, 3) := by decide +kernel
theorem dX3_layEnd_81 : decode cX3_layEnd 81 = .ok (.getfield 132, 3) := by decide +kernel
theorem dX3_layEnd_84 : decode cX3_layEnd 84 = .ok (.ifCond .le 13, 3) := by decide +kernel
theorem dX3_layEnd_87 : decode cX3_layEnd 87 = .ok (.iload_n 1, 1) := by decide +kernel
theorem dX3_layEnd_88 : decode cX3_layEnd 88 = .ok (.ifCond .eq 9, 3) := by decide +kernel
theorem dX3_layEnd_91 : decode cX3_layEnd 91 = .ok (.aload_n 0, 1) := by decide +kernel
theorem dX3_layEnd_92 : decode cX3_layEnd 92 = .ok (.bipush 32, 2) := by decide +kernel
theorem dX3_layEnd_94 : decode cX3_layEnd 94 = .ok (.invokevirtual 103, 3) := by decide +kernel
theorem dX3_layEnd_97 : decode cX3_layEnd 97 = .ok (.aload_n 0, 1) := by decide +kernel
theorem dX3_layEnd_98 : decode cX3_layEnd 98 = .ok (.aload_n 0, 1) := by decide +kernel
theorem dX3_layEnd_99 : decode cX3_layEnd 99 = .ok (.getfield 37, 3) := by decide +kernel
theorem dX3_layEnd_102 : decode cX3_layEnd 102 = .ok (.getfield 131, 3) := by decide +kernel
theorem dX3_layEnd_105 : decode cX3_layEnd 105 = .ok (.invokevirtual 107, 3) := by decide +kernel
theorem dX3_layEnd_108 : decode cX3_layEnd 108 = .ok (.return_, 1) := by decide +kernel
theorem dX3_layText_0 : decode cX3_layText 0 = .ok (.iload_n 1, 1) := by decide +kernel
theorem dX3_layText_1 : decode cX3_layText 1 = .ok (.istore_n 3, 1) := by decide +kernel
theorem dX3_layText_2 : decode cX3_layText 2 = .ok (.iload_n 3, 1) := by decide +kernel
theorem dX3_layText_3 : decode cX3_layText 3 = .ok (.iload_n 2, 1) := by decide +kernel
theorem dX3_layText_4 : decode cX3_layText 4 = .ok (.if_icmp .ge 22, 3) := by decide +kernel
theorem dX3_layText_7 : decode cX3_layText 7 = .ok (.aload_n 0, 1) := by decide +kernel
theorem dX3_layText_8 : decode cX3_layText 8 = .ok (.aload_n 0, 1) := by decide +kernel
theorem dX3_layText_9 : decode cX3_layText 9 = .ok (.getfield 37, 3) := by decide +kernel
theorem dX3_layText_12 : decode cX3_layText 12 = .ok (.getfield 135, 3) := by decide +kernel
theorem dX3_layText_15 : decode cX3_layText 15 = .ok (.iload_n 3, 1) := by decide +kernel
theorem dX3_layText_16 : decode cX3_layText 16 = .ok (.baload, 1) := by decide +kernel
theorem dX3_layText_17 : decode cX3_layText 17 = .ok (.invokevirtual 103, 3) := by decide +kernel
theorem dX3_layText_20 : decode cX3_layText 20 = .ok (.iinc 3 1, 3) := by decide +kernel
theorem dX3_layText_23 : decode cX3_layText 23 = .ok (.goto (-21), 3) := by decide +kernel
theorem dX3_layText_26 : decode cX3_layText 26 = .ok (.return_, 1) := by decide +kernel
theorem dX3_put_0 : decode cX3_put 0 = .ok (.aload_n 0, 1) := by decide +kernel
theorem dX3_put_1 : decode cX3_put 1 = .ok (.getfield 26, 3) := by decide +kernel
theorem dX3_put_4 : decode cX3_put 4 = .ok (.sipush 1300, 3) := by decide +kernel
theorem dX3_put_7 : decode cX3_put 7 = .ok (.if_icmp .ge 34, 3) := by decide +kernel
theorem dX3_put_10 : decode cX3_put 10 = .ok (.aload_n 0, 1) := by decide +kernel
theorem dX3_put_11 : decode cX3_put 11 = .ok (.getfield 11, 3) := by decide +kernel
theorem dX3_put_14 : decode cX3_put 14 = .ok (.aload_n 0, 1) := by decide +kernel
theorem dX3_put_15 : decode cX3_put 15 = .ok (.getfield 26, 3) := by decide +kernel
theorem dX3_put_18 : decode cX3_put 18 = .ok (.iload_n 1, 1) := by decide +kernel
theorem dX3_put_19 : decode cX3_put 19 = .ok (.i2b, 1) := by decide +kernel
theorem dX3_put_20 : decode cX3_put 20 = .ok (.bastore, 1) := by decide +kernel
theorem dX3_put_21 : decode cX3_put 21 = .ok (.aload_n 0, 1) := by decide +kernel
theorem dX3_put_22 : decode cX3_put 22 = .ok (.dup, 1) := by decide +kernel
theorem dX3_put_23 : decode cX3_put 23 = .ok (.getfield 26, 3) := by decide +kernel
theorem dX3_put_26 : decode cX3_put 26 = .ok (.iconst 1, 1) := by decide +kernel
theorem dX3_put_27 : decode cX3_put 27 = .ok (.iadd, 1) := by decide +kernel
theorem dX3_put_28 : decode cX3_put 28 = .ok (.putfield 26, 3) := by decide +kernel
theorem dX3_put_31 : decode cX3_put 31 = .ok (.aload_n 0, 1) := by decide +kernel
theorem dX3_put_32 : decode cX3_put 32 = .ok (.dup, 1) := by decide +kernel
theorem dX3_put_33 : decode cX3_put 33 = .ok (.getfield 30, 3) := by decide +kernel
theorem dX3_put_36 : decode cX3_put 36 = .ok (.iconst 1, 1) := by decide +kernel
theorem dX3_put_37 : decode cX3_put 37 = .ok (.iadd, 1) := by decide +kernel
theorem dX3_put_38 : decode cX3_put 38 = .ok (.putfield 30, 3) := by decide +kernel
theorem dX3_put_41 : decode cX3_put 41 = .ok (.return_, 1) := by decide +kernel
theorem dX4_init_0 : decode cX4_init 0 = .ok (.aload_n 0, 1) := by decide +kernel
theorem dX4_init_1 : decode cX4_init 1 = .ok (.invokespecial 3, 3) := by decide +kernel
theorem dX4_init_4 : decode cX4_init 4 = .ok (.aload_n 0, 1) := by decide +kernel
theorem dX4_init_5 : decode cX4_init 5 = .ok (.sipush 1050, 3) := by decide +kernel
theorem dX4_init_8 : decode cX4_init 8 = .ok (.newarray .int, 2) := by decide +kernel
theorem dX4_init_10 : decode cX4_init 10 = .ok (.putfield 11, 3) := by decide +kernel
theorem dX4_init_13 : decode cX4_init 13 = .ok (.aload_n 0, 1) := by decide +kernel
theorem dX4_init_14 : decode cX4_init 14 = .ok (.sipush 150, 3) := by decide +kernel
theorem dX4_init_17 : decode cX4_init 17 = .ok (.newarray .int, 2) := by decide +kernel
theorem dX4_init_19 : decode cX4_init 19 = .ok (.putfield 15, 3) := by decide +kernel
theorem dX4_init_22 : decode cX4_init 22 = .ok (.aload_n 0, 1) := by decide +kernel
theorem dX4_init_23 : decode cX4_init 23 = .ok (.sipush 150, 3) := by decide +kernel
theorem dX4_init_26 : decode cX4_init 26 = .ok (.newarray .int, 2) := by decide +kernel
theorem dX4_init_28 : decode cX4_init 28 = .ok (.putfield 18, 3) := by decide +kernel
theorem dX4_init_31 : decode cX4_init 31 = .ok (.aload_n 0, 1) := by decide +kernel
theorem dX4_init_32 : decode cX4_init 32 = .ok (.iconst 5, 1) := by decide +kernel
theorem dX4_init_33 : decode cX4_init 33 = .ok (.newarray .int, 2) := by decide +kernel
theorem dX4_init_35 : decode cX4_init 35 = .ok (.putfield 21, 3) := by decide +kernel
theorem dX4_init_38 : decode cX4_init 38 = .ok (.aload_n 0, 1) := by decide +kernel
theorem dX4_init_39 : decode cX4_init 39 = .ok (.sipush 150, 3) := by decide +kernel
theorem dX4_init_42 : decode cX4_init 42 = .ok (.newarray .int, 2) := by decide +kernel
theorem dX4_init_44 : decode cX4_init 44 = .ok (.putfield 24, 3) := by decide +kernel
theorem dX4_init_47 : decode cX4_init 47 = .ok (.aload_n 0, 1) := by decide +kernel
theorem dX4_init_48 : decode cX4_init 48 = .ok (.sipush 150, 3) := by decide +kernel
theorem dX4_init_51 : decode cX4_init 51 = .ok (.newarray .int, 2) := by decide +kernel
theorem dX4_init_53 : decode cX4_init 53 = .ok (.putfield 27, 3) := by decide +kernel
theorem dX4_init_56 : decode cX4_init 56 = .ok (.aload_n 0, 1) := by decide +kernel
theorem dX4_init_57 : decode cX4_init 57 = .ok (.sipush 150, 3) := by decide +kernel
theorem dX4_init_60 : decode cX4_init 60 = .ok (.newarray .int, 2) := by decide +kernel
theorem dX4_init_62 : decode cX4_init 62 = .ok (.putfield 30, 3) := by decide +kernel
theorem dX4_init_65 : decode cX4_init 65 = .ok (.aload_n 0, 1) := by decide +kernel
theorem dX4_init_66 : decode cX4_init 66 = .ok (.sipush 150, 3) := by decide +kernel
theorem dX4_init_69 : decode cX4_init 69 = .ok (.newarray .int, 2) := by decide +kernel
theorem dX4_init_71 : decode cX4_init 71 = .ok (.putfield 33, 3) := by decide +kernel
theorem dX4_init_74 : decode cX4_init 74 = .ok (.aload_n 0, 1) := by decide +kernel
theorem dX4_init_75 : decode cX4_init 75 = .ok (.sipush 150, 3) := by decide +kernel
theorem dX4_init_78 : decode cX4_init 78 = .ok (.newarray .int, 2) := by decide +kernel
theorem dX4_init_80 : decode cX4_init 80 = .ok (.putfield 36, 3) := by decide +kernel
theorem dX4_init_83 : decode cX4_init 83 = .ok (.aload_n 0, 1) := by decide +kernel
theorem dX4_init_84 : decode cX4_init 84 = .ok (.iconst 0, 1) := by decide +kernel
theorem dX4_init_85 : decode cX4_init 85 = .ok (.putfield 39, 3) := by decide +kernel
theorem dX4_init_88 : decode cX4_init 88 = .ok (.aload_n 0, 1) := by decide +kernel
theorem dX4_init_89 : decode cX4_init 89 = .ok (.iconst 0, 1) := by decide +kernel
theorem dX4_init_90 : decode cX4_init 90 = .ok (.putfield 43, 3) := by decide +kernel
theorem dX4_init_93 : decode cX4_init 93 = .ok (.aload_n 0, 1) := by decide +kernel
theorem dX4_init_94 : decode cX4_init 94 = .ok (.iconst 0, 1) := by decide +kernel
theorem dX4_init_95 : decode cX4_init 95 = .ok (.putfield 46, 3) := by decide +kernel
theorem dX4_init_98 : decode cX4_init 98 = .ok (.aload_n 0, 1) := by decide +kernel
theorem dX4_init_99 : decode cX4_init 99 = .ok (.aload_n 1, 1) := by decide +kernel
theorem dX4_init_100 : decode cX4_init 100 = .ok (.putfield 49, 3) := by decide +kernel
theorem dX4_init_103 : decode cX4_init 103 = .ok (.aload_n 0, 1) := by decide +kernel
theorem dX4_init_104 : decode cX4_init 104 = .ok (.aload_n 2, 1) := by decide +kernel
theorem dX4_init_105 : decode cX4_init 105 = .ok (.putfield 53, 3) := by decide +kernel
theorem dX4_init_108 : decode cX4_init 108 = .ok (.return_, 1) := by decide +kernel
theorem dX4_drop_0 : decode cX4_drop 0 = .ok (.aload_n 0, 1) := by decide +kernel
theorem dX4_drop_1 : decode cX4_drop 1 = .ok (.iconst 0, 1) := by decide +kernel
theorem dX4_drop_2 : decode cX4_drop 2 = .ok (.putfield 43, 3) := by decide +kernel
theorem dX4_drop_5 : decode cX4_drop 5 = .ok (.aload_n 0, 1) := by decide +kernel
theorem dX4_drop_6 : decode cX4_drop 6 = .ok (.iconst 0, 1) := by decide +kernel
theorem dX4_drop_7 : decode cX4_drop 7 = .ok (.putfield 46, 3) := by decide +kernel
theorem dX4_drop_10 : decode cX4_drop 10 = .ok (.return_, 1) := by decide +kernel
theorem dX4_cell_0 : decode cX4_cell 0 = .ok (.aload_n 0, 1) := by decide +kernel
theorem dX4_cell_1 : decode cX4_cell 1 = .ok (.getfield 11, 3) := by decide +kernel
theorem dX4_cell_4 : decode cX4_cell 4 = .ok (.iload_n 1, 1) := by decide +kernel
theorem dX4_cell_5 : decode cX4_cell 5 = .ok (.bipush 7, 2) := by decide +kernel
theorem dX4_cell_7 : decode cX4_cell 7 = .ok (.imul, 1) := by decide +kernel
theorem dX4_cell_8 : decode cX4_cell 8 = .ok (.iload_n 2, 1) := by decide +kernel
theorem dX4_cell_9 : decode cX4_cell 9 = .ok (.iadd, 1) := by decide +kernel
theorem dX4_cell_10 : decode cX4_cell 10 = .ok (.iaload, 1) := by decide +kernel
theorem dX4_cell_11 : decode cX4_cell 11 = .ok (.ireturn, 1) := by decide +kernel
theorem dX4_isLeaf_0 : decode cX4_isLeaf 0 = .ok (.aload_n 0, 1) := by decide +kernel
theorem dX4_isLeaf_1 : decode cX4_isLeaf 1 = .ok (.iload_n 1, 1) := by decide +kernel
theorem dX4_isLeaf_2 : decode cX4_isLeaf 2 = .ok (.iconst 0, 1) := by decide +kernel
theorem dX4_isLeaf_3 : decode cX4_isLeaf 3 = .ok (.invokevirtual 57, 3) := by decide +kernel
theorem dX4_isLeaf_6 : decode cX4_isLeaf 6 = .ok (.iconst (-1), 1) := by decide +kernel
theorem dX4_isLeaf_7 : decode cX4_isLeaf 7 = .ok (.if_icmp .ne 7, 3) := by decide +kernel
theorem dX4_isLeaf_10 : decode cX4_isLeaf 10 = .ok (.iconst 1, 1) := by decide +kernel
theorem dX4_isLeaf_11 : decode cX4_isLeaf 11 = .ok (.goto 4, 3) := by decide +kernel
theorem dX4_isLeaf_14 : decode cX4_isLeaf 14 = .ok (.iconst 0, 1) := by decide +kernel
theorem dX4_isLeaf_15 : decode cX4_isLeaf 15 = .ok (.ireturn, 1) := by decide +kernel
theorem dX4_grow_0 : decode cX4_grow 0 = .ok (.aload_n 0, 1) := by decide +kernel
theorem dX4_grow_1 : decode cX4_grow 1 = .ok (.getfield 53, 3) := by decide +kernel
theorem dX4_grow_4 : decode cX4_grow 4 = .ok (.invokevirtual 61, 3) := by decide +kernel
theorem dX4_grow_7 : decode cX4_grow 7 = .ok (.istore_n 2, 1) := by decide +kernel
theorem dX4_grow_8 : decode cX4_grow 8 = .ok (.aload_n 0, 1) := by decide +kernel
theorem dX4_grow_9 : decode cX4_grow 9 = .ok (.invokevirtual 67, 3) := by decide +kernel
theorem dX4_grow_12 : decode cX4_grow 12 = .ok (.aload_n 0, 1) := by decide +kernel
theorem dX4_grow_13 : decode cX4_grow 13 = .ok (.iconst 0, 1) := by decide +kernel
theorem dX4_grow_14 : decode cX4_grow 14 = .ok (.putfield 39, 3) := by decide +kernel
theorem dX4_grow_17 : decode cX4_grow 17 = .ok (.aload_n 0, 1) := by decide +kernel
theorem dX4_grow_18 : decode cX4_grow 18 = .ok (.bipush 9, 2) := by decide +kernel
theorem dX4_grow_20 : decode cX4_grow 20 = .ok (.iconst (-1), 1) := by decide +kernel
theorem dX4_grow_21 : decode cX4_grow 21 = .ok (.iconst 0, 1) := by decide +kernel
theorem dX4_grow_22 : decode cX4_grow 22 = .ok (.iload_n 2, 1) := by decide +kernel
theorem dX4_grow_23 : decode cX4_grow 23 = .ok (.iconst 0, 1) := by decide +kernel
theorem dX4_grow_24 : decode cX4_grow 24 = .ok (.invokevirtual 70, 3) := by decide +kernel
theorem dX4_grow_27 : decode cX4_grow 27 = .ok (.istore_n 3, 1) := by decide +kernel
theorem dX4_grow_28 : decode cX4_grow 28 = .ok (.iconst 0, 1) := by decide +kernel
theorem dX4_grow_29 : decode cX4_grow 29 = .ok (.istore 4, 2) := by decide +kernel
theorem dX4_grow_31 : decode cX4_grow 31 = .ok (.iload 4, 2) := by decide +kernel
theorem dX4_grow_33 : decode cX4_grow 33 = .ok (.sipush 150, 3) := by decide +kernel
theorem dX4_grow_36 : decode cX4_grow 36 = .ok (.if_icmp .ge 25, 3) := by decide +kernel
theorem dX4_grow_39 : decode cX4_grow 39 = .ok (.iload_n 3, 1) := by decide +kernel
theorem dX4_grow_40 : decode cX4_grow 40 = .ok (.ifCond .eq 21, 3) := by decide +kernel
theorem dX4_grow_43 : decode cX4_grow 43 = .ok (.aload_n 0, 1) := by decide +kernel
theorem dX4_grow_44 : decode cX4_grow 44 = .ok (.getfield 39, 3) := by decide +kernel
theorem dX4_grow_47 : decode cX4_grow 47 = .ok (.ifCond .le 14, 3) := by decide +kernel
theorem dX4_grow_50 : decode cX4_grow 50 = .ok (.aload_n 0, 1) := by decide +kernel
theorem dX4_grow_51 : decode cX4_grow 51 = .ok (.invokevirtual 74, 3) := by decide +kernel
theorem dX4_grow_54 : decode cX4_grow 54 = .ok (.istore_n 3, 1) := by decide +kernel
theorem dX4_grow_55 : decode cX4_grow 55 = .ok (.iinc 4 1, 3) := by decide +kernel
theorem dX4_grow_58 : decode cX4_grow 58 = .ok (.goto (-27), 3) := by decide +kernel
theorem dX4_grow_61 : decode cX4_grow 61 = .ok (.iload_n 3, 1) := by decide +kernel
theorem dX4_grow_62 : decode cX4_grow 62 = .ok (.ifCond .eq 10, 3) := by decide +kernel
theorem dX4_grow_65 : decode cX4_grow 65 = .ok (.aload_n 0, 1) := by decide +kernel
theorem dX4_grow_66 : decode cX4_grow 66 = .ok (.getfield 39, 3) := by decide +kernel
theorem dX4_grow_69 : decode cX4_grow 69 = .ok (.ifCond .le 9, 3) := by decide +kernel
theorem dX4_grow_72 : decode cX4_grow 72 = .ok (.aload_n 0, 1) := by decide +kernel
theorem dX4_grow_73 : decode cX4_grow 73 = .ok (.invokevirtual 67, 3) := by decide +kernel
theorem dX4_grow_76 : decode cX4_grow 76 = .ok (.iconst 0, 1) := by decide +kernel
theorem dX4_grow_77 : decode cX4_grow 77 = .ok (.ireturn, 1) := by decide +kernel
theorem dX4_grow_78 : decode cX4_grow 78 = .ok (.aload_n 0, 1) := by decide +kernel
theorem dX4_grow_79 : decode cX4_grow 79 = .ok (.iload_n 1, 1) := by decide +kernel
theorem dX4_grow_80 : decode cX4_grow 80 = .ok (.iload_n 2, 1) := by decide +kernel
theorem dX4_grow_81 : decode cX4_grow 81 = .ok (.isub, 1) := by decide +kernel
theorem dX4_grow_82 : decode cX4_grow 82 = .ok (.putfield 46, 3) := by decide +kernel
theorem dX4_grow_85 : decode cX4_grow 85 = .ok (.iconst 1, 1) := by decide +kernel
theorem dX4_grow_86 : decode cX4_grow 86 = .ok (.ireturn, 1) := by decide +kernel
theorem dX4_await_0 : decode cX4_await 0 = .ok (.aload_n 0, 1) := by decide +kernel
theorem dX4_await_1 : decode cX4_await 1 = .ok (.getfield 43, 3) := by decide +kernel
theorem dX4_await_4 : decode cX4_await 4 = .ok (.aload_n 0, 1) := by decide +kernel
theorem dX4_await_5 : decode cX4_await 5 = .ok (.getfield 39, 3) := by decide +kernel
theorem dX4_await_8 : decode cX4_await 8 = .ok (.iadd, 1) := by decide +kernel
theorem dX4_await_9 : decode cX4_await 9 = .ok (.sipush 150, 3) := by decide +kernel
theorem dX4_await_12 : decode cX4_await 12 = .ok (.if_icmp .lt 5, 3) := by decide +kernel
theorem dX4_await_15 : decode cX4_await 15 = .ok (.iconst 0, 1) := by decide +kernel
theorem dX4_await_16 : decode cX4_await 16 = .ok (.ireturn, 1) := by decide +kernel
theorem dX4_await_17 : decode cX4_await 17 = .ok (.aload_n 0, 1) := by decide +kernel
theorem dX4_await_18 : decode cX4_await 18 = .ok (.getfield 24, 3) := by decide +kernel
theorem dX4_await_21 : decode cX4_await 21 = .ok (.aload_n 0, 1) := by decide +kernel
theorem dX4_await_22 : decode cX4_await 22 = .ok (.getfield 39, 3) := by decide +kernel
theorem dX4_await_25 : decode cX4_await 25 = .ok (.iload_n 1, 1) := by decide +kernel
theorem dX4_await_26 : decode cX4_await 26 = .ok (.iastore, 1) := by decide +kernel
theorem dX4_await_27 : decode cX4_await 27 = .ok (.aload_n 0, 1) := by decide +kernel
theorem dX4_await_28 : decode cX4_await 28 = .ok (.getfield 27, 3) := by decide +kernel
theorem dX4_await_31 : decode cX4_await 31 = .ok (.aload_n 0, 1) := by decide +kernel
theorem dX4_await_32 : decode cX4_await 32 = .ok (.getfield 39, 3) := by decide +kernel
theorem dX4_await_35 : decode cX4_await 35 = .ok (.iload_n 2, 1) := by decide +kernel
theorem dX4_await_36 : decode cX4_await 36 = .ok (.iastore, 1) := by decide +kernel
theorem dX4_await_37 : decode cX4_await 37 = .ok (.aload_n 0, 1) := by decide +kernel
theorem dX4_await_38 : decode cX4_await 38 = .ok (.getfield 30, 3) := by decide +kernel
theorem dX4_await_41 : decode cX4_await 41 = .ok (.aload_n 0, 1) := by decide +kernel
theorem dX4_await_42 : decode cX4_await 42 = .ok (.getfield 39, 3) := by decide +kernel
theorem dX4_await_45 : decode cX4_await 45 = .ok (.iload_n 3, 1) := by decide +kernel
theorem dX4_await_46 : decode cX4_await 46 = .ok (.iastore, 1) := by decide +kernel
theorem dX4_await_47 : decode cX4_await 47 = .ok (.aload_n 0, 1) := by decide +kernel
theorem dX4_await_48 : decode cX4_await 48 = .ok (.getfield 33, 3) := by decide +kernel
theorem dX4_await_51 : decode cX4_await 51 = .ok (.aload_n 0, 1) := by decide +kernel
theorem dX4_await_52 : decode cX4_await 52 = .ok (.getfield 39, 3) := by decide +kernel
theorem dX4_await_55 : decode cX4_await 55 = .ok (.iload 4, 2) := by decide +kernel
theorem dX4_await_57 : decode cX4_await 57 = .ok (.iastore, 1) := by decide +kernel
theorem dX4_await_58 : decode cX4_await 58 = .ok (.aload_n 0, 1) := by decide +kernel
theorem dX4_await_59 : decode cX4_await 59 = .ok (.getfield 36, 3) := by decide +kernel
theorem dX4_await_62 : decode cX4_await 62 = .ok (.aload_n 0, 1) := by decide +kernel
theorem dX4_await_63 : decode cX4_await 63 = .ok (.getfield 39, 3) := by decide +kernel
theorem dX4_await_66 : decode cX4_await 66 = .ok (.iload 5, 2) := by decide +kernel
theorem dX4_await_68 : decode cX4_await 68 = .ok (.iastore, 1) := by decide +kernel
theorem dX4_await_69 : decode cX4_await 69 = .ok (.aload_n 0, 1) := by decide +kernel
theorem dX4_await_70 : decode cX4_await 70 = .ok (.dup, 1) := by decide +kernel
theorem dX4_await_71 : decode cX4_await 71 = .ok (.getfield 39, 3) := by decide +kernel
theorem dX4_await_74 : decode cX4_await 74 = .ok (.iconst 1, 1) := by decide +kernel
theorem dX4_await_75 : decode cX4_await 75 = .ok (.iadd, 1) := by decide +kernel
theorem dX4_await_76 : decode cX4_await 76 = .ok (.putfield 39, 3) := by decide +kernel
theorem dX4_await_79 : decode cX4_await 79 = .ok (.iconst 1, 1) := by decide +kernel
theorem dX4_await_80 : decode cX4_await 80 = .ok (.ireturn, 1) := by decide +kernel
theorem dX4_placeNext_0 : decode cX4_placeNext 0 = .ok (.aload_n 0, 1) := by decide +kernel
theorem dX4_placeNext_1 : decode cX4_placeNext 1 = .ok (.getfield 39, 3) := by decide +kernel
theorem dX4_placeNext_4 : decode cX4_placeNext 4 = .ok (.ifCond .le 13, 3) := by decide +kernel
theorem dX4_placeNext_7 : decode cX4_placeNext 7 = .ok (.aload_n 0, 1) := by decide +kernel
theorem dX4_placeNext_8 : decode cX4_placeNext 8 = .ok (.getfield 43, 3) := by decide +kernel
theorem dX4_placeNext_11 : decode cX4_placeNext 11 = .ok (.sipush 150, 3) := by decide +kernel
theorem dX4_placeNext_14 : decode cX4_placeNext 14 = .ok (.if_icmp .lt 5, 3) := by decide +kernel
theorem dX4_placeNext_17 : decode cX4_placeNext 17 = .ok (.iconst 0, 1) := by decide +kernel
theorem dX4_placeNext_18 : decode cX4_placeNext 18 = .ok (.ireturn, 1) := by decide +kernel
theorem dX4_placeNext_19 : decode cX4_placeNext 19 = .ok (.aload_n 0, 1) := by decide +kernel
theorem dX4_placeNext_20 : decode cX4_placeNext 20 = .ok (.dup, 1) := by decide +kernel
theorem dX4_placeNext_21 : decode cX4_placeNext 21 = .ok (.getfield 39, 3) := by decide +kernel
theorem dX4_placeNext_24 : decode cX4_placeNext 24 = .ok (.iconst 1, 1) := by decide +kernel
theorem dX4_placeNext_25 : decode cX4_placeNext 25 = .ok (.isub, 1) := by decide +kernel
theorem dX4_placeNext_26 : decode cX4_placeNext 26 = .ok (.putfield 39, 3) := by decide +kernel
theorem dX4_placeNext_29 : decode cX4_placeNext 29 = .ok (.aload_n 0, 1) := by decide +kernel
theorem dX4_placeNext_30 : decode cX4_placeNext 30 = .ok (.getfield 43, 3) := by decide +kernel
theorem dX4_placeNext_33 : decode cX4_placeNext 33 = .ok (.istore_n 1, 1) := by decide +kernel
theorem dX4_placeNext_34 : decode cX4_placeNext 34 = .ok (.aload_n 0, 1) := by decide +kernel
theorem dX4_placeNext_35 : decode cX4_placeNext 35 = .ok (.getfield 24, 3) := by decide +kernel
theorem dX4_placeNext_38 : decode cX4_placeNext 38 = .ok (.aload_n 0, 1) := by decide +kernel
theorem dX4_placeNext_39 : decode cX4_placeNext 39 = .ok (.getfield 39, 3) := by decide +kernel
theorem dX4_placeNext_42 : decode cX4_placeNext 42 = .ok (.iaload, 1) := by decide +kernel
theorem dX4_placeNext_43 : decode cX4_placeNext 43 = .ok (.istore_n 2, 1) := by decide +kernel
theorem dX4_placeNext_44 : decode cX4_placeNext 44 = .ok (.aload_n 0, 1) := by decide +kernel
theorem dX4_placeNext_45 : decode cX4_placeNext 45 = .ok (.getfield 27, 3) := by decide +kernel
theorem dX4_placeNext_48 : decode cX4_placeNext 48 = .ok (.aload_n 0, 1) := by decide +kernel
theorem dX4_placeNext_49 : decode cX4_placeNext 49 = .ok (.getfield 39, 3) := by decide +kernel
theorem dX4_placeNext_52 : decode cX4_placeNext 52 = .ok (.iaload, 1) := by decide +kernel
theorem dX4_placeNext_53 : decode cX4_placeNext 53 = .ok (.istore_n 3, 1) := by decide +kernel
theorem dX4_placeNext_54 : decode cX4_placeNext 54 = .ok (.aload_n 0, 1) := by decide +kernel
theorem dX4_placeNext_55 : decode cX4_placeNext 55 = .ok (.getfield 30, 3) := by decide +kernel
theorem dX4_placeNext_58 : decode cX4_placeNext 58 = .ok (.aload_n 0, 1) := by decide +kernel
theorem dX4_placeNext_59 : decode cX4_placeNext 59 = .ok (.getfield 39, 3) := by decide +kernel
theorem dX4_placeNext_62 : decode cX4_placeNext 62 = .ok (.iaload, 1) := by decide +kernel
theorem dX4_placeNext_63 : decode cX4_placeNext 63 = .ok (.istore 4, 2) := by decide +kernel
theorem dX4_placeNext_65 : decode cX4_placeNext 65 = .ok (.aload_n 0, 1) := by decide +kernel
theorem dX4_placeNext_66 : decode cX4_placeNext 66 = .ok (.getfield 33, 3) := by decide +kernel
theorem dX4_placeNext_69 : decode cX4_placeNext 69 = .ok (.aload_n 0, 1) := by decide +kernel
theorem dX4_placeNext_70 : decode cX4_placeNext 70 = .ok (.getfield 39, 3) := by decide +kernel
theorem dX4_placeNext_73 : decode cX4_placeNext 73 = .ok (.iaload, 1) := by decide +kernel
theorem dX4_placeNext_74 : decode cX4_placeNext 74 = .ok (.istore 5, 2) := by decide +kernel
theorem dX4_placeNext_76 : decode cX4_placeNext 76 = .ok (.aload_n 0, 1) := by decide +kernel
theorem dX4_placeNext_77 : decode cX4_placeNext 77 = .ok (.dup, 1) := by decide +kernel
theorem dX4_placeNext_78 : decode cX4_placeNext 78 = .ok (.getfield 43, 3) := by decide +kernel
theorem dX4_placeNext_81 : decode cX4_placeNext 81 = .ok (.iconst 1, 1) := by decide +kernel
theorem dX4_placeNext_82 : decode cX4_placeNext 82 = .ok (.iadd, 1) := by decide +kernel
theorem dX4_placeNext_83 : decode cX4_placeNext 83 = .ok (.putfield 43, 3) := by decide +kernel
theorem dX4_placeNext_86 : decode cX4_placeNext 86 = .ok (.iload_n 1, 1) := by decide +kernel
theorem dX4_placeNext_87 : decode cX4_placeNext 87 = .ok (.bipush 7, 2) := by decide +kernel
theorem dX4_placeNext_89 : decode cX4_placeNext 89 = .ok (.imul, 1) := by decide +kernel
theorem dX4_placeNext_90 : decode cX4_placeNext 90 = .ok (.istore 6, 2) := by decide +kernel
theorem dX4_placeNext_92 : decode cX4_placeNext 92 = .ok (.aload_n 0, 1) := by decide +kernel
theorem dX4_placeNext_93 : decode cX4_placeNext 93 = .ok (.getfield 11, 3) := by decide +kernel
theorem dX4_placeNext_96 : decode cX4_placeNext 96 = .ok (.iload 6, 2) := by decide +kernel
theorem dX4_placeNext_98 : decode cX4_placeNext 98 = .ok (.iconst 1, 1) := by decide +kernel
theorem dX4_placeNext_99 : decode cX4_placeNext 99 = .ok (.iadd, 1) := by decide +kernel
theorem dX4_placeNext_100 : decode cX4_placeNext 100 = .ok (.iload_n 2, 1) := by decide +kernel
theorem dX4_placeNext_101 : decode cX4_placeNext 101 = .ok (.iastore, 1) := by decide +kernel
theorem dX4_placeNext_102 : decode cX4_placeNext 102 = .ok (.aload_n 0, 1) := by decide +kernel
theorem dX4_placeNext_103 : decode cX4_placeNext 103 = .ok (.getfield 11, 3) := by decide +kernel
theorem dX4_placeNext_106 : decode cX4_placeNext 106 = .ok (.iload 6, 2) := by decide +kernel
theorem dX4_placeNext_108 : decode cX4_placeNext 108 = .ok (.iconst 2, 1) := by decide +kernel
theorem dX4_placeNext_109 : decode cX4_placeNext 109 = .ok (.iadd, 1) := by decide +kernel
theorem dX4_placeNext_110 : decode cX4_placeNext 110 = .ok (.iload_n 3, 1) := by decide +kernel
theorem dX4_placeNext_111 : decode cX4_placeNext 111 = .ok (.iastore, 1) := by decide +kernel
theorem dX4_placeNext_112 : decode cX4_placeNext 112 = .ok (.aload_n 0, 1) := by decide +kernel
theorem dX4_placeNext_113 : decode cX4_placeNext 113 = .ok (.getfield 11, 3) := by decide +kernel
theorem dX4_placeNext_116 : decode cX4_placeNext 116 = .ok (.iload 6, 2) := by decide +kernel
theorem dX4_placeNext_118 : decode cX4_placeNext 118 = .ok (.iconst 3, 1) := by decide +kernel
theorem dX4_placeNext_119 : decode cX4_placeNext 119 = .ok (.iadd, 1) := by decide +kernel
theorem dX4_placeNext_120 : decode cX4_placeNext 120 = .ok (.iload 4, 2) := by decide +kernel
theorem dX4_placeNext_122 : decode cX4_placeNext 122 = .ok (.iastore, 1) := by decide +kernel
theorem dX4_placeNext_123 : decode cX4_placeNext 123 = .ok (.aload_n 0, 1) := by decide +kernel
theorem dX4_placeNext_124 : decode cX4_placeNext 124 = .ok (.getfield 11, 3) := by decide +kernel
theorem dX4_placeNext_127 : decode cX4_placeNext 127 = .ok (.iload 6, 2) := by decide +kernel
theorem dX4_placeNext_129 : decode cX4_placeNext 129 = .ok (.iconst 4, 1) := by decide +kernel
theorem dX4_placeNext_130 : decode cX4_placeNext 130 = .ok (.iadd, 1) := by decide +kernel
theorem dX4_placeNext_131 : decode cX4_placeNext 131 = .ok (.iload 5, 2) := by decide +kernel
theorem dX4_placeNext_133 : decode cX4_placeNext 133 = .ok (.iload 4, 2) := by decide +kernel
theorem dX4_placeNext_135 : decode cX4_placeNext 135 = .ok (.isub, 1) := by decide +kernel
theorem dX4_placeNext_136 : decode cX4_placeNext 136 = .ok (.iastore, 1) := by decide +kernel
theorem dX4_placeNext_137 : decode cX4_placeNext 137 = .ok (.aload_n 0, 1) := by decide +kernel
theorem dX4_placeNext_138 : decode cX4_placeNext 138 = .ok (.getfield 11, 3) := by decide +kernel
theorem dX4_placeNext_141 : decode cX4_placeNext 141 = .ok (.iload 6, 2) := by decide +kernel
theorem dX4_placeNext_143 : decode cX4_placeNext 143 = .ok (.iconst 5, 1) := by decide +kernel
theorem dX4_placeNext_144 : decode cX4_placeNext 144 = .ok (.iadd, 1) := by decide +kernel
theorem dX4_placeNext_145 : decode cX4_placeNext 145 = .ok (.aload_n 0, 1) := by decide +kernel
theorem dX4_placeNext_146 : decode cX4_placeNext 146 = .ok (.getfield 53, 3) := by decide +kernel
theorem dX4_placeNext_149 : decode cX4_placeNext 149 = .ok (.iload_n 2, 1) := by decide +kernel
theorem dX4_placeNext_150 : decode cX4_placeNext 150 = .ok (.iload 4, 2) := by decide +kernel
theorem dX4_placeNext_152 : decode cX4_placeNext 152 = .ok (.iload 5, 2) := by decide +kernel
theorem dX4_placeNext_154 : decode cX4_placeNext 154 = .ok (.invokevirtual 78, 3) := by decide +kernel
theorem dX4_placeNext_157 : decode cX4_placeNext 157 = .ok (.iastore, 1) := by decide +kernel
theorem dX4_placeNext_158 : decode cX4_placeNext 158 = .ok (.aload_n 0, 1) := by decide +kernel
theorem dX4_placeNext_159 : decode cX4_placeNext 159 = .ok (.getfield 15, 3) := by decide +kernel
theorem dX4_placeNext_162 : decode cX4_placeNext 162 = .ok (.iload_n 1, 1) := by decide +kernel
theorem dX4_placeNext_163 : decode cX4_placeNext 163 = .ok (.aload_n 0, 1) := by decide +kernel
theorem dX4_placeNext_164 : decode cX4_placeNext 164 = .ok (.getfield 36, 3) := by decide +kernel
theorem dX4_placeNext_167 : decode cX4_placeNext 167 = .ok (.aload_n 0, 1) := by decide +kernel
theorem dX4_placeNext_168 : decode cX4_placeNext 168 = .ok (.getfield 39, 3) := by decide +kernel
theorem dX4_placeNext_171 : decode cX4_placeNext 171 = .ok (.iaload, 1) := by decide +kernel
theorem dX4_placeNext_172 : decode cX4_placeNext 172 = .ok (.iastore, 1) := by decide +kernel
theorem dX4_placeNext_173 : decode cX4_placeNext 173 = .ok (.aload_n 0, 1) := by decide +kernel
theorem dX4_placeNext_174 : decode cX4_placeNext 174 = .ok (.getfield 18, 3) := by decide +kernel
theorem dX4_placeNext_177 : decode cX4_placeNext 177 = .ok (.iload_n 1, 1) := by decide +kernel
theorem dX4_placeNext_178 : decode cX4_placeNext 178 = .ok (.iload_n 3, 1) := by decide +kernel
theorem dX4_placeNext_179 : decode cX4_placeNext 179 = .ok (.iconst (-1), 1) := by decide +kernel
theorem dX4_placeNext_180 : decode cX4_placeNext 180 = .ok (.if_icmp .ne 7, 3) := by decide +kernel
theorem dX4_placeNext_183 : decode cX4_placeNext 183 = .ok (.iconst 0, 1) := by decide +kernel
theorem dX4_placeNext_184 : decode cX4_placeNext 184 = .ok (.goto 11, 3) := by decide +kernel
theorem dX4_placeNext_187 : decode cX4_placeNext 187 = .ok (.aload_n 0, 1) := by decide +kernel
theorem dX4_placeNext_188 : decode cX4_placeNext 188 = .ok (.getfield 18, 3) := by decide +kernel
theorem dX4_placeNext_191 : decode cX4_placeNext 191 = .ok (.iload_n 3, 1) := by decide +kernel
theorem dX4_placeNext_192 : decode cX4_placeNext 192 = .ok (.iaload, 1) := by decide +kernel
theorem dX4_placeNext_193 : decode cX4_placeNext 193 = .ok (.iconst 1, 1) := by decide +kernel
theorem dX4_placeNext_194 : decode cX4_placeNext 194 = .ok (.iadd, 1) := by decide +kernel
theorem dX4_placeNext_195 : decode cX4_placeNext 195 = .ok (.iastore, 1) := by decide +kernel
theorem dX4_placeNext_196 : decode cX4_placeNext 196 = .ok (.iload_n 2, 1) := by decide +kernel
theorem dX4_placeNext_197 : decode cX4_placeNext 197 = .ok (.invokestatic 82, 3) := by decide +kernel
theorem dX4_placeNext_200 : decode cX4_placeNext 200 = .ok (.ifCond .eq 14, 3) := by decide +kernel
theorem dX4_placeNext_203 : decode cX4_placeNext 203 = .ok (.aload_n 0, 1) := by decide +kernel
theorem dX4_placeNext_204 : decode cX4_placeNext 204 = .ok (.iload_n 1, 1) := by decide +kernel
theorem dX4_placeNext_205 : decode cX4_placeNext 205 = .ok (.iload_n 2, 1) := by decide +kernel
theorem dX4_placeNext_206 : decode cX4_placeNext 206 = .ok (.iload 4, 2) := by decide +kernel
theorem dX4_placeNext_208 : decode cX4_placeNext 208 = .ok (.iload 5, 2) := by decide +kernel
theorem dX4_placeNext_210 : decode cX4_placeNext 210 = .ok (.invokevirtual 86, 3) := by decide +kernel
theorem dX4_placeNext_213 : decode cX4_placeNext 213 = .ok (.ireturn, 1) := by decide +kernel
theorem dX4_placeNext_214 : decode cX4_placeNext 214 = .ok (.aload_n 0, 1) := by decide +kernel
theorem dX4_placeNext_215 : decode cX4_placeNext 215 = .ok (.getfield 11, 3) := by decide +kernel
theorem dX4_placeNext_218 : decode cX4_placeNext 218 = .ok (.iload 6, 2) := by decide +kernel
theorem dX4_placeNext_220 : decode cX4_placeNext 220 = .ok (.iconst 0, 1) := by decide +kernel
theorem dX4_placeNext_221 : decode cX4_placeNext 221 = .ok (.iadd, 1) := by decide +kernel
theorem dX4_placeNext_222 : decode cX4_placeNext 222 = .ok (.iconst (-1), 1) := by decide +kernel
theorem dX4_placeNext_223 : decode cX4_placeNext 223 = .ok (.iastore, 1) := by decide +kernel
theorem dX4_placeNext_224 : decode cX4_placeNext 224 = .ok (.aload_n 0, 1) := by decide +kernel
theorem dX4_placeNext_225 : decode cX4_placeNext 225 = .ok (.getfield 11, 3) := by decide +kernel
theorem dX4_placeNext_228 : decode cX4_placeNext 228 = .ok (.iload 6, 2) := by decide +kernel
theorem dX4_placeNext_230 : decode cX4_placeNext 230 = .ok (.bipush 6, 2) := by decide +kernel
theorem dX4_placeNext_232 : decode cX4_placeNext 232 = .ok (.iadd, 1) := by decide +kernel
theorem dX4_placeNext_233 : decode cX4_placeNext 233 = .ok (.aload_n 0, 1) := by decide +kernel
theorem dX4_placeNext_234 : decode cX4_placeNext 234 = .ok (.iload_n 1, 1) := by decide +kernel
theorem dX4_placeNext_235 : decode cX4_placeNext 235 = .ok (.invokevirtual 90, 3) := by decide +kernel
theorem dX4_placeNext_238 : decode cX4_placeNext 238 = .ok (.iastore, 1) := by decide +kernel
theorem dX4_placeNext_239 : decode cX4_placeNext 239 = .ok (.iconst 1, 1) := by decide +kernel
theorem dX4_placeNext_240 : decode cX4_placeNext 240 = .ok (.ireturn, 1) := by decide +kernel
theorem dX4_leafState_0 : decode cX4_leafState 0 = .ok (.aload_n 0, 1) := by decide +kernel
theorem dX4_leafState_1 : decode cX4_leafState 1 = .ok (.iload_n 1, 1) := by decide +kernel
theorem dX4_leafState_2 : decode cX4_leafState 2 = .ok (.iconst 4, 1) := by decide +kernel
theorem dX4_leafState_3 : decode cX4_leafState 3 = .ok (.invokevirtual 57, 3) := by decide +kernel
theorem dX4_leafState_6 : decode cX4_leafState 6 = .ok (.istore_n 2, 1) := by decide +kernel
theorem dX4_leafState_7 : decode cX4_leafState 7 = .ok (.iload_n 2, 1) := by decide +kernel
theorem dX4_leafState_8 : decode cX4_leafState 8 = .ok (.ifCond .ne 5, 3) := by decide +kernel
theorem dX4_leafState_11 : decode cX4_leafState 11 = .ok (.iconst 2, 1) := by decide +kernel
theorem dX4_leafState_12 : decode cX4_leafState 12 = .ok (.ireturn, 1) := by decide +kernel
theorem dX4_leafState_13 : decode cX4_leafState 13 = .ok (.aload_n 0, 1) := by decide +kernel
theorem dX4_leafState_14 : decode cX4_leafState 14 = .ok (.iload_n 1, 1) := by decide +kernel
theorem dX4_leafState_15 : decode cX4_leafState 15 = .ok (.iconst 5, 1) := by decide +kernel
theorem dX4_leafState_16 : decode cX4_leafState 16 = .ok (.invokevirtual 57, 3) := by decide +kernel
theorem dX4_leafState_19 : decode cX4_leafState 19 = .ok (.iload_n 2, 1) := by decide +kernel
theorem dX4_leafState_20 : decode cX4_leafState 20 = .ok (.if_icmp .ne 7, 3) := by decide +kernel
theorem dX4_leafState_23 : decode cX4_leafState 23 = .ok (.iconst 1, 1) := by decide +kernel
theorem dX4_leafState_24 : decode cX4_leafState 24 = .ok (.goto 4, 3) := by decide +kernel
theorem dX4_leafState_27 : decode cX4_leafState 27 = .ok (.iconst 0, 1) := by decide +kernel
theorem dX4_leafState_28 : decode cX4_leafState 28 = .ok (.ireturn, 1) := by decide +kernel
theorem dX4_placeNode_0 : decode cX4_placeNode 0 = .ok (.aload_n 0, 1) := by decide +kernel
theorem dX4_placeNode_1 : decode cX4_placeNode 1 = .ok (.getfield 53, 3) := by decide +kernel
theorem dX4_placeNode_4 : decode cX4_placeNode 4 = .ok (.iload_n 2, 1) := by decide +kernel
theorem dX4_placeNode_5 : decode cX4_placeNode 5 = .ok (.iload_n 3, 1) := by decide +kernel
theorem dX4_placeNode_6 : decode cX4_placeNode 6 = .ok (.iload 4, 2) := by decide +kernel
theorem dX4_placeNode_8 : decode cX4_placeNode 8 = .ok (.invokevirtual 94, 3) := by decide +kernel
theorem dX4_placeNode_11 : decode cX4_placeNode 11 = .ok (.istore 5, 2) := by decide +kernel
theorem dX4_placeNode_13 : decode cX4_placeNode 13 = .ok (.iload 5, 2) := by decide +kernel
theorem dX4_placeNode_15 : decode cX4_placeNode 15 = .ok (.iconst (-1), 1) := by decide +kernel
theorem dX4_placeNode_16 : decode cX4_placeNode 16 = .ok (.if_icmp .eq 14, 3) := by decide +kernel
theorem dX4_placeNode_19 : decode cX4_placeNode 19 = .ok (.aload_n 0, 1) := by decide +kernel
theorem dX4_placeNode_20 : decode cX4_placeNode 20 = .ok (.getfield 18, 3) := by decide +kernel
theorem dX4_placeNode_23 : decode cX4_placeNode 23 = .ok (.iload_n 1, 1) := by decide +kernel
theorem dX4_placeNode_24 : decode cX4_placeNode 24 = .ok (.iaload, 1) := by decide +kernel
theorem dX4_placeNode_25 : decode cX4_placeNode 25 = .ok (.bipush 36, 2) := by decide +kernel
theorem dX4_placeNode_27 : decode cX4_placeNode 27 = .ok (.if_icmp .le 5, 3) := by decide +kernel
theorem dX4_placeNode_30 : decode cX4_placeNode 30 = .ok (.iconst 0, 1) := by decide +kernel
theorem dX4_placeNode_31 : decode cX4_placeNode 31 = .ok (.ireturn, 1) := by decide +kernel
theorem dX4_placeNode_32 : decode cX4_placeNode 32 = .ok (.aload_n 0, 1) := by decide +kernel
theorem dX4_placeNode_33 : decode cX4_placeNode 33 = .ok (.getfield 49, 3) := by decide +kernel
theorem dX4_placeNode_36 : decode cX4_placeNode 36 = .ok (.getfield 97, 3) := by decide +kernel
theorem dX4_placeNode_39 : decode cX4_placeNode 39 = .ok (.iload 5, 2) := by decide +kernel
theorem dX4_placeNode_41 : decode cX4_placeNode 41 = .ok (.iaload, 1) := by decide +kernel
theorem dX4_placeNode_42 : decode cX4_placeNode 42 = .ok (.istore 6, 2) := by decide +kernel
theorem dX4_placeNode_44 : decode cX4_placeNode 44 = .ok (.aload_n 0, 1) := by decide +kernel
theorem dX4_placeNode_45 : decode cX4_placeNode 45 = .ok (.getfield 11, 3) := by decide +kernel
theorem dX4_placeNode_48 : decode cX4_placeNode 48 = .ok (.iload_n 1, 1) := by decide +kernel
theorem dX4_placeNode_49 : decode cX4_placeNode 49 = .ok (.bipush 7, 2) := by decide +kernel
theorem dX4_placeNode_51 : decode cX4_placeNode 51 = .ok (.imul, 1) := by decide +kernel
theorem dX4_placeNode_52 : decode cX4_placeNode 52 = .ok (.iconst 0, 1) := by decide +kernel
theorem dX4_placeNode_53 : decode cX4_placeNode 53 = .ok (.iadd, 1) := by decide +kernel
theorem dX4_placeNode_54 : decode cX4_placeNode 54 = .ok (.iload 5, 2) := by decide +kernel
theorem dX4_placeNode_56 : decode cX4_placeNode 56 = .ok (.iastore, 1) := by decide +kernel
theorem dX4_placeNode_57 : decode cX4_placeNode 57 = .ok (.aload_n 0, 1) := by decide +kernel
theorem dX4_placeNode_58 : decode cX4_placeNode 58 = .ok (.getfield 11, 3) := by decide +kernel
theorem dX4_placeNode_61 : decode cX4_placeNode 61 = .ok (.iload_n 1, 1) := by decide +kernel
theorem dX4_placeNode_62 : decode cX4_placeNode 62 = .ok (.bipush 7, 2) := by decide +kernel
theorem dX4_placeNode_64 : decode cX4_placeNode 64 = .ok (.imul, 1) := by decide +kernel
theorem dX4_placeNode_65 : decode cX4_placeNode 65 = .ok (.bipush 6, 2) := by decide +kernel
theorem dX4_placeNode_67 : decode cX4_placeNode 67 = .ok (.iadd, 1) := by decide +kernel
theorem dX4_placeNode_68 : decode cX4_placeNode 68 = .ok (.iload 6, 2) := by decide +kernel
theorem dX4_placeNode_70 : decode cX4_placeNode 70 = .ok (.iastore, 1) := by decide +kernel
theorem dX4_placeNode_71 : decode cX4_placeNode 71 = .ok (.aload_n 0, 1) := by decide +kernel
theorem dX4_placeNode_72 : decode cX4_placeNode 72 = .ok (.getfield 53, 3) := by decide +kernel
theorem dX4_placeNode_75 : decode cX4_placeNode 75 = .ok (.iload 5, 2) := by decide +kernel
theorem dX4_placeNode_77 : decode cX4_placeNode 77 = .ok (.iload_n 3, 1) := by decide +kernel
theorem dX4_placeNode_78 : decode cX4_placeNode 78 = .ok (.iload 4, 2) := by decide +kernel
theorem dX4_placeNode_80 : decode cX4_placeNode 80 = .ok (.aload_n 0, 1) := by decide +kernel
theorem dX4_placeNode_81 : decode cX4_placeNode 81 = .ok (.getfield 21, 3) := by decide +kernel
theorem dX4_placeNode_84 : decode cX4_placeNode 84 = .ok (.invokevirtual 102, 3) := by decide +kernel
theorem dX4_placeNode_87 : decode cX4_placeNode 87 = .ok (.iconst 1, 1) := by decide +kernel
theorem dX4_placeNode_88 : decode cX4_placeNode 88 = .ok (.istore 7, 2) := by decide +kernel
theorem dX4_placeNode_90 : decode cX4_placeNode 90 = .ok (.iload 4, 2) := by decide +kernel
theorem dX4_placeNode_92 : decode cX4_placeNode 92 = .ok (.istore 8, 2) := by decide +kernel
theorem dX4_placeNode_94 : decode cX4_placeNode 94 = .ok (.iload 6, 2) := by decide +kernel
theorem dX4_placeNode_96 : decode cX4_placeNode 96 = .ok (.iconst 1, 1) := by decide +kernel
theorem dX4_placeNode_97 : decode cX4_placeNode 97 = .ok (.isub, 1) := by decide +kernel
theorem dX4_placeNode_98 : decode cX4_placeNode 98 = .ok (.istore 9, 2) := by decide +kernel
theorem dX4_placeNode_100 : decode cX4_placeNode 100 = .ok (.iload 9, 2) := by decide +kernel
theorem dX4_placeNode_102 : decode cX4_placeNode 102 = .ok (.ifCond .lt 65, 3) := by decide +kernel
theorem dX4_placeNode_105 : decode cX4_placeNode 105 = .ok (.iload 7, 2) := by decide +kernel
theorem dX4_placeNode_107 : decode cX4_placeNode 107 = .ok (.ifCond .eq 60, 3) := by decide +kernel
theorem dX4_placeNode_110 : decode cX4_placeNode 110 = .ok (.aload_n 0, 1) := by decide +kernel
theorem dX4_placeNode_111 : decode cX4_placeNode 111 = .ok (.getfield 49, 3) := by decide +kernel
theorem dX4_placeNode_114 : decode cX4_placeNode 114 = .ok (.iload 5, 2) := by decide +kernel
theorem dX4_placeNode_116 : decode cX4_placeNode 116 = .ok (.iload 9, 2) := by decide +kernel
theorem dX4_placeNode_118 : decode cX4_placeNode 118 = .ok (.invokevirtual 106, 3) := by decide +kernel
theorem dX4_placeNode_121 : decode cX4_placeNode 121 = .ok (.istore 10, 2) := by decide +kernel
theorem dX4_placeNode_123 : decode cX4_placeNode 123 = .ok (.aload_n 0, 1) := by decide +kernel
theorem dX4_placeNode_124 : decode cX4_placeNode 124 = .ok (.aload_n 0, 1) := by decide +kernel
theorem dX4_placeNode_125 : decode cX4_placeNode 125 = .ok (.getfield 49, 3) := by decide +kernel
theorem dX4_placeNode_128 : decode cX4_placeNode 128 = .ok (.iload 5, 2) := by decide +kernel
theorem dX4_placeNode_130 : decode cX4_placeNode 130 = .ok (.iload 9, 2) := by decide +kernel
theorem dX4_placeNode_132 : decode cX4_placeNode 132 = .ok (.invokevirtual 109, 3) := by decide +kernel
theorem dX4_placeNode_135 : decode cX4_placeNode 135 = .ok (.iload_n 1, 1) := by decide +kernel
theorem dX4_placeNode_136 : decode cX4_placeNode 136 = .ok (.aload_n 0, 1) := by decide +kernel
theorem dX4_placeNode_137 : decode cX4_placeNode 137 = .ok (.getfield 21, 3) := by decide +kernel
theorem dX4_placeNode_140 : decode cX4_placeNode 140 = .ok (.iload 9, 2) := by decide +kernel
theorem dX4_placeNode_142 : decode cX4_placeNode 142 = .ok (.iaload, 1) := by decide +kernel
theorem dX4_placeNode_143 : decode cX4_placeNode 143 = .ok (.iload 8, 2) := by decide +kernel
theorem dX4_placeNode_145 : decode cX4_placeNode 145 = .ok (.iload 10, 2) := by decide +kernel
theorem dX4_placeNode_147 : decode cX4_placeNode 147 = .ok (.invokevirtual 70, 3) := by decide +kernel
theorem dX4_placeNode_150 : decode cX4_placeNode 150 = .ok (.istore 7, 2) := by decide +kernel
theorem dX4_placeNode_152 : decode cX4_placeNode 152 = .ok (.aload_n 0, 1) := by decide +kernel
theorem dX4_placeNode_153 : decode cX4_placeNode 153 = .ok (.getfield 21, 3) := by decide +kernel
theorem dX4_placeNode_156 : decode cX4_placeNode 156 = .ok (.iload 9, 2) := by decide +kernel
theorem dX4_placeNode_158 : decode cX4_placeNode 158 = .ok (.iaload, 1) := by decide +kernel
theorem dX4_placeNode_159 : decode cX4_placeNode 159 = .ok (.istore 8, 2) := by decide +kernel
theorem dX4_placeNode_161 : decode cX4_placeNode 161 = .ok (.iinc 9 (-1), 3) := by decide +kernel
theorem dX4_placeNode_164 : decode cX4_placeNode 164 = .ok (.goto (-64), 3) := by decide +kernel
theorem dX4_placeNode_167 : decode cX4_placeNode 167 = .ok (.iload 7, 2) := by decide +kernel
theorem dX4_placeNode_169 : decode cX4_placeNode 169 = .ok (.ireturn, 1) := by decide +kernel
theorem dX5_init_0 : decode cX5_init 0 = .ok (.aload_n 0, 1) := by decide +kernel
theorem dX5_init_1 : decode cX5_init 1 = .ok (.invokespecial 3, 3) := by decide +kernel
theorem dX5_init_4 : decode cX5_init 4 = .ok (.aload_n 0, 1) := by decide +kernel
theorem dX5_init_5 : decode cX5_init 5 = .ok (.new 9, 3) := by decide +kernel
theorem dX5_init_8 : decode cX5_init 8 = .ok (.dup, 1) := by decide +kernel
theorem dX5_init_9 : decode cX5_init 9 = .ok (.invokespecial 11, 3) := by decide +kernel
theorem dX5_init_12 : decode cX5_init 12 = .ok (.putfield 12, 3) := by decide +kernel
theorem dX5_init_15 : decode cX5_init 15 = .ok (.aload_n 0, 1) := by decide +kernel
theorem dX5_init_16 : decode cX5_init 16 = .ok (.bipush 80, 2) := by decide +kernel
theorem dX5_init_18 : decode cX5_init 18 = .ok (.newarray .byte, 2) := by decide +kernel
theorem dX5_init_20 : decode cX5_init 20 = .ok (.putfield 16, 3) := by decide +kernel
theorem dX5_init_23 : decode cX5_init 23 = .ok (.aload_n 0, 1) := by decide +kernel
theorem dX5_init_24 : decode cX5_init 24 = .ok (.iconst 0, 1) := by decide +kernel
theorem dX5_init_25 : decode cX5_init 25 = .ok (.putfield 20, 3) := by decide +kernel
theorem dX5_init_28 : decode cX5_init 28 = .ok (.aload_n 0, 1) := by decide +kernel
theorem dX5_init_29 : decode cX5_init 29 = .ok (.new 24, 3) := by decide +kernel
theorem dX5_init_32 : decode cX5_init 32 = .ok (.dup, 1) := by decide +kernel
theorem dX5_init_33 : decode cX5_init 33 = .ok (.invokespecial 26, 3) := by decide +kernel
theorem dX5_init_36 : decode cX5_init 36 = .ok (.putfield 27, 3) := by decide +kernel
theorem dX5_init_39 : decode cX5_init 39 = .ok (.aload_n 0, 1) := by decide +kernel
theorem dX5_init_40 : decode cX5_init 40 = .ok (.new 31, 3) := by decide +kernel
theorem dX5_init_43 : decode cX5_init 43 = .ok (.dup, 1) := by decide +kernel
theorem dX5_init_44 : decode cX5_init 44 = .ok (.aload_n 0, 1) := by decide +kernel
theorem dX5_init_45 : decode cX5_init 45 = .ok (.getfield 12, 3) := by decide +kernel
theorem dX5_init_48 : decode cX5_init 48 = .ok (.aload_n 0, 1) := by decide +kernel
theorem dX5_init_49 : decode cX5_init 49 = .ok (.getfield 27, 3) := by decide +kernel
theorem dX5_init_52 : decode cX5_init 52 = .ok (.invokespecial 33, 3) := by decide +kernel
theorem dX5_init_55 : decode cX5_init 55 = .ok (.putfield 36, 3) := by decide +kernel
theorem dX5_init_58 : decode cX5_init 58 = .ok (.aload_n 0, 1) := by decide +kernel
theorem dX5_init_59 : decode cX5_init 59 = .ok (.new 40, 3) := by decide +kernel
theorem dX5_init_62 : decode cX5_init 62 = .ok (.dup, 1) := by decide +kernel
theorem dX5_init_63 : decode cX5_init 63 = .ok (.aload_n 0, 1) := by decide +kernel
theorem dX5_init_64 : decode cX5_init 64 = .ok (.getfield 12, 3) := by decide +kernel
theorem dX5_init_67 : decode cX5_init 67 = .ok (.aload_n 0, 1) := by decide +kernel
theorem dX5_init_68 : decode cX5_init 68 = .ok (.getfield 36, 3) := by decide +kernel
theorem dX5_init_71 : decode cX5_init 71 = .ok (.invokespecial 42, 3) := by decide +kernel
theorem dX5_init_74 : decode cX5_init 74 = .ok (.putfield 45, 3) := by decide +kernel
theorem dX5_init_77 : decode cX5_init 77 = .ok (.aload_n 0, 1) := by decide +kernel
theorem dX5_init_78 : decode cX5_init 78 = .ok (.new 49, 3) := by decide +kernel
theorem dX5_init_81 : decode cX5_init 81 = .ok (.dup, 1) := by decide +kernel
theorem dX5_init_82 : decode cX5_init 82 = .ok (.aload_n 0, 1) := by decide +kernel
theorem dX5_init_83 : decode cX5_init 83 = .ok (.getfield 12, 3) := by decide +kernel
theorem dX5_init_86 : decode cX5_init 86 = .ok (.aload_n 0, 1) := by decide +kernel
theorem dX5_init_87 : decode cX5_init 87 = .ok (.getfield 27, 3) := by decide +kernel
theorem dX5_init_90 : decode cX5_init 90 = .ok (.aload_n 0, 1) := by decide +kernel
theorem dX5_init_91 : decode cX5_init 91 = .ok (.getfield 45, 3) := by decide +kernel
theorem dX5_init_94 : decode cX5_init 94 = .ok (.invokespecial 51, 3) := by decide +kernel
theorem dX5_init_97 : decode cX5_init 97 = .ok (.putfield 54, 3) := by decide +kernel
theorem dX5_init_100 : decode cX5_init 100 = .ok (.aload_n 0, 1) := by decide +kernel
theorem dX5_init_101 : decode cX5_init 101 = .ok (.iconst 0, 1) := by decide +kernel
theorem dX5_init_102 : decode cX5_init 102 = .ok (.putfield 58, 3) := by decide +kernel
theorem dX5_init_105 : decode cX5_init 105 = .ok (.aload_n 0, 1) := by decide +kernel
theorem dX5_init_106 : decode cX5_init 106 = .ok (.iconst 0, 1) := by decide +kernel
theorem dX5_init_107 : decode cX5_init 107 = .ok (.putfield 61, 3) := by decide +kernel
theorem dX5_init_110 : decode cX5_init 110 = .ok (.return_, 1) := by decide +kernel
theorem dX5_rule_0 : decode cX5_rule 0 = .ok (.iload_n 2, 1) := by decide +kernel
theorem dX5_rule_1 : decode cX5_rule 1 = .ok (.invokestatic 64, 3) := by decide +kernel
theorem dX5_rule_4 : decode cX5_rule 4 = .ok (.istore 5, 2) := by decide +kernel
theorem dX5_rule_6 : decode cX5_rule 6 = .ok (.iload_n 1, 1) := by decide +kernel
theorem dX5_rule_7 : decode cX5_rule 7 = .ok (.invokestatic 68, 3) := by decide +kernel
theorem dX5_rule_10 : decode cX5_rule 10 = .ok (.ifCond .eq 18, 3) := by decide +kernel
theorem dX5_rule_13 : decode cX5_rule 13 = .ok (.iload 5, 2) := by decide +kernel
theorem dX5_rule_15 : decode cX5_rule 15 = .ok (.iconst (-1), 1) := by decide +kernel
theorem dX5_rule_16 : decode cX5_rule 16 = .ok (.if_icmp .eq 12, 3) := by decide +kernel
theorem dX5_rule_19 : decode cX5_rule 19 = .ok (.iload_n 3, 1) := by decide +kernel
theorem dX5_rule_20 : decode cX5_rule 20 = .ok (.iload 5, 2) := by decide +kernel
theorem dX5_rule_22 : decode cX5_rule 22 = .ok (.invokestatic 72, 3) := by decide +kernel
theorem dX5_rule_25 : decode cX5_rule 25 = .ok (.ifCond .ne 13, 3) := by decide +kernel
theorem dX5_rule_28 : decode cX5_rule 28 = .ok (.new 76, 3) := by decide +kernel
theorem dX5_rule_31 : decode cX5_rule 31 = .ok (.dup, 1) := by decide +kernel
theorem dX5_rule_32 : decode cX5_rule 32 = .ok (.ldc 78, 2) := by decide +kernel
theorem dX5_rule_34 : decode cX5_rule 34 = .ok (.invokespecial 80, 3) := by decide +kernel
theorem dX5_rule_37 : decode cX5_rule 37 = .ok (.athrow, 1) := by decide +kernel
theorem dX5_rule_38 : decode cX5_rule 38 = .ok (.aload_n 0, 1) := by decide +kernel
theorem dX5_rule_39 : decode cX5_rule 39 = .ok (.getfield 12, 3) := by decide +kernel
theorem dX5_rule_42 : decode cX5_rule 42 = .ok (.getfield 83, 3) := by decide +kernel
theorem dX5_rule_45 : decode cX5_rule 45 = .ok (.bipush 20, 2) := by decide +kernel
theorem dX5_rule_47 : decode cX5_rule 47 = .ok (.if_icmp .lt 13, 3) := by decide +kernel
theorem dX5_rule_50 : decode cX5_rule 50 = .ok (.new 86, 3) := by decide +kernel
theorem dX5_rule_53 : decode cX5_rule 53 = .ok (.dup, 1) := by decide +kernel
theorem dX5_rule_54 : decode cX5_rule 54 = .ok (.ldc 88, 2) := by decide +kernel
theorem dX5_rule_56 : decode cX5_rule 56 = .ok (.invokespecial 90, 3) := by decide +kernel
theorem dX5_rule_59 : decode cX5_rule 59 = .ok (.athrow, 1) := by decide +kernel
theorem dX5_rule_60 : decode cX5_rule 60 = .ok (.aload_n 0, 1) := by decide +kernel
theorem dX5_rule_61 : decode cX5_rule 61 = .ok (.getfield 45, 3) := by decide +kernel
theorem dX5_rule_64 : decode cX5_rule 64 = .ok (.invokevirtual 91, 3) := by decide +kernel
theorem dX5_rule_67 : decode cX5_rule 67 = .ok (.aload_n 0, 1) := by decide +kernel
theorem dX5_rule_68 : decode cX5_rule 68 = .ok (.getfield 12, 3) := by decide +kernel
theorem dX5_rule_71 : decode cX5_rule 71 = .ok (.iload_n 1, 1) := by decide +kernel
theorem dX5_rule_72 : decode cX5_rule 72 = .ok (.iload_n 2, 1) := by decide +kernel
theorem dX5_rule_73 : decode cX5_rule 73 = .ok (.iload_n 3, 1) := by decide +kernel
theorem dX5_rule_74 : decode cX5_rule 74 = .ok (.iload 4, 2) := by decide +kernel
theorem dX5_rule_76 : decode cX5_rule 76 = .ok (.invokevirtual 94, 3) := by decide +kernel
theorem dX5_rule_79 : decode cX5_rule 79 = .ok (.ireturn, 1) := by decide +kernel
theorem dX5_write_0 : decode cX5_write 0 = .ok (.iload_n 3, 1) := by decide +kernel
theorem dX5_write_1 : decode cX5_write 1 = .ok (.iconst 1, 1) := by decide +kernel
theorem dX5_write_2 : decode cX5_write 2 = .ok (.if_icmp .lt 17, 3) := by decide +kernel
theorem dX5_write_5 : decode cX5_write 5 = .ok (.iload_n 3, 1) := by decide +kernel
theorem dX5_write_6 : decode cX5_write 6 = .ok (.bipush 8, 2) := by decide +kernel
theorem dX5_write_8 : decode cX5_write 8 = .ok (.if_icmp .gt 11, 3) := by decide +kernel
theorem dX5_write_11 : decode cX5_write 11 = .ok (.lload_n 1, 1) := by decide +kernel
theorem dX5_write_12 : decode cX5_write 12 = .ok (.iload_n 3, 1) := by decide +kernel
theorem dX5_write_13 : decode cX5_write 13 = .ok (.invokestatic 98, 3) := by decide +kernel
theorem dX5_write_16 : decode cX5_write 16 = .ok (.ifCond .ne 13, 3) := by decide +kernel
theorem dX5_write_19 : decode cX5_write 19 = .ok (.new 76, 3) := by decide +kernel
theorem dX5_write_22 : decode cX5_write 22 = .ok (.dup, 1) := by decide +kernel
theorem dX5_write_23 : decode cX5_write 23 = .ok (.ldc 102, 2) := by decide +kernel
theorem dX5_write_25 : decode cX5_write 25 = .ok (.invokespecial 80, 3) := by decide +kernel
theorem dX5_write_28 : decode cX5_write 28 = .ok (.athrow, 1) := by decide +kernel
theorem dX5_write_29 : decode cX5_write 29 = .ok (.aload_n 0, 1) := by decide +kernel
theorem dX5_write_30 : decode cX5_write 30 = .ok (.getfield 20, 3) := by decide +kernel
theorem dX5_write_33 : decode cX5_write 33 = .ok (.iload_n 3, 1) := by decide +kernel
theorem dX5_write_34 : decode cX5_write 34 = .ok (.iadd, 1) := by decide +kernel
theorem dX5_write_35 : decode cX5_write 35 = .ok (.bipush 80, 2) := by decide +kernel
theorem dX5_write_37 : decode cX5_write 37 = .ok (.if_icmp .le 13, 3) := by decide +kernel
theorem dX5_write_40 : decode cX5_write 40 = .ok (.new 86, 3) := by decide +kernel
theorem dX5_write_43 : decode cX5_write 43 = .ok (.dup, 1) := by decide +kernel
theorem dX5_write_44 : decode cX5_write 44 = .ok (.ldc 104, 2) := by decide +kernel
theorem dX5_write_46 : decode cX5_write 46 = .ok (.invokespecial 90, 3) := by decide +kernel
theorem dX5_write_49 : decode cX5_write 49 = .ok (.athrow, 1) := by decide +kernel
theorem dX5_write_50 : decode cX5_write 50 = .ok (.iconst 0, 1) := by decide +kernel
theorem dX5_write_51 : decode cX5_write 51 = .ok (.istore 4, 2) := by decide +kernel
theorem dX5_write_53 : decode cX5_write 53 = .ok (.iload 4, 2) := by decide +kernel
theorem dX5_write_55 : decode cX5_write 55 = .ok (.iload_n 3, 1) := by decide +kernel
theorem dX5_write_56 : decode cX5_write 56 = .ok (.if_icmp .ge 28, 3) := by decide +kernel
theorem dX5_write_59 : decode cX5_write 59 = .ok (.aload_n 0, 1) := by decide +kernel
theorem dX5_write_60 : decode cX5_write 60 = .ok (.getfield 16, 3) := by decide +kernel
theorem dX5_write_63 : decode cX5_write 63 = .ok (.aload_n 0, 1) := by decide +kernel
theorem dX5_write_64 : decode cX5_write 64 = .ok (.getfield 20, 3) := by decide +kernel
theorem dX5_write_67 : decode cX5_write 67 = .ok (.iload 4, 2) := by decide +kernel
theorem dX5_write_69 : decode cX5_write 69 = .ok (.iadd, 1) := by decide +kernel
theorem dX5_write_70 : decode cX5_write 70 = .ok (.lload_n 1, 1) := by decide +kernel
theorem dX5_write_71 : decode cX5_write 71 = .ok (.iload 4, 2) := by decide +kernel
theorem dX5_write_73 : decode cX5_write 73 = .ok (.invokestatic 106, 3) := by decide +kernel
theorem dX5_write_76 : decode cX5_write 76 = .ok (.i2b, 1) := by decide +kernel
theorem dX5_write_77 : decode cX5_write 77 = .ok (.bastore, 1) := by decide +kernel
theorem dX5_write_78 : decode cX5_write 78 = .ok (.iinc 4 1, 3) := by decide +kernel
theorem dX5_write_81 : decode cX5_write 81 = .ok (.goto (-28), 3) := by decide +kernel
theorem dX5_write_84 : decode cX5_write 84 = .ok (.aload_n 0, 1) := by decide +kernel
theorem dX5_write_85 : decode cX5_write 85 = .ok (.dup, 1) := by decide +kernel
theorem dX5_write_86 : decode cX5_write 86 = .ok (.getfield 20, 3) := by decide +kernel
theorem dX5_write_89 : decode cX5_write 89 = .ok (.iload_n 3, 1) := by decide +kernel
theorem dX5_write_90 : decode cX5_write 90 = .ok (.iadd, 1) := by decide +kernel
theorem dX5_write_91 : decode cX5_write 91 = .ok (.putfield 20, 3) := by decide +kernel
theorem dX5_write_94 : decode cX5_write 94 = .ok (.aload_n 0, 1) := by decide +kernel
theorem dX5_write_95 : decode cX5_write 95 = .ok (.getfield 20, 3) := by decide +kernel
theorem dX5_write_98 : decode cX5_write 98 = .ok (.ireturn, 1) := by decide +kernel
theorem dX5_erase_0 : decode cX5_erase 0 = .ok (.aload_n 0, 1) := by decide +kernel
theorem dX5_erase_1 : decode cX5_erase 1 = .ok (.getfield 20, 3) := by decide +kernel
theorem dX5_erase_4 : decode cX5_erase 4 = .ok (.istore_n 1, 1) := by decide +kernel
theorem dX5_erase_5 : decode cX5_erase 5 = .ok (.aload_n 0, 1) := by decide +kernel
theorem dX5_erase_6 : decode cX5_erase 6 = .ok (.iconst 0, 1) := by decide +kernel
theorem dX5_erase_7 : decode cX5_erase 7 = .ok (.putfield 20, 3) := by decide +kernel
theorem dX5_erase_10 : decode cX5_erase 10 = .ok (.iload_n 1, 1) := by decide +kernel
theorem dX5_erase_11 : decode cX5_erase 11 = .ok (.ireturn, 1) := by decide +kernel
theorem dX5_repair_0 : decode cX5_repair 0 = .ok (.aload_n 0, 1) := by decide +kernel
theorem dX5_repair_1 : decode cX5_repair 1 = .ok (.getfield 12, 3) := by decide +kernel
theorem dX5_repair_4 : decode cX5_repair 4 = .ok (.bipush 9, 2) := by decide +kernel
theorem dX5_repair_6 : decode cX5_repair 6 = .ok (.invokevirtual 110, 3) := by decide +kernel
theorem dX5_repair_9 : decode cX5_repair 9 = .ok (.ifCond .ne 13, 3) := by decide +kernel
theorem dX5_repair_12 : decode cX5_repair 12 = .ok (.new 113, 3) := by decide +kernel
theorem dX5_repair_15 : decode cX5_repair 15 = .ok (.dup, 1) := by decide +kernel
theorem dX5_repair_16 : decode cX5_repair 16 = .ok (.ldc 115, 2) := by decide +kernel
theorem dX5_repair_18 : decode cX5_repair 18 = .ok (.invokespecial 117, 3) := by decide +kernel
theorem dX5_repair_21 : decode cX5_repair 21 = .ok (.athrow, 1) := by decide +kernel
theorem dX5_repair_22 : decode cX5_repair 22 = .ok (.aload_n 0, 1) := by decide +kernel
theorem dX5_repair_23 : decode cX5_repair 23 = .ok (.getfield 45, 3) := by decide +kernel
theorem dX5_repair_26 : decode cX5_repair 26 = .ok (.invokevirtual 91, 3) := by decide +kernel
theorem dX5_repair_29 : decode cX5_repair 29 = .ok (.aload_n 0, 1) := by decide +kernel
theorem dX5_repair_30 : decode cX5_repair 30 = .ok (.getfield 27, 3) := by decide +kernel
theorem dX5_repair_33 : decode cX5_repair 33 = .ok (.aload_n 0, 1) := by decide +kernel
theorem dX5_repair_34 : decode cX5_repair 34 = .ok (.getfield 16, 3) := by decide +kernel
theorem dX5_repair_37 : decode cX5_repair 37 = .ok (.aload_n 0, 1) := by decide +kernel
theorem dX5_repair_38 : decode cX5_repair 38 = .ok (.getfield 20, 3) := by decide +kernel
theorem dX5_repair_41 : decode cX5_repair 41 = .ok (.invokevirtual 118, 3) := by decide +kernel
theorem dX5_repair_44 : decode cX5_repair 44 = .ok (.ifCond .ne 13, 3) := by decide +kernel
theorem dX5_repair_47 : decode cX5_repair 47 = .ok (.new 86, 3) := by decide +kernel
theorem dX5_repair_50 : decode cX5_repair 50 = .ok (.dup, 1) := by decide +kernel
theorem dX5_repair_51 : decode cX5_repair 51 = .ok (.ldc 122, 2) := by decide +kernel
theorem dX5_repair_53 : decode cX5_repair 53 = .ok (.invokespecial 90, 3) := by decide +kernel
theorem dX5_repair_56 : decode cX5_repair 56 = .ok (.athrow, 1) := by decide +kernel
theorem dX5_repair_57 : decode cX5_repair 57 = .ok (.aload_n 0, 1) := by decide +kernel
theorem dX5_repair_58 : decode cX5_repair 58 = .ok (.getfield 36, 3) := by decide +kernel
theorem dX5_repair_61 : decode cX5_repair 61 = .ok (.invokevirtual 124, 3) := by decide +kernel
theorem dX5_repair_64 : decode cX5_repair 64 = .ok (.aload_n 0, 1) := by decide +kernel
theorem dX5_repair_65 : decode cX5_repair 65 = .ok (.getfield 45, 3) := by decide +kernel
theorem dX5_repair_68 : decode cX5_repair 68 = .ok (.aload_n 0, 1) := by decide +kernel
theorem dX5_repair_69 : decode cX5_repair 69 = .ok (.getfield 27, 3) := by decide +kernel
theorem dX5_repair_72 : decode cX5_repair 72 = .ok (.getfield 127, 3) := by decide +kernel
theorem dX5_repair_75 : decode cX5_repair 75 = .ok (.invokevirtual 128, 3) := by decide +kernel
theorem dX5_repair_78 : decode cX5_repair 78 = .ok (.ifCond .ne 13, 3) := by decide +kernel
theorem dX5_repair_81 : decode cX5_repair 81 = .ok (.new 86, 3) := by decide +kernel
theorem dX5_repair_84 : decode cX5_repair 84 = .ok (.dup, 1) := by decide +kernel
theorem dX5_repair_85 : decode cX5_repair 85 = .ok (.ldc 131, 2) := by decide +kernel
theorem dX5_repair_87 : decode cX5_repair 87 = .ok (.invokespecial 90, 3) := by decide +kernel
theorem dX5_repair_90 : decode cX5_repair 90 = .ok (.athrow, 1) := by decide +kernel
theorem dX5_repair_91 : decode cX5_repair 91 = .ok (.aload_n 0, 1) := by decide +kernel
theorem dX5_repair_92 : decode cX5_repair 92 = .ok (.getfield 45, 3) := by decide +kernel
theorem dX5_repair_95 : decode cX5_repair 95 = .ok (.iconst 0, 1) := by decide +kernel
theorem dX5_repair_96 : decode cX5_repair 96 = .ok (.iconst 5, 1) := by decide +kernel
theorem dX5_repair_97 : decode cX5_repair 97 = .ok (.invokevirtual 133, 3) := by decide +kernel
theorem dX5_repair_100 : decode cX5_repair 100 = .ok (.aload_n 0, 1) := by decide +kernel
theorem dX5_repair_101 : decode cX5_repair 101 = .ok (.getfield 45, 3) := by decide +kernel
theorem dX5_repair_104 : decode cX5_repair 104 = .ok (.getfield 137, 3) := by decide +kernel
theorem dX5_repair_107 : decode cX5_repair 107 = .ok (.iadd, 1) := by decide +kernel
theorem dX5_repair_108 : decode cX5_repair 108 = .ok (.istore_n 1, 1) := by decide +kernel
theorem dX5_repair_109 : decode cX5_repair 109 = .ok (.aload_n 0, 1) := by decide +kernel
theorem dX5_repair_110 : decode cX5_repair 110 = .ok (.dup, 1) := by decide +kernel
theorem dX5_repair_111 : decode cX5_repair 111 = .ok (.getfield 58, 3) := by decide +kernel
theorem dX5_repair_114 : decode cX5_repair 114 = .ok (.iconst 1, 1) := by decide +kernel
theorem dX5_repair_115 : decode cX5_repair 115 = .ok (.iadd, 1) := by decide +kernel
theorem dX5_repair_116 : decode cX5_repair 116 = .ok (.putfield 58, 3) := by decide +kernel
theorem dX5_repair_119 : decode cX5_repair 119 = .ok (.aload_n 0, 1) := by decide +kernel
theorem dX5_repair_120 : decode cX5_repair 120 = .ok (.dup, 1) := by decide +kernel
theorem dX5_repair_121 : decode cX5_repair 121 = .ok (.getfield 61, 3) := by decide +kernel
theorem dX5_repair_124 : decode cX5_repair 124 = .ok (.iload_n 1, 1) := by decide +kernel
theorem dX5_repair_125 : decode cX5_repair 125 = .ok (.iadd, 1) := by decide +kernel
theorem dX5_repair_126 : decode cX5_repair 126 = .ok (.putfield 61, 3) := by decide +kernel
theorem dX5_repair_129 : decode cX5_repair 129 = .ok (.iload_n 1, 1) := by decide +kernel
theorem dX5_repair_130 : decode cX5_repair 130 = .ok (.ireturn, 1) := by decide +kernel
theorem dX5_tokens_0 : decode cX5_tokens 0 = .ok (.aload_n 0, 1) := by decide +kernel
theorem dX5_tokens_1 : decode cX5_tokens 1 = .ok (.getfield 45, 3) := by decide +kernel
theorem dX5_tokens_4 : decode cX5_tokens 4 = .ok (.getfield 140, 3) := by decide +kernel
theorem dX5_tokens_7 : decode cX5_tokens 7 = .ok (.ifCond .le 13, 3) := by decide +kernel
theorem dX5_tokens_10 : decode cX5_tokens 10 = .ok (.aload_n 0, 1) := by decide +kernel
theorem dX5_tokens_11 : decode cX5_tokens 11 = .ok (.getfield 27, 3) := by decide +kernel
theorem dX5_tokens_14 : decode cX5_tokens 14 = .ok (.getfield 127, 3) := by decide +kernel
theorem dX5_tokens_17 : decode cX5_tokens 17 = .ok (.goto 4, 3) := by decide +kernel
theorem dX5_tokens_20 : decode cX5_tokens 20 = .ok (.iconst 0, 1) := by decide +kernel
theorem dX5_tokens_21 : decode cX5_tokens 21 = .ok (.ireturn, 1) := by decide +kernel
theorem dX5_token_0 : decode cX5_token 0 = .ok (.aload_n 0, 1) := by decide +kernel
theorem dX5_token_1 : decode cX5_token 1 = .ok (.getfield 45, 3) := by decide +kernel
theorem dX5_token_4 : decode cX5_token 4 = .ok (.getfield 140, 3) := by decide +kernel
theorem dX5_token_7 : decode cX5_token 7 = .ok (.ifCond .eq 27, 3) := by decide +kernel
theorem dX5_token_10 : decode cX5_token 10 = .ok (.iload_n 1, 1) := by decide +kernel
theorem dX5_token_11 : decode cX5_token 11 = .ok (.ifCond .lt 23, 3) := by decide +kernel
theorem dX5_token_14 : decode cX5_token 14 = .ok (.iload_n 1, 1) := by decide +kernel
theorem dX5_token_15 : decode cX5_token 15 = .ok (.aload_n 0, 1) := by decide +kernel
theorem dX5_token_16 : decode cX5_token 16 = .ok (.getfield 27, 3) := by decide +kernel
theorem dX5_token_19 : decode cX5_token 19 = .ok (.getfield 127, 3) := by decide +kernel
theorem dX5_token_22 : decode cX5_token 22 = .ok (.if_icmp .gt 12, 3) := by decide +kernel
theorem dX5_token_25 : decode cX5_token 25 = .ok (.iload_n 2, 1) := by decide +kernel
theorem dX5_token_26 : decode cX5_token 26 = .ok (.ifCond .lt 8, 3) := by decide +kernel
theorem dX5_token_29 : decode cX5_token 29 = .ok (.iload_n 2, 1) := by decide +kernel
theorem dX5_token_30 : decode cX5_token 30 = .ok (.iconst 2, 1) := by decide +kernel
theorem dX5_token_31 : decode cX5_token 31 = .ok (.if_icmp .le 13, 3) := by decide +kernel
theorem dX5_token_34 : decode cX5_token 34 = .ok (.new 141, 3) := by decide +kernel
theorem dX5_token_37 : decode cX5_token 37 = .ok (.dup, 1) := by decide +kernel
theorem dX5_token_38 : decode cX5_token 38 = .ok (.ldc 143, 2) := by decide +kernel
theorem dX5_token_40 : decode cX5_token 40 = .ok (.invokespecial 145, 3) := by decide +kernel
theorem dX5_token_43 : decode cX5_token 43 = .ok (.athrow, 1) := by decide +kernel
theorem dX5_token_44 : decode cX5_token 44 = .ok (.iload_n 2, 1) := by decide +kernel
theorem dX5_token_45 : decode cX5_token 45 = .ok (.iconst 2, 1) := by decide +kernel
theorem dX5_token_46 : decode cX5_token 46 = .ok (.if_icmp .ne 12, 3) := by decide +kernel
theorem dX5_token_49 : decode cX5_token 49 = .ok (.aload_n 0, 1) := by decide +kernel
theorem dX5_token_50 : decode cX5_token 50 = .ok (.getfield 27, 3) := by decide +kernel
theorem dX5_token_53 : decode cX5_token 53 = .ok (.iload_n 1, 1) := by decide +kernel
theorem dX5_token_54 : decode cX5_token 54 = .ok (.invokevirtual 146, 3) := by decide +kernel
theorem dX5_token_57 : decode cX5_token 57 = .ok (.ireturn, 1) := by decide +kernel
theorem dX5_token_58 : decode cX5_token 58 = .ok (.iload_n 2, 1) := by decide +kernel
theorem dX5_token_59 : decode cX5_token 59 = .ok (.ifCond .ne 14, 3) := by decide +kernel
theorem dX5_token_62 : decode cX5_token 62 = .ok (.aload_n 0, 1) := by decide +kernel
theorem dX5_token_63 : decode cX5_token 63 = .ok (.getfield 27, 3) := by decide +kernel
theorem dX5_token_66 : decode cX5_token 66 = .ok (.iload_n 1, 1) := by decide +kernel
theorem dX5_token_67 : decode cX5_token 67 = .ok (.invokevirtual 149, 3) := by decide +kernel
theorem dX5_token_70 : decode cX5_token 70 = .ok (.goto 11, 3) := by decide +kernel
theorem dX5_token_73 : decode cX5_token 73 = .ok (.aload_n 0, 1) := by decide +kernel
theorem dX5_token_74 : decode cX5_token 74 = .ok (.getfield 27, 3) := by decide +kernel
theorem dX5_token_77 : decode cX5_token 77 = .ok (.iload_n 1, 1) := by decide +kernel
theorem dX5_token_78 : decode cX5_token 78 = .ok (.invokevirtual 152, 3) := by decide +kernel
theorem dX5_token_81 : decode cX5_token 81 = .ok (.ireturn, 1) := by decide +kernel
theorem dX5_parts_0 : decode cX5_parts 0 = .ok (.aload_n 0, 1) := by decide +kernel
theorem dX5_parts_1 : decode cX5_parts 1 = .ok (.getfield 45, 3) := by decide +kernel
theorem dX5_parts_4 : decode cX5_parts 4 = .ok (.getfield 140, 3) := by decide +kernel
theorem dX5_parts_7 : decode cX5_parts 7 = .ok (.ireturn, 1) := by decide +kernel
theorem dX5_part_0 : decode cX5_part 0 = .ok (.iload_n 1, 1) := by decide +kernel
theorem dX5_part_1 : decode cX5_part 1 = .ok (.ifCond .lt 24, 3) := by decide +kernel
theorem dX5_part_4 : decode cX5_part 4 = .ok (.iload_n 1, 1) := by decide +kernel
theorem dX5_part_5 : decode cX5_part 5 = .ok (.aload_n 0, 1) := by decide +kernel
theorem dX5_part_6 : decode cX5_part 6 = .ok (.getfield 45, 3) := by decide +kernel
theorem dX5_part_9 : decode cX5_part 9 = .ok (.getfield 140, 3) := by decide +kernel
theorem dX5_part_12 : decode cX5_part 12 = .ok (.if_icmp .ge 13, 3) := by decide +kernel
theorem dX5_part_15 : decode cX5_part 15 = .ok (.iload_n 2, 1) := by decide +kernel
theorem dX5_part_16 : decode cX5_part 16 = .ok (.ifCond .lt 9, 3) := by decide +kernel
theorem dX5_part_19 : decode cX5_part 19 = .ok (.iload_n 2, 1) := by decide +kernel
theorem dX5_part_20 : decode cX5_part 20 = .ok (.bipush 7, 2) := by decide +kernel
theorem dX5_part_22 : decode cX5_part 22 = .ok (.if_icmp .lt 13, 3) := by decide +kernel
theorem dX5_part_25 : decode cX5_part 25 = .ok (.new 141, 3) := by decide +kernel
theorem dX5_part_28 : decode cX5_part 28 = .ok (.dup, 1) := by decide +kernel
theorem dX5_part_29 : decode cX5_part 29 = .ok (.ldc 155, 2) := by decide +kernel
theorem dX5_part_31 : decode cX5_part 31 = .ok (.invokespecial 145, 3) := by decide +kernel
theorem dX5_part_34 : decode cX5_part 34 = .ok (.athrow, 1) := by decide +kernel
theorem dX5_part_35 : decode cX5_part 35 = .ok (.aload_n 0, 1) := by decide +kernel
theorem dX5_part_36 : decode cX5_part 36 = .ok (.getfield 45, 3) := by decide +kernel
theorem dX5_part_39 : decode cX5_part 39 = .ok (.iload_n 1, 1) := by decide +kernel
theorem dX5_part_40 : decode cX5_part 40 = .ok (.iload_n 2, 1) := by decide +kernel
theorem dX5_part_41 : decode cX5_part 41 = .ok (.invokevirtual 133, 3) := by decide +kernel
theorem dX5_part_44 : decode cX5_part 44 = .ok (.ireturn, 1) := by decide +kernel
theorem dX5_rest_0 : decode cX5_rest 0 = .ok (.aload_n 0, 1) := by decide +kernel
theorem dX5_rest_1 : decode cX5_rest 1 = .ok (.getfield 45, 3) := by decide +kernel
theorem dX5_rest_4 : decode cX5_rest 4 = .ok (.getfield 140, 3) := by decide +kernel
theorem dX5_rest_7 : decode cX5_rest 7 = .ok (.ifCond .ne 13, 3) := by decide +kernel
theorem dX5_rest_10 : decode cX5_rest 10 = .ok (.new 86, 3) := by decide +kernel
theorem dX5_rest_13 : decode cX5_rest 13 = .ok (.dup, 1) := by decide +kernel
theorem dX5_rest_14 : decode cX5_rest 14 = .ok (.ldc 157, 2) := by decide +kernel
theorem dX5_rest_16 : decode cX5_rest 16 = .ok (.invokespecial 90, 3) := by decide +kernel
theorem dX5_rest_19 : decode cX5_rest 19 = .ok (.athrow, 1) := by decide +kernel
theorem dX5_rest_20 : decode cX5_rest 20 = .ok (.aload_n 0, 1) := by decide +kernel
theorem dX5_rest_21 : decode cX5_rest 21 = .ok (.getfield 45, 3) := by decide +kernel
theorem dX5_rest_24 : decode cX5_rest 24 = .ok (.getfield 137, 3) := by decide +kernel
theorem dX5_rest_27 : decode cX5_rest 27 = .ok (.ireturn, 1) := by decide +kernel
theorem dX5_print_0 : decode cX5_print 0 = .ok (.iload_n 1, 1) := by decide +kernel
theorem dX5_print_1 : decode cX5_print 1 = .ok (.iconst 1, 1) := by decide +kernel
theorem dX5_print_2 : decode cX5_print 2 = .ok (.if_icmp .lt 9, 3) := by decide +kernel
theorem dX5_print_5 : decode cX5_print 5 = .ok (.iload_n 1, 1) := by decide +kernel
theorem dX5_print_6 : decode cX5_print 6 = .ok (.bipush 100, 2) := by decide +kernel
theorem dX5_print_8 : decode cX5_print 8 = .ok (.if_icmp .le 13, 3) := by decide +kernel
theorem dX5_print_11 : decode cX5_print 11 = .ok (.new 76, 3) := by decide +kernel
theorem dX5_print_14 : decode cX5_print 14 = .ok (.dup, 1) := by decide +kernel
theorem dX5_print_15 : decode cX5_print 15 = .ok (.ldc 159, 2) := by decide +kernel
theorem dX5_print_17 : decode cX5_print 17 = .ok (.invokespecial 80, 3) := by decide +kernel
theorem dX5_print_20 : decode cX5_print 20 = .ok (.athrow, 1) := by decide +kernel
theorem dX5_print_21 : decode cX5_print 21 = .ok (.aload_n 0, 1) := by decide +kernel
theorem dX5_print_22 : decode cX5_print 22 = .ok (.getfield 45, 3) := by decide +kernel
theorem dX5_print_25 : decode cX5_print 25 = .ok (.getfield 140, 3) := by decide +kernel
theorem dX5_print_28 : decode cX5_print 28 = .ok (.ifCond .ne 13, 3) := by decide +kernel
theorem dX5_print_31 : decode cX5_print 31 = .ok (.new 86, 3) := by decide +kernel
theorem dX5_print_34 : decode cX5_print 34 = .ok (.dup, 1) := by decide +kernel
theorem dX5_print_35 : decode cX5_print 35 = .ok (.ldc 157, 2) := by decide +kernel
theorem dX5_print_37 : decode cX5_print 37 = .ok (.invokespecial 90, 3) := by decide +kernel
theorem dX5_print_40 : decode cX5_print 40 = .ok (.athrow, 1) := by decide +kernel
theorem dX5_print_41 : decode cX5_print 41 = .ok (.aload_n 0, 1) := by decide +kernel
theorem dX5_print_42 : decode cX5_print 42 = .ok (.getfield 54, 3) := by decide +kernel
theorem dX5_print_45 : decode cX5_print 45 = .ok (.iload_n 1, 1) := by decide +kernel
theorem dX5_print_46 : decode cX5_print 46 = .ok (.invokevirtual 161, 3) := by decide +kernel
theorem dX5_print_49 : decode cX5_print 49 = .ok (.aload_n 0, 1) := by decide +kernel
theorem dX5_print_50 : decode cX5_print 50 = .ok (.getfield 54, 3) := by decide +kernel
theorem dX5_print_53 : decode cX5_print 53 = .ok (.getfield 165, 3) := by decide +kernel
theorem dX5_print_56 : decode cX5_print 56 = .ok (.ireturn, 1) := by decide +kernel
theorem dX5_character_0 : decode cX5_character 0 = .ok (.iload_n 1, 1) := by decide +kernel
theorem dX5_character_1 : decode cX5_character 1 = .ok (.ifCond .lt 14, 3) := by decide +kernel
theorem dX5_character_4 : decode cX5_character 4 = .ok (.iload_n 1, 1) := by decide +kernel
theorem dX5_character_5 : decode cX5_character 5 = .ok (.aload_n 0, 1) := by decide +kernel
theorem dX5_character_6 : decode cX5_character 6 = .ok (.getfield 54, 3) := by decide +kernel
theorem dX5_character_9 : decode cX5_character 9 = .ok (.getfield 165, 3) := by decide +kernel
theorem dX5_character_12 : decode cX5_character 12 = .ok (.if_icmp .lt 13, 3) := by decide +kernel
theorem dX5_character_15 : decode cX5_character 15 = .ok (.new 141, 3) := by decide +kernel
theorem dX5_character_18 : decode cX5_character 18 = .ok (.dup, 1) := by decide +kernel
theorem dX5_character_19 : decode cX5_character 19 = .ok (.ldc 166, 2) := by decide +kernel
theorem dX5_character_21 : decode cX5_character 21 = .ok (.invokespecial 145, 3) := by decide +kernel
theorem dX5_character_24 : decode cX5_character 24 = .ok (.athrow, 1) := by decide +kernel
theorem dX5_character_25 : decode cX5_character 25 = .ok (.aload_n 0, 1) := by decide +kernel
theorem dX5_character_26 : decode cX5_character 26 = .ok (.getfield 54, 3) := by decide +kernel
theorem dX5_character_29 : decode cX5_character 29 = .ok (.iload_n 1, 1) := by decide +kernel
theorem dX5_character_30 : decode cX5_character 30 = .ok (.invokevirtual 168, 3) := by decide +kernel
theorem dX5_character_33 : decode cX5_character 33 = .ok (.ireturn, 1) := by decide +kernel
theorem dX5_grounded_0 : decode cX5_grounded 0 = .ok (.aload_n 0, 1) := by decide +kernel
theorem dX5_grounded_1 : decode cX5_grounded 1 = .ok (.getfield 12, 3) := by decide +kernel
theorem dX5_grounded_4 : decode cX5_grounded 4 = .ok (.iload_n 1, 1) := by decide +kernel
theorem dX5_grounded_5 : decode cX5_grounded 5 = .ok (.invokevirtual 110, 3) := by decide +kernel
theorem dX5_grounded_8 : decode cX5_grounded 8 = .ok (.ireturn, 1) := by decide +kernel
theorem dX5_count_0 : decode cX5_count 0 = .ok (.iload_n 1, 1) := by decide +kernel
theorem dX5_count_1 : decode cX5_count 1 = .ok (.tableswitch 45 0 2 #[27, 35, 40], 27) := by decide +kernel
theorem dX5_count_28 : decode cX5_count 28 = .ok (.aload_n 0, 1) := by decide +kernel
theorem dX5_count_29 : decode cX5_count 29 = .ok (.getfield 12, 3) := by decide +kernel
theorem dX5_count_32 : decode cX5_count 32 = .ok (.getfield 83, 3) := by decide +kernel
theorem dX5_count_35 : decode cX5_count 35 = .ok (.ireturn, 1) := by decide +kernel
theorem dX5_count_36 : decode cX5_count 36 = .ok (.aload_n 0, 1) := by decide +kernel
theorem dX5_count_37 : decode cX5_count 37 = .ok (.getfield 58, 3) := by decide +kernel
theorem dX5_count_40 : decode cX5_count 40 = .ok (.ireturn, 1) := by decide +kernel
theorem dX5_count_41 : decode cX5_count 41 = .ok (.aload_n 0, 1) := by decide +kernel
theorem dX5_count_42 : decode cX5_count 42 = .ok (.getfield 61, 3) := by decide +kernel
theorem dX5_count_45 : decode cX5_count 45 = .ok (.ireturn, 1) := by decide +kernel
theorem dX5_count_46 : decode cX5_count 46 = .ok (.iconst (-1), 1) := by decide +kernel
theorem dX5_count_47 : decode cX5_count 47 = .ok (.ireturn, 1) := by decide +kernel
theorem dX5_isKind_0 : decode cX5_isKind 0 = .ok (.iload_n 0, 1) := by decide +kernel
theorem dX5_isKind_1 : decode cX5_isKind 1 = .ok (.bipush 9, 2) := by decide +kernel
theorem dX5_isKind_3 : decode cX5_isKind 3 = .ok (.if_icmp .lt 13, 3) := by decide +kernel
theorem dX5_isKind_6 : decode cX5_isKind 6 = .ok (.iload_n 0, 1) := by decide +kernel
theorem dX5_isKind_7 : decode cX5_isKind 7 = .ok (.bipush 14, 2) := by decide +kernel
theorem dX5_isKind_9 : decode cX5_isKind 9 = .ok (.if_icmp .gt 7, 3) := by decide +kernel
theorem dX5_isKind_12 : decode cX5_isKind 12 = .ok (.iconst 1, 1) := by decide +kernel
theorem dX5_isKind_13 : decode cX5_isKind 13 = .ok (.goto 4, 3) := by decide +kernel
theorem dX5_isKind_16 : decode cX5_isKind 16 = .ok (.iconst 0, 1) := by decide +kernel
theorem dX5_isKind_17 : decode cX5_isKind 17 = .ok (.ireturn, 1) := by decide +kernel
theorem dX5_byteOf_0 : decode cX5_byteOf 0 = .ok (.lload_n 0, 1) := by decide +kernel
theorem dX5_byteOf_1 : decode cX5_byteOf 1 = .ok (.bipush 8, 2) := by decide +kernel
theorem dX5_byteOf_3 : decode cX5_byteOf 3 = .ok (.iload_n 2, 1) := by decide +kernel
theorem dX5_byteOf_4 : decode cX5_byteOf 4 = .ok (.imul, 1) := by decide +kernel
theorem dX5_byteOf_5 : decode cX5_byteOf 5 = .ok (.lushr, 1) := by decide +kernel
theorem dX5_byteOf_6 : decode cX5_byteOf 6 = .ok (.l2i, 1) := by decide +kernel
theorem dX5_byteOf_7 : decode cX5_byteOf 7 = .ok (.sipush 255, 3) := by decide +kernel
theorem dX5_byteOf_10 : decode cX5_byteOf 10 = .ok (.iand, 1) := by decide +kernel
theorem dX5_byteOf_11 : decode cX5_byteOf 11 = .ok (.ireturn, 1) := by decide +kernel
theorem dX5_areCharacters_0 : decode cX5_areCharacters 0 = .ok (.iconst 0, 1) := by decide +kernel
theorem dX5_areCharacters_1 : decode cX5_areCharacters 1 = .ok (.istore_n 3, 1) := by decide +kernel
theorem dX5_areCharacters_2 : decode cX5_areCharacters 2 = .ok (.iload_n 3, 1) := by decide +kernel
theorem dX5_areCharacters_3 : decode cX5_areCharacters 3 = .ok (.iload_n 2, 1) := by decide +kernel
theorem dX5_areCharacters_4 : decode cX5_areCharacters 4 = .ok (.if_icmp .ge 39, 3) := by decide +kernel
theorem dX5_areCharacters_7 : decode cX5_areCharacters 7 = .ok (.lload_n 0, 1) := by decide +kernel
theorem dX5_areCharacters_8 : decode cX5_areCharacters 8 = .ok (.iload_n 3, 1) := by decide +kernel
theorem dX5_areCharacters_9 : decode cX5_areCharacters 9 = .ok (.invokestatic 106, 3) := by decide +kernel
theorem dX5_areCharacters_12 : decode cX5_areCharacters 12 = .ok (.istore 4, 2) := by decide +kernel
theorem dX5_areCharacters_14 : decode cX5_areCharacters 14 = .ok (.iload 4, 2) := by decide +kernel
theorem dX5_areCharacters_16 : decode cX5_areCharacters 16 = .ok (.bipush 10, 2) := by decide +kernel
theorem dX5_areCharacters_18 : decode cX5_areCharacters 18 = .ok (.if_icmp .eq 19, 3) := by decide +kernel
theorem dX5_areCharacters_21 : decode cX5_areCharacters 21 = .ok (.iload 4, 2) := by decide +kernel
theorem dX5_areCharacters_23 : decode cX5_areCharacters 23 = .ok (.bipush 32, 2) := by decide +kernel
theorem dX5_areCharacters_25 : decode cX5_areCharacters 25 = .ok (.if_icmp .lt 10, 3) := by decide +kernel
theorem dX5_areCharacters_28 : decode cX5_areCharacters 28 = .ok (.iload 4, 2) := by decide +kernel
theorem dX5_areCharacters_30 : decode cX5_areCharacters 30 = .ok (.bipush 126, 2) := by decide +kernel
theorem dX5_areCharacters_32 : decode cX5_areCharacters 32 = .ok (.if_icmp .le 5, 3) := by decide +kernel
theorem dX5_areCharacters_35 : decode cX5_areCharacters 35 = .ok (.iconst 0, 1) := by decide +kernel
theorem dX5_areCharacters_36 : decode cX5_areCharacters 36 = .ok (.ireturn, 1) := by decide +kernel
theorem dX5_areCharacters_37 : decode cX5_areCharacters 37 = .ok (.iinc 3 1, 3) := by decide +kernel
theorem dX5_areCharacters_40 : decode cX5_areCharacters 40 = .ok (.goto (-38), 3) := by decide +kernel
theorem dX5_areCharacters_43 : decode cX5_areCharacters 43 = .ok (.iconst 1, 1) := by decide +kernel
theorem dX5_areCharacters_44 : decode cX5_areCharacters 44 = .ok (.ireturn, 1) := by decide +kernel
theorem dX5_isDigit_0 : decode cX5_isDigit 0 = .ok (.iload_n 0, 1) := by decide +kernel
theorem dX5_isDigit_1 : decode cX5_isDigit 1 = .ok (.bipush 48, 2) := by decide +kernel
theorem dX5_isDigit_3 : decode cX5_isDigit 3 = .ok (.if_icmp .lt 13, 3) := by decide +kernel
theorem dX5_isDigit_6 : decode cX5_isDigit 6 = .ok (.iload_n 0, 1) := by decide +kernel
theorem dX5_isDigit_7 : decode cX5_isDigit 7 = .ok (.bipush 57, 2) := by decide +kernel
theorem dX5_isDigit_9 : decode cX5_isDigit 9 = .ok (.if_icmp .gt 7, 3) := by decide +kernel
theorem dX5_isDigit_12 : decode cX5_isDigit 12 = .ok (.iconst 1, 1) := by decide +kernel
theorem dX5_isDigit_13 : decode cX5_isDigit 13 = .ok (.goto 4, 3) := by decide +kernel
theorem dX5_isDigit_16 : decode cX5_isDigit 16 = .ok (.iconst 0, 1) := by decide +kernel
theorem dX5_isDigit_17 : decode cX5_isDigit 17 = .ok (.ireturn, 1) := by decide +kernel
theorem dX6_init_0 : decode cX6_init 0 = .ok (.aload_n 0, 1) := by decide +kernel
theorem dX6_init_1 : decode cX6_init 1 = .ok (.invokespecial 1, 3) := by decide +kernel
theorem dX6_init_4 : decode cX6_init 4 = .ok (.aload_n 0, 1) := by decide +kernel
theorem dX6_init_5 : decode cX6_init 5 = .ok (.bipush 20, 2) := by decide +kernel
theorem dX6_init_7 : decode cX6_init 7 = .ok (.newarray .int, 2) := by decide +kernel
theorem dX6_init_9 : decode cX6_init 9 = .ok (.putfield 7, 3) := by decide +kernel
theorem dX6_init_12 : decode cX6_init 12 = .ok (.aload_n 0, 1) := by decide +kernel
theorem dX6_init_13 : decode cX6_init 13 = .ok (.bipush 20, 2) := by decide +kernel
theorem dX6_init_15 : decode cX6_init 15 = .ok (.newarray .int, 2) := by decide +kernel
theorem dX6_init_17 : decode cX6_init 17 = .ok (.putfield 13, 3) := by decide +kernel
theorem dX6_init_20 : decode cX6_init 20 = .ok (.aload_n 0, 1) := by decide +kernel
theorem dX6_init_21 : decode cX6_init 21 = .ok (.bipush 100, 2) := by decide +kernel
theorem dX6_init_23 : decode cX6_init 23 = .ok (.newarray .int, 2) := by decide +kernel
theorem dX6_init_25 : decode cX6_init 25 = .ok (.putfield 16, 3) := by decide +kernel
theorem dX6_init_28 : decode cX6_init 28 = .ok (.aload_n 0, 1) := by decide +kernel
theorem dX6_init_29 : decode cX6_init 29 = .ok (.bipush 100, 2) := by decide +kernel
theorem dX6_init_31 : decode cX6_init 31 = .ok (.newarray .int, 2) := by decide +kernel
theorem dX6_init_33 : decode cX6_init 33 = .ok (.putfield 19, 3) := by decide +kernel
theorem dX6_init_36 : decode cX6_init 36 = .ok (.aload_n 0, 1) := by decide +kernel
theorem dX6_init_37 : decode cX6_init 37 = .ok (.bipush 20, 2) := by decide +kernel
theorem dX6_init_39 : decode cX6_init 39 = .ok (.newarray .boolean, 2) := by decide +kernel
theorem dX6_init_41 : decode cX6_init 41 = .ok (.putfield 22, 3) := by decide +kernel
theorem dX6_init_44 : decode cX6_init 44 = .ok (.aload_n 0, 1) := by decide +kernel
theorem dX6_init_45 : decode cX6_init 45 = .ok (.bipush 80, 2) := by decide +kernel
theorem dX6_init_47 : decode cX6_init 47 = .ok (.newarray .int, 2) := by decide +kernel
theorem dX6_init_49 : decode cX6_init 49 = .ok (.putfield 26, 3) := by decide +kernel
theorem dX6_init_52 : decode cX6_init 52 = .ok (.aload_n 0, 1) := by decide +kernel
theorem dX6_init_53 : decode cX6_init 53 = .ok (.bipush 80, 2) := by decide +kernel
theorem dX6_init_55 : decode cX6_init 55 = .ok (.newarray .int, 2) := by decide +kernel
theorem dX6_init_57 : decode cX6_init 57 = .ok (.putfield 29, 3) := by decide +kernel
theorem dX6_init_60 : decode cX6_init 60 = .ok (.aload_n 0, 1) := by decide +kernel
theorem dX6_init_61 : decode cX6_init 61 = .ok (.bipush 17, 2) := by decide +kernel
theorem dX6_init_63 : decode cX6_init 63 = .ok (.newarray .int, 2) := by decide +kernel
theorem dX6_init_65 : decode cX6_init 65 = .ok (.putfield 32, 3) := by decide +kernel
theorem dX6_init_68 : decode cX6_init 68 = .ok (.aload_n 0, 1) := by decide +kernel
theorem dX6_init_69 : decode cX6_init 69 = .ok (.bipush 17, 2) := by decide +kernel
theorem dX6_init_71 : decode cX6_init 71 = .ok (.newarray .int, 2) := by decide +kernel
theorem dX6_init_73 : decode cX6_init 73 = .ok (.putfield 35, 3) := by decide +kernel
theorem dX6_init_76 : decode cX6_init 76 = .ok (.aload_n 0, 1) := by decide +kernel
theorem dX6_init_77 : decode cX6_init 77 = .ok (.bipush 17, 2) := by decide +kernel
theorem dX6_init_79 : decode cX6_init 79 = .ok (.newarray .int, 2) := by decide +kernel
theorem dX6_init_81 : decode cX6_init 81 = .ok (.putfield 38, 3) := by decide +kernel
theorem dX6_init_84 : decode cX6_init 84 = .ok (.aload_n 0, 1) := by decide +kernel
theorem dX6_init_85 : decode cX6_init 85 = .ok (.bipush 41, 2) := by decide +kernel
theorem dX6_init_87 : decode cX6_init 87 = .ok (.newarray .int, 2) := by decide +kernel
theorem dX6_init_89 : decode cX6_init 89 = .ok (.putfield 41, 3) := by decide +kernel
theorem dX6_init_92 : decode cX6_init 92 = .ok (.aload_n 0, 1) := by decide +kernel
theorem dX6_init_93 : decode cX6_init 93 = .ok (.bipush 41, 2) := by decide +kernel
theorem dX6_init_95 : decode cX6_init 95 = .ok (.newarray .int, 2) := by decide +kernel
theorem dX6_init_97 : decode cX6_init 97 = .ok (.putfield 44, 3) := by decide +kernel
theorem dX6_init_100 : decode cX6_init 100 = .ok (.aload_n 0, 1) := by decide +kernel
theorem dX6_init_101 : decode cX6_init 101 = .ok (.bipush 18, 2) := by decide +kernel
theorem dX6_init_103 : decode cX6_init 103 = .ok (.newarray .int, 2) := by decide +kernel
theorem dX6_init_105 : decode cX6_init 105 = .ok (.putfield 47, 3) := by decide +kernel
theorem dX6_init_108 : decode cX6_init 108 = .ok (.aload_n 0, 1) := by decide +kernel
theorem dX6_init_109 : decode cX6_init 109 = .ok (.sipush 1734, 3) := by decide +kernel
theorem dX6_init_112 : decode cX6_init 112 = .ok (.newarray .long, 2) := by decide +kernel
theorem dX6_init_114 : decode cX6_init 114 = .ok (.putfield 50, 3) := by decide +kernel
theorem dX6_init_117 : decode cX6_init 117 = .ok (.aload_n 0, 1) := by decide +kernel
theorem dX6_init_118 : decode cX6_init 118 = .ok (.bipush 102, 2) := by decide +kernel
theorem dX6_init_120 : decode cX6_init 120 = .ok (.newarray .long, 2) := by decide +kernel
theorem dX6_init_122 : decode cX6_init 122 = .ok (.putfield 54, 3) := by decide +kernel
theorem dX6_init_125 : decode cX6_init 125 = .ok (.aload_n 0, 1) := by decide +kernel
theorem dX6_init_126 : decode cX6_init 126 = .ok (.bipush 6, 2) := by decide +kernel
theorem dX6_init_128 : decode cX6_init 128 = .ok (.newarray .int, 2) := by decide +kernel
theorem dX6_init_130 : decode cX6_init 130 = .ok (.putfield 57, 3) := by decide +kernel
theorem dX6_init_133 : decode cX6_init 133 = .ok (.aload_n 0, 1) := by decide +kernel
theorem dX6_init_134 : decode cX6_init 134 = .ok (.sipush 150, 3) := by decide +kernel
theorem dX6_init_137 : decode cX6_init 137 = .ok (.newarray .int, 2) := by decide +kernel
theorem dX6_init_139 : decode cX6_init 139 = .ok (.putfield 60, 3) := by decide +kernel
theorem dX6_init_142 : decode cX6_init 142 = .ok (.aload_n 0, 1) := by decide +kernel
theorem dX6_init_143 : decode cX6_init 143 = .ok (.sipush 150, 3) := by decide +kernel
theorem dX6_init_146 : decode cX6_init 146 = .ok (.newarray .int, 2) := by decide +kernel
theorem dX6_init_148 : decode cX6_init 148 = .ok (.putfield 63, 3) := by decide +kernel
theorem dX6_init_151 : decode cX6_init 151 = .ok (.aload_n 0, 1) := by decide +kernel
theorem dX6_init_152 : decode cX6_init 152 = .ok (.sipush 150, 3) := by decide +kernel
theorem dX6_init_155 : decode cX6_init 155 = .ok (.newarray .int, 2) := by decide +kernel
theorem dX6_init_157 : decode cX6_init 157 = .ok (.putfield 66, 3) := by decide +kernel
theorem dX6_init_160 : decode cX6_init 160 = .ok (.aload_n 0, 1) := by decide +kernel
theorem dX6_init_161 : decode cX6_init 161 = .ok (.sipush 150, 3) := by decide +kernel
theorem dX6_init_164 : decode cX6_init 164 = .ok (.newarray .int, 2) := by decide +kernel
theorem dX6_init_166 : decode cX6_init 166 = .ok (.putfield 69, 3) := by decide +kernel
theorem dX6_init_169 : decode cX6_init 169 = .ok (.aload_n 0, 1) := by decide +kernel
theorem dX6_init_170 : decode cX6_init 170 = .ok (.sipush 150, 3) := by decide +kernel
theorem dX6_init_173 : decode cX6_init 173 = .ok (.newarray .int, 2) := by decide +kernel
theorem dX6_init_175 : decode cX6_init 175 = .ok (.putfield 72, 3) := by decide +kernel
theorem dX6_init_178 : decode cX6_init 178 = .ok (.aload_n 0, 1) := by decide +kernel
theorem dX6_init_179 : decode cX6_init 179 = .ok (.sipush 150, 3) := by decide +kernel
theorem dX6_init_182 : decode cX6_init 182 = .ok (.newarray .int, 2) := by decide +kernel
theorem dX6_init_184 : decode cX6_init 184 = .ok (.putfield 75, 3) := by decide +kernel
theorem dX6_init_187 : decode cX6_init 187 = .ok (.aload_n 0, 1) := by decide +kernel
theorem dX6_init_188 : decode cX6_init 188 = .ok (.sipush 150, 3) := by decide +kernel
theorem dX6_init_191 : decode cX6_init 191 = .ok (.newarray .int, 2) := by decide +kernel
theorem dX6_init_193 : decode cX6_init 193 = .ok (.putfield 78, 3) := by decide +kernel
theorem dX6_init_196 : decode cX6_init 196 = .ok (.aload_n 0, 1) := by decide +kernel
theorem dX6_init_197 : decode cX6_init 197 = .ok (.sipush 150, 3) := by decide +kernel
theorem dX6_init_200 : decode cX6_init 200 = .ok (.newarray .int, 2) := by decide +kernel
theorem dX6_init_202 : decode cX6_init 202 = .ok (.putfield 81, 3) := by decide +kernel
theorem dX6_init_205 : decode cX6_init 205 = .ok (.aload_n 0, 1) := by decide +kernel
theorem dX6_init_206 : decode cX6_init 206 = .ok (.sipush 4000, 3) := by decide +kernel
theorem dX6_init_209 : decode cX6_init 209 = .ok (.newarray .int, 2) := by decide +kernel
theorem dX6_init_211 : decode cX6_init 211 = .ok (.putfield 84, 3) := by decide +kernel
theorem dX6_init_214 : decode cX6_init 214 = .ok (.aload_n 0, 1) := by decide +kernel
theorem dX6_init_215 : decode cX6_init 215 = .ok (.sipush 150, 3) := by decide +kernel
theorem dX6_init_218 : decode cX6_init 218 = .ok (.newarray .int, 2) := by decide +kernel
theorem dX6_init_220 : decode cX6_init 220 = .ok (.putfield 87, 3) := by decide +kernel
theorem dX6_init_223 : decode cX6_init 223 = .ok (.aload_n 0, 1) := by decide +kernel
theorem dX6_init_224 : decode cX6_init 224 = .ok (.sipush 150, 3) := by decide +kernel
theorem dX6_init_227 : decode cX6_init 227 = .ok (.newarray .int, 2) := by decide +kernel
theorem dX6_init_229 : decode cX6_init 229 = .ok (.putfield 90, 3) := by decide +kernel
theorem dX6_init_232 : decode cX6_init 232 = .ok (.aload_n 0, 1) := by decide +kernel
theorem dX6_init_233 : decode cX6_init 233 = .ok (.sipush 150, 3) := by decide +kernel
theorem dX6_init_236 : decode cX6_init 236 = .ok (.newarray .boolean, 2) := by decide +kernel
theorem dX6_init_238 : decode cX6_init 238 = .ok (.putfield 93, 3) := by decide +kernel
theorem dX6_init_241 : decode cX6_init 241 = .ok (.aload_n 0, 1) := by decide +kernel
theorem dX6_init_242 : decode cX6_init 242 = .ok (.sipush 150, 3) := by decide +kernel
theorem dX6_init_245 : decode cX6_init 245 = .ok (.newarray .boolean, 2) := by decide +kernel
theorem dX6_init_247 : decode cX6_init 247 = .ok (.putfield 96, 3) := by decide +kernel
theorem dX6_init_250 : decode cX6_init 250 = .ok (.aload_n 0, 1) := by decide +kernel
theorem dX6_init_251 : decode cX6_init 251 = .ok (.sipush 6000, 3) := by decide +kernel
theorem dX6_init_254 : decode cX6_init 254 = .ok (.newarray .int, 2) := by decide +kernel
theorem dX6_init_256 : decode cX6_init 256 = .ok (.putfield 99, 3) := by decide +kernel
theorem dX6_init_259 : decode cX6_init 259 = .ok (.return_, 1) := by decide +kernel
theorem dX6_thrown_0 : decode cX6_thrown 0 = .ok (.aload_n 0, 1) := by decide +kernel
theorem dX6_thrown_1 : decode cX6_thrown 1 = .ok (.getfield 102, 3) := by decide +kernel
theorem dX6_thrown_4 : decode cX6_thrown 4 = .ok (.ireturn, 1) := by decide +kernel
theorem dX6_fail_0 : decode cX6_fail 0 = .ok (.aload_n 0, 1) := by decide +kernel
theorem dX6_fail_1 : decode cX6_fail 1 = .ok (.iload_n 1, 1) := by decide +kernel
theorem dX6_fail_2 : decode cX6_fail 2 = .ok (.putfield 102, 3) := by decide +kernel
theorem dX6_fail_5 : decode cX6_fail 5 = .ok (.iconst 0, 1) := by decide +kernel
theorem dX6_fail_6 : decode cX6_fail 6 = .ok (.ireturn, 1) := by decide +kernel
theorem dX6_below_0 : decode cX6_below 0 = .ok (.iload_n 0, 1) := by decide +kernel
theorem dX6_below_1 : decode cX6_below 1 = .ok (.ifCond .lt 12, 3) := by decide +kernel
theorem dX6_below_4 : decode cX6_below 4 = .ok (.iload_n 0, 1) := by decide +kernel
theorem dX6_below_5 : decode cX6_below 5 = .ok (.iload_n 1, 1) := by decide +kernel
theorem dX6_below_6 : decode cX6_below 6 = .ok (.if_icmp .ge 7, 3) := by decide +kernel
theorem dX6_below_9 : decode cX6_below 9 = .ok (.iconst 1, 1) := by decide +kernel
theorem dX6_below_10 : decode cX6_below 10 = .ok (.goto 4, 3) := by decide +kernel
theorem dX6_below_13 : decode cX6_below 13 = .ok (.iconst 0, 1) := by decide +kernel
theorem dX6_below_14 : decode cX6_below 14 = .ok (.ireturn, 1) := by decide +kernel
theorem dX6_rule_0 : decode cX6_rule 0 = .ok (.aload_n 0, 1) := by decide +kernel
theorem dX6_rule_1 : decode cX6_rule 1 = .ok (.iconst 0, 1) := by decide +kernel
theorem dX6_rule_2 : decode cX6_rule 2 = .ok (.putfield 102, 3) := by decide +kernel
theorem dX6_rule_5 : decode cX6_rule 5 = .ok (.iconst 0, 1) := by decide +kernel
theorem dX6_rule_6 : decode cX6_rule 6 = .ok (.istore 5, 2) := by decide +kernel
theorem dX6_rule_8 : decode cX6_rule 8 = .ok (.iload_n 1, 1) := by decide +kernel
theorem dX6_rule_9 : decode cX6_rule 9 = .ok (.bipush 9, 2) := by decide +kernel
theorem dX6_rule_11 : decode cX6_rule 11 = .ok (.if_icmp .lt 21, 3) := by decide +kernel
theorem dX6_rule_14 : decode cX6_rule 14 = .ok (.iload_n 1, 1) := by decide +kernel
theorem dX6_rule_15 : decode cX6_rule 15 = .ok (.bipush 14, 2) := by decide +kernel
theorem dX6_rule_17 : decode cX6_rule 17 = .ok (.if_icmp .gt 15, 3) := by decide +kernel
theorem dX6_rule_20 : decode cX6_rule 20 = .ok (.iload_n 2, 1) := by decide +kernel
theorem dX6_rule_21 : decode cX6_rule 21 = .ok (.ifCond .lt 11, 3) := by decide +kernel
theorem dX6_rule_24 : decode cX6_rule 24 = .ok (.iload_n 3, 1) := by decide +kernel
theorem dX6_rule_25 : decode cX6_rule 25 = .ok (.ifCond .lt 7, 3) := by decide +kernel
theorem dX6_rule_28 : decode cX6_rule 28 = .ok (.iconst 1, 1) := by decide +kernel
theorem dX6_rule_29 : decode cX6_rule 29 = .ok (.goto 4, 3) := by decide +kernel
theorem dX6_rule_32 : decode cX6_rule 32 = .ok (.iconst 0, 1) := by decide +kernel
theorem dX6_rule_33 : decode cX6_rule 33 = .ok (.istore 6, 2) := by decide +kernel
theorem dX6_rule_35 : decode cX6_rule 35 = .ok (.iload_n 2, 1) := by decide +kernel
theorem dX6_rule_36 : decode cX6_rule 36 = .ok (.istore 7, 2) := by decide +kernel
theorem dX6_rule_38 : decode cX6_rule 38 = .ok (.iload 7, 2) := by decide +kernel
theorem dX6_rule_40 : decode cX6_rule 40 = .ok (.ifCond .le 47, 3) := by decide +kernel
theorem dX6_rule_43 : decode cX6_rule 43 = .ok (.iload 6, 2) := by decide +kernel
theorem dX6_rule_45 : decode cX6_rule 45 = .ok (.ifCond .eq 26, 3) := by decide +kernel
theorem dX6_rule_48 : decode cX6_rule 48 = .ok (.iload 7, 2) := by decide +kernel
theorem dX6_rule_50 : decode cX6_rule 50 = .ok (.bipush 16, 2) := by decide +kernel
theorem dX6_rule_52 : decode cX6_rule 52 = .ok (.irem, 1) := by decide +kernel
theorem dX6_rule_53 : decode cX6_rule 53 = .ok (.iconst 1, 1) := by decide +kernel
theorem dX6_rule_54 : decode cX6_rule 54 = .ok (.if_icmp .lt 17, 3) := by decide +kernel
theorem dX6_rule_57 : decode cX6_rule 57 = .ok (.iload 7, 2) := by decide +kernel
theorem dX6_rule_59 : decode cX6_rule 59 = .ok (.bipush 16, 2) := by decide +kernel
theorem dX6_rule_61 : decode cX6_rule 61 = .ok (.irem, 1) := by decide +kernel
theorem dX6_rule_62 : decode cX6_rule 62 = .ok (.bipush 14, 2) := by decide +kernel
theorem dX6_rule_64 : decode cX6_rule 64 = .ok (.if_icmp .gt 7, 3) := by decide +kernel
theorem dX6_rule_67 : decode cX6_rule 67 = .ok (.iconst 1, 1) := by decide +kernel
theorem dX6_rule_68 : decode cX6_rule 68 = .ok (.goto 4, 3) := by decide +kernel
theorem dX6_rule_71 : decode cX6_rule 71 = .ok (.iconst 0, 1) := by decide +kernel
theorem dX6_rule_72 : decode cX6_rule 72 = .ok (.istore 6, 2) := by decide +kernel
theorem dX6_rule_74 : decode cX6_rule 74 = .ok (.iinc 5 1, 3) := by decide +kernel
theorem dX6_rule_77 : decode cX6_rule 77 = .ok (.iload 7, 2) := by decide +kernel
theorem dX6_rule_79 : decode cX6_rule 79 = .ok (.bipush 16, 2) := by decide +kernel
theorem dX6_rule_81 : decode cX6_rule 81 = .ok (.idiv, 1) := by decide +kernel
theorem dX6_rule_82 : decode cX6_rule 82 = .ok (.istore 7, 2) := by decide +kernel
theorem dX6_rule_84 : decode cX6_rule 84 = .ok (.goto (-46), 3) := by decide +kernel
theorem dX6_rule_87 : decode cX6_rule 87 = .ok (.iload_n 3, 1) := by decide +kernel
theorem dX6_rule_88 : decode cX6_rule 88 = .ok (.istore 7, 2) := by decide +kernel
theorem dX6_rule_90 : decode cX6_rule 90 = .ok (.iconst 1, 1) := by decide +kernel
theorem dX6_rule_91 : decode cX6_rule 91 = .ok (.istore 8, 2) := by decide +kernel
theorem dX6_rule_93 : decode cX6_rule 93 = .ok (.iload 8, 2) := by decide +kernel
theorem dX6_rule_95 : decode cX6_rule 95 = .ok (.iload 5, 2) := by decide +kernel
theorem dX6_rule_97 : decode cX6_rule 97 = .ok (.if_icmp .ge 35, 3) := by decide +kernel
theorem dX6_rule_100 : decode cX6_rule 100 = .ok (.iload 6, 2) := by decide +kernel
theorem dX6_rule_102 : decode cX6_rule 102 = .ok (.ifCond .eq 15, 3) := by decide +kernel
theorem dX6_rule_105 : decode cX6_rule 105 = .ok (.iload 7, 2) := by decide +kernel
theorem dX6_rule_107 : decode cX6_rule 107 = .ok (.iconst 4, 1) := by decide +kernel
theorem dX6_rule_108 : decode cX6_rule 108 = .ok (.irem, 1) := by decide +kernel
theorem dX6_rule_109 : decode cX6_rule 109 = .ok (.iconst 3, 1) := by decide +kernel
theorem dX6_rule_110 : decode cX6_rule 110 = .ok (.if_icmp .ge 7, 3) := by decide +kernel
theorem dX6_rule_113 : decode cX6_rule 113 = .ok (.iconst 1, 1) := by decide +kernel
theorem dX6_rule_114 : decode cX6_rule 114 = .ok (.goto 4, 3) := by decide +kernel
theorem dX6_rule_117 : decode cX6_rule 117 = .ok (.iconst 0, 1) := by decide +kernel
theorem dX6_rule_118 : decode cX6_rule 118 = .ok (.istore 6, 2) := by decide +kernel
theorem dX6_rule_120 : decode cX6_rule 120 = .ok (.iload 7, 2) := by decide +kernel
theorem dX6_rule_122 : decode cX6_rule 122 = .ok (.iconst 4, 1) := by decide +kernel
theorem dX6_rule_123 : decode cX6_rule 123 = .ok (.idiv, 1) := by decide +kernel
theorem dX6_rule_124 : decode cX6_rule 124 = .ok (.istore 7, 2) := by decide +kernel
theorem dX6_rule_126 : decode cX6_rule 126 = .ok (.iinc 8 1, 3) := by decide +kernel
theorem dX6_rule_129 : decode cX6_rule 129 = .ok (.goto (-36), 3) := by decide +kernel
theorem dX6_rule_132 : decode cX6_rule 132 = .ok (.iload 6, 2) := by decide +kernel
theorem dX6_rule_134 : decode cX6_rule 134 = .ok (.ifCond .eq 14, 3) := by decide +kernel
theorem dX6_rule_137 : decode cX6_rule 137 = .ok (.iload 5, 2) := by decide +kernel
theorem dX6_rule_139 : decode cX6_rule 139 = .ok (.iconst 5, 1) := by decide +kernel
theorem dX6_rule_140 : decode cX6_rule 140 = .ok (.if_icmp .gt 8, 3) := by decide +kernel
theorem dX6_rule_143 : decode cX6_rule 143 = .ok (.iload 7, 2) := by decide +kernel
theorem dX6_rule_145 : decode cX6_rule 145 = .ok (.ifCond .eq 9, 3) := by decide +kernel
theorem dX6_rule_148 : decode cX6_rule 148 = .ok (.aload_n 0, 1) := by decide +kernel
theorem dX6_rule_149 : decode cX6_rule 149 = .ok (.iconst 1, 1) := by decide +kernel
theorem dX6_rule_150 : decode cX6_rule 150 = .ok (.invokevirtual 106, 3) := by decide +kernel
theorem dX6_rule_153 : decode cX6_rule 153 = .ok (.ireturn, 1) := by decide +kernel
theorem dX6_rule_154 : decode cX6_rule 154 = .ok (.aload_n 0, 1) := by decide +kernel
theorem dX6_rule_155 : decode cX6_rule 155 = .ok (.getfield 110, 3) := by decide +kernel
theorem dX6_rule_158 : decode cX6_rule 158 = .ok (.bipush 20, 2) := by decide +kernel
theorem dX6_rule_160 : decode cX6_rule 160 = .ok (.if_icmp .ne 9, 3) := by decide +kernel
theorem dX6_rule_163 : decode cX6_rule 163 = .ok (.aload_n 0, 1) := by decide +kernel
theorem dX6_rule_164 : decode cX6_rule 164 = .ok (.iconst 2, 1) := by decide +kernel
theorem dX6_rule_165 : decode cX6_rule 165 = .ok (.invokevirtual 106, 3) := by decide +kernel
theorem dX6_rule_168 : decode cX6_rule 168 = .ok (.ireturn, 1) := by decide +kernel
theorem dX6_rule_169 : decode cX6_rule 169 = .ok (.iload_n 2, 1) := by decide +kernel
theorem dX6_rule_170 : decode cX6_rule 170 = .ok (.istore 8, 2) := by decide +kernel
theorem dX6_rule_172 : decode cX6_rule 172 = .ok (.iload_n 3, 1) := by decide +kernel
theorem dX6_rule_173 : decode cX6_rule 173 = .ok (.istore 7, 2) := by decide +kernel
theorem dX6_rule_175 : decode cX6_rule 175 = .ok (.iload 5, 2) := by decide +kernel
theorem dX6_rule_177 : decode cX6_rule 177 = .ok (.iconst 1, 1) := by decide +kernel
theorem dX6_rule_178 : decode cX6_rule 178 = .ok (.isub, 1) := by decide +kernel
theorem dX6_rule_179 : decode cX6_rule 179 = .ok (.istore 9, 2) := by decide +kernel
theorem dX6_rule_181 : decode cX6_rule 181 = .ok (.iload 9, 2) := by decide +kernel
theorem dX6_rule_183 : decode cX6_rule 183 = .ok (.ifCond .lt 59, 3) := by decide +kernel
theorem dX6_rule_186 : decode cX6_rule 186 = .ok (.aload_n 0, 1) := by decide +kernel
theorem dX6_rule_187 : decode cX6_rule 187 = .ok (.getfield 16, 3) := by decide +kernel
theorem dX6_rule_190 : decode cX6_rule 190 = .ok (.iconst 5, 1) := by decide +kernel
theorem dX6_rule_191 : decode cX6_rule 191 = .ok (.aload_n 0, 1) := by decide +kernel
theorem dX6_rule_192 : decode cX6_rule 192 = .ok (.getfield 110, 3) := by decide +kernel
theorem dX6_rule_195 : decode cX6_rule 195 = .ok (.imul, 1) := by decide +kernel
theorem dX6_rule_196 : decode cX6_rule 196 = .ok (.iload 9, 2) := by decide +kernel
theorem dX6_rule_198 : decode cX6_rule 198 = .ok (.iadd, 1) := by decide +kernel
theorem dX6_rule_199 : decode cX6_rule 199 = .ok (.iload 8, 2) := by decide +kernel
theorem dX6_rule_201 : decode cX6_rule 201 = .ok (.bipush 16, 2) := by decide +kernel
theorem dX6_rule_203 : decode cX6_rule 203 = .ok (.irem, 1) := by decide +kernel
theorem dX6_rule_204 : decode cX6_rule 204 = .ok (.iastore, 1) := by decide +kernel
theorem dX6_rule_205 : decode cX6_rule 205 = .ok (.aload_n 0, 1) := by decide +kernel
theorem dX6_rule_206 : decode cX6_rule 206 = .ok (.getfield 19, 3) := by decide +kernel
theorem dX6_rule_209 : decode cX6_rule 209 = .ok (.iconst 5, 1) := by decide +kernel
theorem dX6_rule_210 : decode cX6_rule 210 = .ok (.aload_n 0, 1) := by decide +kernel
theorem dX6_rule_211 : decode cX6_rule 211 = .ok (.getfield 110, 3) := by decide +kernel
theorem dX6_rule_214 : decode cX6_rule 214 = .ok (.imul, 1) := by decide +kernel
theorem dX6_rule_215 : decode cX6_rule 215 = .ok (.iload 9, 2) := by decide +kernel
theorem dX6_rule_217 : decode cX6_rule 217 = .ok (.iadd, 1) := by decide +kernel
theorem dX6_rule_218 : decode cX6_rule 218 = .ok (.iload 7, 2) := by decide +kernel
theorem dX6_rule_220 : decode cX6_rule 220 = .ok (.iconst 4, 1) := by decide +kernel
theorem dX6_rule_221 : decode cX6_rule 221 = .ok (.irem, 1) := by decide +kernel
theorem dX6_rule_222 : decode cX6_rule 222 = .ok (.iastore, 1) := by decide +kernel
theorem dX6_rule_223 : decode cX6_rule 223 = .ok (.iload 8, 2) := by decide +kernel
theorem dX6_rule_225 : decode cX6_rule 225 = .ok (.bipush 16, 2) := by decide +kernel
theorem dX6_rule_227 : decode cX6_rule 227 = .ok (.idiv, 1) := by decide +kernel
theorem dX6_rule_228 : decode cX6_rule 228 = .ok (.istore 8, 2) := by decide +kernel
theorem dX6_rule_230 : decode cX6_rule 230 = .ok (.iload 7, 2) := by decide +kernel
theorem dX6_rule_232 : decode cX6_rule 232 = .ok (.iconst 4, 1) := by decide +kernel
theorem dX6_rule_233 : decode cX6_rule 233 = .ok (.idiv, 1) := by decide +kernel
theorem dX6_rule_234 : decode cX6_rule 234 = .ok (.istore 7, 2) := by decide +kernel
theorem dX6_rule_236 : decode cX6_rule 236 = .ok (.iinc 9 (-1), 3) := by decide +kernel
theorem dX6_rule_239 : decode cX6_rule 239 = .ok (.goto (-58), 3) := by decide +kernel
theorem dX6_rule_242 : decode cX6_rule 242 = .ok (.aload_n 0, 1) := by decide +kernel
theorem dX6_rule_243 : decode cX6_rule 243 = .ok (.getfield 7, 3) := by decide +kernel
theorem dX6_rule_246 : decode cX6_rule 246 = .ok (.aload_n 0, 1) := by decide +kernel
theorem dX6_rule_247 : decode cX6_rule 247 = .ok (.getfield 110, 3) := by decide +kernel
theorem dX6_rule_250 : decode cX6_rule 250 = .ok (.iload_n 1, 1) := by decide +kernel
theorem dX6_rule_251 : decode cX6_rule 251 = .ok (.iastore, 1) := by decide +kernel
theorem dX6_rule_252 : decode cX6_rule 252 = .ok (.aload_n 0, 1) := by decide +kernel
theorem dX6_rule_253 : decode cX6_rule 253 = .ok (.getfield 13, 3) := by decide +kernel
theorem dX6_rule_256 : decode cX6_rule 256 = .ok (.aload_n 0, 1) := by decide +kernel
theorem dX6_rule_257 : decode cX6_rule 257 = .ok (.getfield 110, 3) := by decide +kernel
theorem dX6_rule_260 : decode cX6_rule 260 = .ok (.iload 5, 2) := by decide +kernel
theorem dX6_rule_262 : decode cX6_rule 262 = .ok (.iastore, 1) := by decide +kernel
theorem dX6_rule_263 : decode cX6_rule 263 = .ok (.aload_n 0, 1) := by decide +kernel
theorem dX6_rule_264 : decode cX6_rule 264 = .ok (.getfield 22, 3) := by decide +kernel
theorem dX6_rule_267 : decode cX6_rule 267 = .ok (.aload_n 0, 1) := by decide +kernel
theorem dX6_rule_268 : decode cX6_rule 268 = .ok (.getfield 110, 3) := by decide +kernel
theorem dX6_rule_271 : decode cX6_rule 271 = .ok (.iload 4, 2) := by decide +kernel
theorem dX6_rule_273 : decode cX6_rule 273 = .ok (.bastore, 1) := by decide +kernel
theorem dX6_rule_274 : decode cX6_rule 274 = .ok (.aload_n 0, 1) := by decide +kernel
theorem dX6_rule_275 : decode cX6_rule 275 = .ok (.dup, 1) := by decide +kernel
theorem dX6_rule_276 : decode cX6_rule 276 = .ok (.getfield 110, 3) := by decide +kernel
theorem dX6_rule_279 : decode cX6_rule 279 = .ok (.iconst 1, 1) := by decide +kernel
theorem dX6_rule_280 : decode cX6_rule 280 = .ok (.iadd, 1) := by decide +kernel
theorem dX6_rule_281 : decode cX6_rule 281 = .ok (.putfield 110, 3) := by decide +kernel
theorem dX6_rule_284 : decode cX6_rule 284 = .ok (.aload_n 0, 1) := by decide +kernel
theorem dX6_rule_285 : decode cX6_rule 285 = .ok (.iconst 0, 1) := by decide +kernel
theorem dX6_rule_286 : decode cX6_rule 286 = .ok (.putfield 113, 3) := by decide +kernel
theorem dX6_rule_289 : decode cX6_rule 289 = .ok (.aload_n 0, 1) := by decide +kernel
theorem dX6_rule_290 : decode cX6_rule 290 = .ok (.getfield 110, 3) := by decide +kernel
theorem dX6_rule_293 : decode cX6_rule 293 = .ok (.iconst 1, 1) := by decide +kernel
theorem dX6_rule_294 : decode cX6_rule 294 = .ok (.isub, 1) := by decide +kernel
theorem dX6_rule_295 : decode cX6_rule 295 = .ok (.ireturn, 1) := by decide +kernel
theorem dX6_write_0 : decode cX6_write 0 = .ok (.aload_n 0, 1) := by decide +kernel
theorem dX6_write_1 : decode cX6_write 1 = .ok (.iconst 0, 1) := by decide +kernel
theorem dX6_write_2 : decode cX6_write 2 = .ok (.putfield 102, 3) := by decide +kernel
theorem dX6_write_5 : decode cX6_write 5 = .ok (.iload_n 3, 1) := by decide +kernel
theorem dX6_write_6 : decode cX6_write 6 = .ok (.iconst 1, 1) := by decide +kernel
theorem dX6_write_7 : decode cX6_write 7 = .ok (.if_icmp .lt 9, 3) := by decide +kernel
theorem dX6_write_10 : decode cX6_write 10 = .ok (.iload_n 3, 1) := by decide +kernel
theorem dX6_write_11 : decode cX6_write 11 = .ok (.bipush 8, 2) := by decide +kernel
theorem dX6_write_13 : decode cX6_write 13 = .ok (.if_icmp .le 9, 3) := by decide +kernel
theorem dX6_write_16 : decode cX6_write 16 = .ok (.aload_n 0, 1) := by decide +kernel
theorem dX6_write_17 : decode cX6_write 17 = .ok (.iconst 1, 1) := by decide +kernel
theorem dX6_write_18 : decode cX6_write 18 = .ok (.invokevirtual 106, 3) := by decide +kernel
theorem dX6_write_21 : decode cX6_write 21 = .ok (.ireturn, 1) := by decide +kernel
theorem dX6_write_22 : decode cX6_write 22 = .ok (.iconst 0, 1) := by decide +kernel
theorem dX6_write_23 : decode cX6_write 23 = .ok (.istore 4, 2) := by decide +kernel
theorem dX6_write_25 : decode cX6_write 25 = .ok (.iload 4, 2) := by decide +kernel
theorem dX6_write_27 : decode cX6_write 27 = .ok (.iload_n 3, 1) := by decide +kernel
theorem dX6_write_28 : decode cX6_write 28 = .ok (.if_icmp .ge 50, 3) := by decide +kernel
theorem dX6_write_31 : decode cX6_write 31 = .ok (.lload_n 1, 1) := by decide +kernel
theorem dX6_write_32 : decode cX6_write 32 = .ok (.bipush 8, 2) := by decide +kernel
theorem dX6_write_34 : decode cX6_write 34 = .ok (.iload 4, 2) := by decide +kernel
theorem dX6_write_36 : decode cX6_write 36 = .ok (.imul, 1) := by decide +kernel
theorem dX6_write_37 : decode cX6_write 37 = .ok (.lshr, 1) := by decide +kernel
theorem dX6_write_38 : decode cX6_write 38 = .ok (.ldc2_w 117, 3) := by decide +kernel
theorem dX6_write_41 : decode cX6_write 41 = .ok (.land, 1) := by decide +kernel
theorem dX6_write_42 : decode cX6_write 42 = .ok (.l2i, 1) := by decide +kernel
theorem dX6_write_43 : decode cX6_write 43 = .ok (.istore 5, 2) := by decide +kernel
theorem dX6_write_45 : decode cX6_write 45 = .ok (.iload 5, 2) := by decide +kernel
theorem dX6_write_47 : decode cX6_write 47 = .ok (.bipush 10, 2) := by decide +kernel
theorem dX6_write_49 : decode cX6_write 49 = .ok (.if_icmp .eq 23, 3) := by decide +kernel
theorem dX6_write_52 : decode cX6_write 52 = .ok (.iload 5, 2) := by decide +kernel
theorem dX6_write_54 : decode cX6_write 54 = .ok (.bipush 32, 2) := by decide +kernel
theorem dX6_write_56 : decode cX6_write 56 = .ok (.if_icmp .lt 10, 3) := by decide +kernel
theorem dX6_write_59 : decode cX6_write 59 = .ok (.iload 5, 2) := by decide +kernel
theorem dX6_write_61 : decode cX6_write 61 = .ok (.bipush 126, 2) := by decide +kernel
theorem dX6_write_63 : decode cX6_write 63 = .ok (.if_icmp .le 9, 3) := by decide +kernel
theorem dX6_write_66 : decode cX6_write 66 = .ok (.aload_n 0, 1) := by decide +kernel
theorem dX6_write_67 : decode cX6_write 67 = .ok (.iconst 1, 1) := by decide +kernel
theorem dX6_write_68 : decode cX6_write 68 = .ok (.invokevirtual 106, 3) := by decide +kernel
theorem dX6_write_71 : decode cX6_write 71 = .ok (.ireturn, 1) := by decide +kernel
theorem dX6_write_72 : decode cX6_write 72 = .ok (.iinc 4 1, 3) := by decide +kernel
theorem dX6_write_75 : decode cX6_write 75 = .ok (.goto (-50), 3) := by decide +kernel
theorem dX6_write_78 : decode cX6_write 78 = .ok (.aload_n 0, 1) := by decide +kernel
theorem dX6_write_79 : decode cX6_write 79 = .ok (.getfield 119, 3) := by decide +kernel
theorem dX6_write_82 : decode cX6_write 82 = .ok (.iload_n 3, 1) := by decide +kernel
theorem dX6_write_83 : decode cX6_write 83 = .ok (.iadd, 1) := by decide +kernel
theorem dX6_write_84 : decode cX6_write 84 = .ok (.bipush 80, 2) := by decide +kernel
theorem dX6_write_86 : decode cX6_write 86 = .ok (.if_icmp .le 9, 3) := by decide +kernel
theorem dX6_write_89 : decode cX6_write 89 = .ok (.aload_n 0, 1) := by decide +kernel
theorem dX6_write_90 : decode cX6_write 90 = .ok (.iconst 2, 1) := by decide +kernel
theorem dX6_write_91 : decode cX6_write 91 = .ok (.invokevirtual 106, 3) := by decide +kernel
theorem dX6_write_94 : decode cX6_write 94 = .ok (.ireturn, 1) := by decide +kernel
theorem dX6_write_95 : decode cX6_write 95 = .ok (.iconst 0, 1) := by decide +kernel
theorem dX6_write_96 : decode cX6_write 96 = .ok (.istore 4, 2) := by decide +kernel
theorem dX6_write_98 : decode cX6_write 98 = .ok (.iload 4, 2) := by decide +kernel
theorem dX6_write_100 : decode cX6_write 100 = .ok (.iload_n 3, 1) := by decide +kernel
theorem dX6_write_101 : decode cX6_write 101 = .ok (.if_icmp .ge 33, 3) := by decide +kernel
theorem dX6_write_104 : decode cX6_write 104 = .ok (.aload_n 0, 1) := by decide +kernel
theorem dX6_write_105 : decode cX6_write 105 = .ok (.getfield 26, 3) := by decide +kernel
theorem dX6_write_108 : decode cX6_write 108 = .ok (.aload_n 0, 1) := by decide +kernel
theorem dX6_write_109 : decode cX6_write 109 = .ok (.getfield 119, 3) := by decide +kernel
theorem dX6_write_112 : decode cX6_write 112 = .ok (.iload 4, 2) := by decide +kernel
theorem dX6_write_114 : decode cX6_write 114 = .ok (.iadd, 1) := by decide +kernel
theorem dX6_write_115 : decode cX6_write 115 = .ok (.lload_n 1, 1) := by decide +kernel
theorem dX6_write_116 : decode cX6_write 116 = .ok (.bipush 8, 2) := by decide +kernel
theorem dX6_write_118 : decode cX6_write 118 = .ok (.iload 4, 2) := by decide +kernel
theorem dX6_write_120 : decode cX6_write 120 = .ok (.imul, 1) := by decide +kernel
theorem dX6_write_121 : decode cX6_write 121 = .ok (.lshr, 1) := by decide +kernel
theorem dX6_write_122 : decode cX6_write 122 = .ok (.ldc2_w 117, 3) := by decide +kernel
theorem dX6_write_125 : decode cX6_write 125 = .ok (.land, 1) := by decide +kernel
theorem dX6_write_126 : decode cX6_write 126 = .ok (.l2i, 1) := by decide +kernel
theorem dX6_write_127 : decode cX6_write 127 = .ok (.iastore, 1) := by decide +kernel
theorem dX6_write_128 : decode cX6_write 128 = .ok (.iinc 4 1, 3) := by decide +kernel
theorem dX6_write_131 : decode cX6_write 131 = .ok (.goto (-33), 3) := by decide +kernel
theorem dX6_write_134 : decode cX6_write 134 = .ok (.aload_n 0, 1) := by decide +kernel
theorem dX6_write_135 : decode cX6_write 135 = .ok (.dup, 1) := by decide +kernel
theorem dX6_write_136 : decode cX6_write 136 = .ok (.getfield 119, 3) := by decide +kernel
theorem dX6_write_139 : decode cX6_write 139 = .ok (.iload_n 3, 1) := by decide +kernel
theorem dX6_write_140 : decode cX6_write 140 = .ok (.iadd, 1) := by decide +kernel
theorem dX6_write_141 : decode cX6_write 141 = .ok (.putfield 119, 3) := by decide +kernel
theorem dX6_write_144 : decode cX6_write 144 = .ok (.aload_n 0, 1) := by decide +kernel
theorem dX6_write_145 : decode cX6_write 145 = .ok (.getfield 119, 3) := by decide +kernel
theorem dX6_write_148 : decode cX6_write 148 = .ok (.ireturn, 1) := by decide +kernel
theorem dX6_erase_0 : decode cX6_erase 0 = .ok (.aload_n 0, 1) := by decide +kernel
theorem dX6_erase_1 : decode cX6_erase 1 = .ok (.iconst 0, 1) := by decide +kernel
theorem dX6_erase_2 : decode cX6_erase 2 = .ok (.putfield 102, 3) := by decide +kernel
theorem dX6_erase_5 : decode cX6_erase 5 = .ok (.aload_n 0, 1) := by decide +kernel
theorem dX6_erase_6 : decode cX6_erase 6 = .ok (.getfield 119, 3) := by decide +kernel
theorem dX6_erase_9 : decode cX6_erase 9 = .ok (.istore_n 1, 1) := by decide +kernel
theorem dX6_erase_10 : decode cX6_erase 10 = .ok (.aload_n 0, 1) := by decide +kernel
theorem dX6_erase_11 : decode cX6_erase 11 = .ok (.iconst 0, 1) := by decide +kernel
theorem dX6_erase_12 : decode cX6_erase 12 = .ok (.putfield 119, 3) := by decide +kernel
theorem dX6_erase_15 : decode cX6_erase 15 = .ok (.iload_n 1, 1) := by decide +kernel
theorem dX6_erase_16 : decode cX6_erase 16 = .ok (.ireturn, 1) := by decide +kernel
theorem dX6_ground_0 : decode cX6_ground 0 = .ok (.iconst 0, 1) := by decide +kernel
theorem dX6_ground_1 : decode cX6_ground 1 = .ok (.istore_n 1, 1) := by decide +kernel
theorem dX6_ground_2 : decode cX6_ground 2 = .ok (.iconst 0, 1) := by decide +kernel
theorem dX6_ground_3 : decode cX6_ground 3 = .ok (.istore_n 2, 1) := by decide +kernel
theorem dX6_ground_4 : decode cX6_ground 4 = .ok (.iload_n 2, 1) := by decide +kernel
theorem dX6_ground_5 : decode cX6_ground 5 = .ok (.bipush 6, 2) := by decide +kernel
theorem dX6_ground_7 : decode cX6_ground 7 = .ok (.if_icmp .ge 113, 3) := by decide +kernel
theorem dX6_ground_10 : decode cX6_ground 10 = .ok (.iconst 0, 1) := by decide +kernel
theorem dX6_ground_11 : decode cX6_ground 11 = .ok (.istore_n 3, 1) := by decide +kernel
theorem dX6_ground_12 : decode cX6_ground 12 = .ok (.iload_n 3, 1) := by decide +kernel
theorem dX6_ground_13 : decode cX6_ground 13 = .ok (.aload_n 0, 1) := by decide +kernel
theorem dX6_ground_14 : decode cX6_ground 14 = .ok (.getfield 110, 3) := by decide +kernel
theorem dX6_ground_17 : decode cX6_ground 17 = .ok (.if_icmp .ge 97, 3) := by decide +kernel
theorem dX6_ground_20 : decode cX6_ground 20 = .ok (.iconst 1, 1) := by decide +kernel
theorem dX6_ground_21 : decode cX6_ground 21 = .ok (.istore 4, 2) := by decide +kernel
theorem dX6_ground_23 : decode cX6_ground 23 = .ok (.iconst 5, 1) := by decide +kernel
theorem dX6_ground_24 : decode cX6_ground 24 = .ok (.iload_n 3, 1) := by decide +kernel
theorem dX6_ground_25 : decode cX6_ground 25 = .ok (.imul, 1) := by decide +kernel
theorem dX6_ground_26 : decode cX6_ground 26 = .ok (.istore 5, 2) := by decide +kernel
theorem dX6_ground_28 : decode cX6_ground 28 = .ok (.iload 5, 2) := by decide +kernel
theorem dX6_ground_30 : decode cX6_ground 30 = .ok (.iconst 5, 1) := by decide +kernel
theorem dX6_ground_31 : decode cX6_ground 31 = .ok (.iload_n 3, 1) := by decide +kernel
theorem dX6_ground_32 : decode cX6_ground 32 = .ok (.imul, 1) := by decide +kernel
theorem dX6_ground_33 : decode cX6_ground 33 = .ok (.aload_n 0, 1) := by decide +kernel
theorem dX6_ground_34 : decode cX6_ground 34 = .ok (.getfield 13, 3) := by decide +kernel
theorem dX6_ground_37 : decode cX6_ground 37 = .ok (.iload_n 3, 1) := by decide +kernel
theorem dX6_ground_38 : decode cX6_ground 38 = .ok (.iaload, 1) := by decide +kernel
theorem dX6_ground_39 : decode cX6_ground 39 = .ok (.iadd, 1) := by decide +kernel
theorem dX6_ground_40 : decode cX6_ground 40 = .ok (.if_icmp .ge 48, 3) := by decide +kernel
theorem dX6_ground_43 : decode cX6_ground 43 = .ok (.iload 4, 2) := by decide +kernel
theorem dX6_ground_45 : decode cX6_ground 45 = .ok (.ifCond .eq 34, 3) := by decide +kernel
theorem dX6_ground_48 : decode cX6_ground 48 = .ok (.aload_n 0, 1) := by decide +kernel
theorem dX6_ground_49 : decode cX6_ground 49 = .ok (.getfield 16, 3) := by decide +kernel
theorem dX6_ground_52 : decode cX6_ground 52 = .ok (.iload 5, 2) := by decide +kernel
theorem dX6_ground_54 : decode cX6_ground 54 = .ok (.iaload, 1) := by decide +kernel
theorem dX6_ground_55 : decode cX6_ground 55 = .ok (.bipush 9, 2) := by decide +kernel
theorem dX6_ground_57 : decode cX6_ground 57 = .ok (.if_icmp .lt 18, 3) := by decide +kernel
theorem dX6_ground_60 : decode cX6_ground 60 = .ok (.iload_n 1, 1) := by decide +kernel
theorem dX6_ground_61 : decode cX6_ground 61 = .ok (.aload_n 0, 1) := by decide +kernel
theorem dX6_ground_62 : decode cX6_ground 62 = .ok (.getfield 16, 3) := by decide +kernel
theorem dX6_ground_65 : decode cX6_ground 65 = .ok (.iload 5, 2) := by decide +kernel
theorem dX6_ground_67 : decode cX6_ground 67 = .ok (.iaload, 1) := by decide +kernel
theorem dX6_ground_68 : decode cX6_ground 68 = .ok (.ishr, 1) := by decide +kernel
theorem dX6_ground_69 : decode cX6_ground 69 = .ok (.iconst 1, 1) := by decide +kernel
theorem dX6_ground_70 : decode cX6_ground 70 = .ok (.iand, 1) := by decide +kernel
theorem dX6_ground_71 : decode cX6_ground 71 = .ok (.iconst 1, 1) := by decide +kernel
theorem dX6_ground_72 : decode cX6_ground 72 = .ok (.if_icmp .ne 7, 3) := by decide +kernel
theorem dX6_ground_75 : decode cX6_ground 75 = .ok (.iconst 1, 1) := by decide +kernel
theorem dX6_ground_76 : decode cX6_ground 76 = .ok (.goto 4, 3) := by decide +kernel
theorem dX6_ground_79 : decode cX6_ground 79 = .ok (.iconst 0, 1) := by decide +kernel
theorem dX6_ground_80 : decode cX6_ground 80 = .ok (.istore 4, 2) := by decide +kernel
theorem dX6_ground_82 : decode cX6_ground 82 = .ok (.iinc 5 1, 3) := by decide +kernel
theorem dX6_ground_85 : decode cX6_ground 85 = .ok (.goto (-57), 3) := by decide +kernel
theorem dX6_ground_88 : decode cX6_ground 88 = .ok (.iload_n 1, 1) := by decide +kernel
theorem dX6_ground_89 : decode cX6_ground 89 = .ok (.iload 4, 2) := by decide +kernel
theorem dX6_ground_91 : decode cX6_ground 91 = .ok (.ifCond .eq 14, 3) := by decide +kernel
theorem dX6_ground_94 : decode cX6_ground 94 = .ok (.iconst 1, 1) := by decide +kernel
theorem dX6_ground_95 : decode cX6_ground 95 = .ok (.aload_n 0, 1) := by decide +kernel
theorem dX6_ground_96 : decode cX6_ground 96 = .ok (.getfield 7, 3) := by decide +kernel
theorem dX6_ground_99 : decode cX6_ground 99 = .ok (.iload_n 3, 1) := by decide +kernel
theorem dX6_ground_100 : decode cX6_ground 100 = .ok (.iaload, 1) := by decide +kernel
theorem dX6_ground_101 : decode cX6_ground 101 = .ok (.ishl, 1) := by decide +kernel
theorem dX6_ground_102 : decode cX6_ground 102 = .ok (.goto 4, 3) := by decide +kernel
theorem dX6_ground_105 : decode cX6_ground 105 = .ok (.iconst 0, 1) := by decide +kernel
theorem dX6_ground_106 : decode cX6_ground 106 = .ok (.ior, 1) := by decide +kernel
theorem dX6_ground_107 : decode cX6_ground 107 = .ok (.istore_n 1, 1) := by decide +kernel
theorem dX6_ground_108 : decode cX6_ground 108 = .ok (.iinc 3 1, 3) := by decide +kernel
theorem dX6_ground_111 : decode cX6_ground 111 = .ok (.goto (-99), 3) := by decide +kernel
theorem dX6_ground_114 : decode cX6_ground 114 = .ok (.iinc 2 1, 3) := by decide +kernel
theorem dX6_ground_117 : decode cX6_ground 117 = .ok (.goto (-113), 3) := by decide +kernel
theorem dX6_ground_120 : decode cX6_ground 120 = .ok (.iload_n 1, 1) := by decide +kernel
theorem dX6_ground_121 : decode cX6_ground 121 = .ok (.ireturn, 1) := by decide +kernel
theorem dX6_grounded_0 : decode cX6_grounded 0 = .ok (.aload_n 0, 1) := by decide +kernel
theorem dX6_grounded_1 : decode cX6_grounded 1 = .ok (.iconst 0, 1) := by decide +kernel
theorem dX6_grounded_2 : decode cX6_grounded 2 = .ok (.putfield 102, 3) := by decide +kernel
theorem dX6_grounded_5 : decode cX6_grounded 5 = .ok (.iload_n 1, 1) := by decide +kernel
theorem dX6_grounded_6 : decode cX6_grounded 6 = .ok (.bipush 9, 2) := by decide +kernel
theorem dX6_grounded_8 : decode cX6_grounded 8 = .ok (.if_icmp .lt 25, 3) := by decide +kernel
theorem dX6_grounded_11 : decode cX6_grounded 11 = .ok (.iload_n 1, 1) := by decide +kernel
theorem dX6_grounded_12 : decode cX6_grounded 12 = .ok (.bipush 14, 2) := by decide +kernel
theorem dX6_grounded_14 : decode cX6_grounded 14 = .ok (.if_icmp .gt 19, 3) := by decide +kernel
theorem dX6_grounded_17 : decode cX6_grounded 17 = .ok (.aload_n 0, 1) := by decide +kernel
theorem dX6_grounded_18 : decode cX6_grounded 18 = .ok (.invokevirtual 122, 3) := by decide +kernel
theorem dX6_grounded_21 : decode cX6_grounded 21 = .ok (.iload_n 1, 1) := by decide +kernel
theorem dX6_grounded_22 : decode cX6_grounded 22 = .ok (.ishr, 1) := by decide +kernel
theorem dX6_grounded_23 : decode cX6_grounded 23 = .ok (.iconst 1, 1) := by decide +kernel
theorem dX6_grounded_24 : decode cX6_grounded 24 = .ok (.iand, 1) := by decide +kernel
theorem dX6_grounded_25 : decode cX6_grounded 25 = .ok (.iconst 1, 1) := by decide +kernel
theorem dX6_grounded_26 : decode cX6_grounded 26 = .ok (.if_icmp .ne 7, 3) := by decide +kernel
theorem dX6_grounded_29 : decode cX6_grounded 29 = .ok (.iconst 1, 1) := by decide +kernel
theorem dX6_grounded_30 : decode cX6_grounded 30 = .ok (.goto 4, 3) := by decide +kernel
theorem dX6_grounded_33 : decode cX6_grounded 33 = .ok (.iconst 0, 1) := by decide +kernel
theorem dX6_grounded_34 : decode cX6_grounded 34 = .ok (.ireturn, 1) := by decide +kernel
theorem dX6_commentEnd_0 : decode cX6_commentEnd 0 = .ok (.iload_n 1, 1) := by decide +kernel
theorem dX6_commentEnd_1 : decode cX6_commentEnd 1 = .ok (.iconst 1, 1) := by decide +kernel
theorem dX6_commentEnd_2 : decode cX6_commentEnd 2 = .ok (.iadd, 1) := by decide +kernel
theorem dX6_commentEnd_3 : decode cX6_commentEnd 3 = .ok (.istore_n 2, 1) := by decide +kernel
theorem dX6_commentEnd_4 : decode cX6_commentEnd 4 = .ok (.iload_n 2, 1) := by decide +kernel
theorem dX6_commentEnd_5 : decode cX6_commentEnd 5 = .ok (.aload_n 0, 1) := by decide +kernel
theorem dX6_commentEnd_6 : decode cX6_commentEnd 6 = .ok (.getfield 119, 3) := by decide +kernel
theorem dX6_commentEnd_9 : decode cX6_commentEnd 9 = .ok (.if_icmp .ge 20, 3) := by decide +kernel
theorem dX6_commentEnd_12 : decode cX6_commentEnd 12 = .ok (.aload_n 0, 1) := by decide +kernel
theorem dX6_commentEnd_13 : decode cX6_commentEnd 13 = .ok (.getfield 26, 3) := by decide +kernel
theorem dX6_commentEnd_16 : decode cX6_commentEnd 16 = .ok (.iload_n 2, 1) := by decide +kernel
theorem dX6_commentEnd_17 : decode cX6_commentEnd 17 = .ok (.iaload, 1) := by decide +kernel
theorem dX6_commentEnd_18 : decode cX6_commentEnd 18 = .ok (.bipush 125, 2) := by decide +kernel
theorem dX6_commentEnd_20 : decode cX6_commentEnd 20 = .ok (.if_icmp .eq 9, 3) := by decide +kernel
theorem dX6_commentEnd_23 : decode cX6_commentEnd 23 = .ok (.iinc 2 1, 3) := by decide +kernel
theorem dX6_commentEnd_26 : decode cX6_commentEnd 26 = .ok (.goto (-22), 3) := by decide +kernel
theorem dX6_commentEnd_29 : decode cX6_commentEnd 29 = .ok (.iload_n 2, 1) := by decide +kernel
theorem dX6_commentEnd_30 : decode cX6_commentEnd 30 = .ok (.aload_n 0, 1) := by decide +kernel
theorem dX6_commentEnd_31 : decode cX6_commentEnd 31 = .ok (.getfield 119, 3) := by decide +kernel
theorem dX6_commentEnd_34 : decode cX6_commentEnd 34 = .ok (.if_icmp .ge 9, 3) := by decide +kernel
theorem dX6_commentEnd_37 : decode cX6_commentEnd 37 = .ok (.iload_n 2, 1) := by decide +kernel
theorem dX6_commentEnd_38 : decode cX6_commentEnd 38 = .ok (.iconst 1, 1) := by decide +kernel
theorem dX6_commentEnd_39 : decode cX6_commentEnd 39 = .ok (.iadd, 1) := by decide +kernel
theorem dX6_commentEnd_40 : decode cX6_commentEnd 40 = .ok (.goto 4, 3) := by decide +kernel
theorem dX6_commentEnd_43 : decode cX6_commentEnd 43 = .ok (.iconst (-1), 1) := by decide +kernel
theorem dX6_commentEnd_44 : decode cX6_commentEnd 44 = .ok (.ireturn, 1) := by decide +kernel
theorem dX6_tokenEnd_0 : decode cX6_tokenEnd 0 = .ok (.iload_n 1, 1) := by decide +kernel
theorem dX6_tokenEnd_1 : decode cX6_tokenEnd 1 = .ok (.iconst 1, 1) := by decide +kernel
theorem dX6_tokenEnd_2 : decode cX6_tokenEnd 2 = .ok (.iadd, 1) := by decide +kernel
theorem dX6_tokenEnd_3 : decode cX6_tokenEnd 3 = .ok (.istore_n 2, 1) := by decide +kernel
theorem dX6_tokenEnd_4 : decode cX6_tokenEnd 4 = .ok (.aload_n 0, 1) := by decide +kernel
theorem dX6_tokenEnd_5 : decode cX6_tokenEnd 5 = .ok (.getfield 26, 3) := by decide +kernel
theorem dX6_tokenEnd_8 : decode cX6_tokenEnd 8 = .ok (.iload_n 1, 1) := by decide +kernel
theorem dX6_tokenEnd_9 : decode cX6_tokenEnd 9 = .ok (.iaload, 1) := by decide +kernel
theorem dX6_tokenEnd_10 : decode cX6_tokenEnd 10 = .ok (.bipush 97, 2) := by decide +kernel
theorem dX6_tokenEnd_12 : decode cX6_tokenEnd 12 = .ok (.if_icmp .lt 50, 3) := by decide +kernel
theorem dX6_tokenEnd_15 : decode cX6_tokenEnd 15 = .ok (.aload_n 0, 1) := by decide +kernel
theorem dX6_tokenEnd_16 : decode cX6_tokenEnd 16 = .ok (.getfield 26, 3) := by decide +kernel
theorem dX6_tokenEnd_19 : decode cX6_tokenEnd 19 = .ok (.iload_n 1, 1) := by decide +kernel
theorem dX6_tokenEnd_20 : decode cX6_tokenEnd 20 = .ok (.iaload, 1) := by decide +kernel
theorem dX6_tokenEnd_21 : decode cX6_tokenEnd 21 = .ok (.bipush 104, 2) := by decide +kernel
theorem dX6_tokenEnd_23 : decode cX6_tokenEnd 23 = .ok (.if_icmp .gt 39, 3) := by decide +kernel
theorem dX6_tokenEnd_26 : decode cX6_tokenEnd 26 = .ok (.iload_n 2, 1) := by decide +kernel
theorem dX6_tokenEnd_27 : decode cX6_tokenEnd 27 = .ok (.aload_n 0, 1) := by decide +kernel
theorem dX6_tokenEnd_28 : decode cX6_tokenEnd 28 = .ok (.getfield 119, 3) := by decide +kernel
theorem dX6_tokenEnd_31 : decode cX6_tokenEnd 31 = .ok (.if_icmp .ge 31, 3) := by decide +kernel
theorem dX6_tokenEnd_34 : decode cX6_tokenEnd 34 = .ok (.aload_n 0, 1) := by decide +kernel
theorem dX6_tokenEnd_35 : decode cX6_tokenEnd 35 = .ok (.getfield 26, 3) := by decide +kernel
theorem dX6_tokenEnd_38 : decode cX6_tokenEnd 38 = .ok (.iload_n 2, 1) := by decide +kernel
theorem dX6_tokenEnd_39 : decode cX6_tokenEnd 39 = .ok (.iaload, 1) := by decide +kernel
theorem dX6_tokenEnd_40 : decode cX6_tokenEnd 40 = .ok (.bipush 48, 2) := by decide +kernel
theorem dX6_tokenEnd_42 : decode cX6_tokenEnd 42 = .ok (.if_icmp .lt 20, 3) := by decide +kernel
theorem dX6_tokenEnd_45 : decode cX6_tokenEnd 45 = .ok (.aload_n 0, 1) := by decide +kernel
theorem dX6_tokenEnd_46 : decode cX6_tokenEnd 46 = .ok (.getfield 26, 3) := by decide +kernel
theorem dX6_tokenEnd_49 : decode cX6_tokenEnd 49 = .ok (.iload_n 2, 1) := by decide +kernel
theorem dX6_tokenEnd_50 : decode cX6_tokenEnd 50 = .ok (.iaload, 1) := by decide +kernel
theorem dX6_tokenEnd_51 : decode cX6_tokenEnd 51 = .ok (.bipush 57, 2) := by decide +kernel
theorem dX6_tokenEnd_53 : decode cX6_tokenEnd 53 = .ok (.if_icmp .gt 9, 3) := by decide +kernel
theorem dX6_tokenEnd_56 : decode cX6_tokenEnd 56 = .ok (.iinc 2 1, 3) := by decide +kernel
theorem dX6_tokenEnd_59 : decode cX6_tokenEnd 59 = .ok (.goto (-55), 3) := by decide +kernel
theorem dX6_tokenEnd_62 : decode cX6_tokenEnd 62 = .ok (.iload_n 2, 1) := by decide +kernel
theorem dX6_tokenEnd_63 : decode cX6_tokenEnd 63 = .ok (.ireturn, 1) := by decide +kernel
theorem dX6_cutText_0 : decode cX6_cutText 0 = .ok (.aload_n 0, 1) := by decide +kernel
theorem dX6_cutText_1 : decode cX6_cutText 1 = .ok (.iconst 0, 1) := by decide +kernel
theorem dX6_cutText_2 : decode cX6_cutText 2 = .ok (.putfield 126, 3) := by decide +kernel
theorem dX6_cutText_5 : decode cX6_cutText 5 = .ok (.aload_n 0, 1) := by decide +kernel
theorem dX6_cutText_6 : decode cX6_cutText 6 = .ok (.iconst 0, 1) := by decide +kernel
theorem dX6_cutText_7 : decode cX6_cutText 7 = .ok (.putfield 129, 3) := by decide +kernel
theorem dX6_cutText_10 : decode cX6_cutText 10 = .ok (.aload_n 0, 1) := by decide +kernel
theorem dX6_cutText_11 : decode cX6_cutText 11 = .ok (.getfield 47, 3) := by decide +kernel
theorem dX6_cutText_14 : decode cX6_cutText 14 = .ok (.iconst 0, 1) := by decide +kernel
theorem dX6_cutText_15 : decode cX6_cutText 15 = .ok (.iconst 0, 1) := by decide +kernel
theorem dX6_cutText_16 : decode cX6_cutText 16 = .ok (.iastore, 1) := by decide +kernel
theorem dX6_cutText_17 : decode cX6_cutText 17 = .ok (.iconst 0, 1) := by decide +kernel
theorem dX6_cutText_18 : decode cX6_cutText 18 = .ok (.istore_n 1, 1) := by decide +kernel
theorem dX6_cutText_19 : decode cX6_cutText 19 = .ok (.iload_n 1, 1) := by decide +kernel
theorem dX6_cutText_20 : decode cX6_cutText 20 = .ok (.aload_n 0, 1) := by decide +kernel
theorem dX6_cutText_21 : decode cX6_cutText 21 = .ok (.getfield 119, 3) := by decide +kernel
theorem dX6_cutText_24 : decode cX6_cutText 24 = .ok (.if_icmp .ge 240, 3) := by decide +kernel
theorem dX6_cutText_27 : decode cX6_cutText 27 = .ok (.aload_n 0, 1) := by decide +kernel
theorem dX6_cutText_28 : decode cX6_cutText 28 = .ok (.getfield 29, 3) := by decide +kernel
theorem dX6_cutText_31 : decode cX6_cutText 31 = .ok (.iload_n 1, 1) := by decide +kernel
theorem dX6_cutText_32 : decode cX6_cutText 32 = .ok (.aload_n 0, 1) := by decide +kernel
theorem dX6_cutText_33 : decode cX6_cutText 33 = .ok (.getfield 26, 3) := by decide +kernel
theorem dX6_cutText_36 : decode cX6_cutText 36 = .ok (.iload_n 1, 1) := by decide +kernel
theorem dX6_cutText_37 : decode cX6_cutText 37 = .ok (.iaload, 1) := by decide +kernel
theorem dX6_cutText_38 : decode cX6_cutText 38 = .ok (.iastore, 1) := by decide +kernel
theorem dX6_cutText_39 : decode cX6_cutText 39 = .ok (.aload_n 0, 1) := by decide +kernel
theorem dX6_cutText_40 : decode cX6_cutText 40 = .ok (.getfield 26, 3) := by decide +kernel
theorem dX6_cutText_43 : decode cX6_cutText 43 = .ok (.iload_n 1, 1) := by decide +kernel
theorem dX6_cutText_44 : decode cX6_cutText 44 = .ok (.iaload, 1) := by decide +kernel
theorem dX6_cutText_45 : decode cX6_cutText 45 = .ok (.bipush 123, 2) := by decide +kernel
theorem dX6_cutText_47 : decode cX6_cutText 47 = .ok (.if_icmp .ne 11, 3) := by decide +kernel
theorem dX6_cutText_50 : decode cX6_cutText 50 = .ok (.aload_n 0, 1) := by decide +kernel
theorem dX6_cutText_51 : decode cX6_cutText 51 = .ok (.iload_n 1, 1) := by decide +kernel
theorem dX6_cutText_52 : decode cX6_cutText 52 = .ok (.invokevirtual 132, 3) := by decide +kernel
theorem dX6_cutText_55 : decode cX6_cutText 55 = .ok (.goto 4, 3) := by decide +kernel
theorem dX6_cutText_58 : decode cX6_cutText 58 = .ok (.iconst (-1), 1) := by decide +kernel
theorem dX6_cutText_59 : decode cX6_cutText 59 = .ok (.istore_n 2, 1) := by decide +kernel
theorem dX6_cutText_60 : decode cX6_cutText 60 = .ok (.iload_n 2, 1) := by decide +kernel
theorem dX6_cutText_61 : decode cX6_cutText 61 = .ok (.ifCond .le 38, 3) := by decide +kernel
theorem dX6_cutText_64 : decode cX6_cutText 64 = .ok (.aload_n 0, 1) := by decide +kernel
theorem dX6_cutText_65 : decode cX6_cutText 65 = .ok (.getfield 41, 3) := by decide +kernel
theorem dX6_cutText_68 : decode cX6_cutText 68 = .ok (.aload_n 0, 1) := by decide +kernel
theorem dX6_cutText_69 : decode cX6_cutText 69 = .ok (.getfield 129, 3) := by decide +kernel
theorem dX6_cutText_72 : decode cX6_cutText 72 = .ok (.iload_n 1, 1) := by decide +kernel
theorem dX6_cutText_73 : decode cX6_cutText 73 = .ok (.iastore, 1) := by decide +kernel
theorem dX6_cutText_74 : decode cX6_cutText 74 = .ok (.aload_n 0, 1) := by decide +kernel
theorem dX6_cutText_75 : decode cX6_cutText 75 = .ok (.getfield 44, 3) := by decide +kernel
theorem dX6_cutText_78 : decode cX6_cutText 78 = .ok (.aload_n 0, 1) := by decide +kernel
theorem dX6_cutText_79 : decode cX6_cutText 79 = .ok (.getfield 129, 3) := by decide +kernel
theorem dX6_cutText_82 : decode cX6_cutText 82 = .ok (.iload_n 2, 1) := by decide +kernel
theorem dX6_cutText_83 : decode cX6_cutText 83 = .ok (.iload_n 1, 1) := by decide +kernel
theorem dX6_cutText_84 : decode cX6_cutText 84 = .ok (.isub, 1) := by decide +kernel
theorem dX6_cutText_85 : decode cX6_cutText 85 = .ok (.iastore, 1) := by decide +kernel
theorem dX6_cutText_86 : decode cX6_cutText 86 = .ok (.aload_n 0, 1) := by decide +kernel
theorem dX6_cutText_87 : decode cX6_cutText 87 = .ok (.dup, 1) := by decide +kernel
theorem dX6_cutText_88 : decode cX6_cutText 88 = .ok (.getfield 129, 3) := by decide +kernel
theorem dX6_cutText_91 : decode cX6_cutText 91 = .ok (.iconst 1, 1) := by decide +kernel
theorem dX6_cutText_92 : decode cX6_cutText 92 = .ok (.iadd, 1) := by decide +kernel
theorem dX6_cutText_93 : decode cX6_cutText 93 = .ok (.putfield 129, 3) := by decide +kernel
theorem dX6_cutText_96 : decode cX6_cutText 96 = .ok (.goto 138, 3) := by decide +kernel
theorem dX6_cutText_99 : decode cX6_cutText 99 = .ok (.aload_n 0, 1) := by decide +kernel
theorem dX6_cutText_100 : decode cX6_cutText 100 = .ok (.getfield 26, 3) := by decide +kernel
theorem dX6_cutText_103 : decode cX6_cutText 103 = .ok (.iload_n 1, 1) := by decide +kernel
theorem dX6_cutText_104 : decode cX6_cutText 104 = .ok (.iaload, 1) := by decide +kernel
theorem dX6_cutText_105 : decode cX6_cutText 105 = .ok (.bipush 32, 2) := by decide +kernel
theorem dX6_cutText_107 : decode cX6_cutText 107 = .ok (.if_icmp .eq 123, 3) := by decide +kernel
theorem dX6_cutText_110 : decode cX6_cutText 110 = .ok (.aload_n 0, 1) := by decide +kernel
theorem dX6_cutText_111 : decode cX6_cutText 111 = .ok (.getfield 26, 3) := by decide +kernel
theorem dX6_cutText_114 : decode cX6_cutText 114 = .ok (.iload_n 1, 1) := by decide +kernel
theorem dX6_cutText_115 : decode cX6_cutText 115 = .ok (.iaload, 1) := by decide +kernel
theorem dX6_cutText_116 : decode cX6_cutText 116 = .ok (.bipush 10, 2) := by decide +kernel
theorem dX6_cutText_118 : decode cX6_cutText 118 = .ok (.if_icmp .eq 112, 3) := by decide +kernel
theorem dX6_cutText_121 : decode cX6_cutText 121 = .ok (.aload_n 0, 1) := by decide +kernel
theorem dX6_cutText_122 : decode cX6_cutText 122 = .ok (.getfield 126, 3) := by decide +kernel
theorem dX6_cutText_125 : decode cX6_cutText 125 = .ok (.bipush 16, 2) := by decide +kernel
theorem dX6_cutText_127 : decode cX6_cutText 127 = .ok (.if_icmp .ne 5, 3) := by decide +kernel
theorem dX6_cutText_130 : decode cX6_cutText 130 = .ok (.iconst 0, 1) := by decide +kernel
theorem dX6_cutText_131 : decode cX6_cutText 131 = .ok (.ireturn, 1) := by decide +kernel
theorem dX6_cutText_132 : decode cX6_cutText 132 = .ok (.aload_n 0, 1) := by decide +kernel
theorem dX6_cutText_133 : decode cX6_cutText 133 = .ok (.iload_n 1, 1) := by decide +kernel
theorem dX6_cutText_134 : decode cX6_cutText 134 = .ok (.invokevirtual 135, 3) := by decide +kernel
theorem dX6_cutText_137 : decode cX6_cutText 137 = .ok (.istore_n 2, 1) := by decide +kernel
theorem dX6_cutText_138 : decode cX6_cutText 138 = .ok (.aload_n 0, 1) := by decide +kernel
theorem dX6_cutText_139 : decode cX6_cutText 139 = .ok (.getfield 32, 3) := by decide +kernel
theorem dX6_cutText_142 : decode cX6_cutText 142 = .ok (.aload_n 0, 1) := by decide +kernel
theorem dX6_cutText_143 : decode cX6_cutText 143 = .ok (.getfield 126, 3) := by decide +kernel
theorem dX6_cutText_146 : decode cX6_cutText 146 = .ok (.iload_n 1, 1) := by decide +kernel
theorem dX6_cutText_147 : decode cX6_cutText 147 = .ok (.iastore, 1) := by decide +kernel
theorem dX6_cutText_148 : decode cX6_cutText 148 = .ok (.aload_n 0, 1) := by decide +kernel
theorem dX6_cutText_149 : decode cX6_cutText 149 = .ok (.getfield 35, 3) := by decide +kernel
theorem dX6_cutText_152 : decode cX6_cutText 152 = .ok (.aload_n 0, 1) := by decide +kernel
theorem dX6_cutText_153 : decode cX6_cutText 153 = .ok (.getfield 126, 3) := by decide +kernel
theorem dX6_cutText_156 : decode cX6_cutText 156 = .ok (.iload_n 2, 1) := by decide +kernel
theorem dX6_cutText_157 : decode cX6_cutText 157 = .ok (.iload_n 1, 1) := by decide +kernel
theorem dX6_cutText_158 : decode cX6_cutText 158 = .ok (.isub, 1) := by decide +kernel
theorem dX6_cutText_159 : decode cX6_cutText 159 = .ok (.iastore, 1) := by decide +kernel
theorem dX6_cutText_160 : decode cX6_cutText 160 = .ok (.aload_n 0, 1) := by decide +kernel
theorem dX6_cutText_161 : decode cX6_cutText 161 = .ok (.getfield 38, 3) := by decide +kernel
theorem dX6_cutText_164 : decode cX6_cutText 164 = .ok (.aload_n 0, 1) := by decide +kernel
theorem dX6_cutText_165 : decode cX6_cutText 165 = .ok (.getfield 126, 3) := by decide +kernel
theorem dX6_cutText_168 : decode cX6_cutText 168 = .ok (.aload_n 0, 1) := by decide +kernel
theorem dX6_cutText_169 : decode cX6_cutText 169 = .ok (.getfield 26, 3) := by decide +kernel
theorem dX6_cutText_172 : decode cX6_cutText 172 = .ok (.iload_n 1, 1) := by decide +kernel
theorem dX6_cutText_173 : decode cX6_cutText 173 = .ok (.iaload, 1) := by decide +kernel
theorem dX6_cutText_174 : decode cX6_cutText 174 = .ok (.bipush 97, 2) := by decide +kernel
theorem dX6_cutText_176 : decode cX6_cutText 176 = .ok (.if_icmp .lt 26, 3) := by decide +kernel
theorem dX6_cutText_179 : decode cX6_cutText 179 = .ok (.aload_n 0, 1) := by decide +kernel
theorem dX6_cutText_180 : decode cX6_cutText 180 = .ok (.getfield 26, 3) := by decide +kernel
theorem dX6_cutText_183 : decode cX6_cutText 183 = .ok (.iload_n 1, 1) := by decide +kernel
theorem dX6_cutText_184 : decode cX6_cutText 184 = .ok (.iaload, 1) := by decide +kernel
theorem dX6_cutText_185 : decode cX6_cutText 185 = .ok (.bipush 104, 2) := by decide +kernel
theorem dX6_cutText_187 : decode cX6_cutText 187 = .ok (.if_icmp .gt 15, 3) := by decide +kernel
theorem dX6_cutText_190 : decode cX6_cutText 190 = .ok (.aload_n 0, 1) := by decide +kernel
theorem dX6_cutText_191 : decode cX6_cutText 191 = .ok (.getfield 26, 3) := by decide +kernel
theorem dX6_cutText_194 : decode cX6_cutText 194 = .ok (.iload_n 1, 1) := by decide +kernel
theorem dX6_cutText_195 : decode cX6_cutText 195 = .ok (.iaload, 1) := by decide +kernel
theorem dX6_cutText_196 : decode cX6_cutText 196 = .ok (.bipush 96, 2) := by decide +kernel
theorem dX6_cutText_198 : decode cX6_cutText 198 = .ok (.isub, 1) := by decide +kernel
theorem dX6_cutText_199 : decode cX6_cutText 199 = .ok (.goto 4, 3) := by decide +kernel
theorem dX6_cutText_202 : decode cX6_cutText 202 = .ok (.iconst 0, 1) := by decide +kernel
theorem dX6_cutText_203 : decode cX6_cutText 203 = .ok (.iastore, 1) := by decide +kernel
theorem dX6_cutText_204 : decode cX6_cutText 204 = .ok (.aload_n 0, 1) := by decide +kernel
theorem dX6_cutText_205 : decode cX6_cutText 205 = .ok (.dup, 1) := by decide +kernel
theorem dX6_cutText_206 : decode cX6_cutText 206 = .ok (.getfield 126, 3) := by decide +kernel
theorem dX6_cutText_209 : decode cX6_cutText 209 = .ok (.iconst 1, 1) := by decide +kernel
theorem dX6_cutText_210 : decode cX6_cutText 210 = .ok (.iadd, 1) := by decide +kernel
theorem dX6_cutText_211 : decode cX6_cutText 211 = .ok (.putfield 126, 3) := by decide +kernel
theorem dX6_cutText_214 : decode cX6_cutText 214 = .ok (.aload_n 0, 1) := by decide +kernel
theorem dX6_cutText_215 : decode cX6_cutText 215 = .ok (.getfield 47, 3) := by decide +kernel
theorem dX6_cutText_218 : decode cX6_cutText 218 = .ok (.aload_n 0, 1) := by decide +kernel
theorem dX6_cutText_219 : decode cX6_cutText 219 = .ok (.getfield 126, 3) := by decide +kernel
theorem dX6_cutText_222 : decode cX6_cutText 222 = .ok (.aload_n 0, 1) := by decide +kernel
theorem dX6_cutText_223 : decode cX6_cutText 223 = .ok (.getfield 129, 3) := by decide +kernel
theorem dX6_cutText_226 : decode cX6_cutText 226 = .ok (.iastore, 1) := by decide +kernel
theorem dX6_cutText_227 : decode cX6_cutText 227 = .ok (.goto 7, 3) := by decide +kernel
theorem dX6_cutText_230 : decode cX6_cutText 230 = .ok (.iload_n 1, 1) := by decide +kernel
theorem dX6_cutText_231 : decode cX6_cutText 231 = .ok (.iconst 1, 1) := by decide +kernel
theorem dX6_cutText_232 : decode cX6_cutText 232 = .ok (.iadd, 1) := by decide +kernel
theorem dX6_cutText_233 : decode cX6_cutText 233 = .ok (.istore_n 2, 1) := by decide +kernel
theorem dX6_cutText_234 : decode cX6_cutText 234 = .ok (.iload_n 1, 1) := by decide +kernel
theorem dX6_cutText_235 : decode cX6_cutText 235 = .ok (.istore_n 3, 1) := by decide +kernel
theorem dX6_cutText_236 : decode cX6_cutText 236 = .ok (.iload_n 3, 1) := by decide +kernel
theorem dX6_cutText_237 : decode cX6_cutText 237 = .ok (.iload_n 2, 1) := by decide +kernel
theorem dX6_cutText_238 : decode cX6_cutText 238 = .ok (.if_icmp .ge 21, 3) := by decide +kernel
theorem dX6_cutText_241 : decode cX6_cutText 241 = .ok (.aload_n 0, 1) := by decide +kernel
theorem dX6_cutText_242 : decode cX6_cutText 242 = .ok (.getfield 29, 3) := by decide +kernel
theorem dX6_cutText_245 : decode cX6_cutText 245 = .ok (.iload_n 3, 1) := by decide +kernel
theorem dX6_cutText_246 : decode cX6_cutText 246 = .ok (.aload_n 0, 1) := by decide +kernel
theorem dX6_cutText_247 : decode cX6_cutText 247 = .ok (.getfield 26, 3) := by decide +kernel
theorem dX6_cutText_250 : decode cX6_cutText 250 = .ok (.iload_n 3, 1) := by decide +kernel
theorem dX6_cutText_251 : decode cX6_cutText 251 = .ok (.iaload, 1) := by decide +kernel
theorem dX6_cutText_252 : decode cX6_cutText 252 = .ok (.iastore, 1) := by decide +kernel
theorem dX6_cutText_253 : decode cX6_cutText 253 = .ok (.iinc 3 1, 3) := by decide +kernel
theorem dX6_cutText_256 : decode cX6_cutText 256 = .ok (.goto (-20), 3) := by decide +kernel
theorem dX6_cutText_259 : decode cX6_cutText 259 = .ok (.iload_n 2, 1) := by decide +kernel
theorem dX6_cutText_260 : decode cX6_cutText 260 = .ok (.istore_n 1, 1) := by decide +kernel
theorem dX6_cutText_261 : decode cX6_cutText 261 = .ok (.goto (-242), 3) := by decide +kernel
theorem dX6_cutText_264 : decode cX6_cutText 264 = .ok (.aload_n 0, 1) := by decide +kernel
theorem dX6_cutText_265 : decode cX6_cutText 265 = .ok (.getfield 47, 3) := by decide +kernel
theorem dX6_cutText_268 : decode cX6_cutText 268 = .ok (.aload_n 0, 1) := by decide +kernel
theorem dX6_cutText_269 : decode cX6_cutText 269 = .ok (.getfield 126, 3) := by decide +kernel
theorem dX6_cutText_272 : decode cX6_cutText 272 = .ok (.iconst 1, 1) := by decide +kernel
theorem dX6_cutText_273 : decode cX6_cutText 273 = .ok (.iadd, 1) := by decide +kernel
theorem dX6_cutText_274 : decode cX6_cutText 274 = .ok (.aload_n 0, 1) := by decide +kernel
theorem dX6_cutText_275 : decode cX6_cutText 275 = .ok (.getfield 129, 3) := by decide +kernel
theorem dX6_cutText_278 : decode cX6_cutText 278 = .ok (.iastore, 1) := by decide +kernel
theorem dX6_cutText_279 : decode cX6_cutText 279 = .ok (.iconst 1, 1) := by decide +kernel
theorem dX6_cutText_280 : decode cX6_cutText 280 = .ok (.ireturn, 1) := by decide +kernel
theorem dX6_sum_0 : decode cX6_sum 0 = .ok (.lload_n 0, 1) := by decide +kernel
theorem dX6_sum_1 : decode cX6_sum 1 = .ok (.ldc2_w 138, 3) := by decide +kernel
theorem dX6_sum_4 : decode cX6_sum 4 = .ok (.lcmp, 1) := by decide +kernel
theorem dX6_sum_5 : decode cX6_sum 5 = .ok (.ifCond .ge 11, 3) := by decide +kernel
theorem dX6_sum_8 : decode cX6_sum 8 = .ok (.lload_n 2, 1) := by decide +kernel
theorem dX6_sum_9 : decode cX6_sum 9 = .ok (.ldc2_w 138, 3) := by decide +kernel
theorem dX6_sum_12 : decode cX6_sum 12 = .ok (.lcmp, 1) := by decide +kernel
theorem dX6_sum_13 : decode cX6_sum 13 = .ok (.ifCond .lt 9, 3) := by decide +kernel
theorem dX6_sum_16 : decode cX6_sum 16 = .ok (.ldc2_w 138, 3) := by decide +kernel
theorem dX6_sum_19 : decode cX6_sum 19 = .ok (.goto 6, 3) := by decide +kernel
theorem dX6_sum_22 : decode cX6_sum 22 = .ok (.lload_n 0, 1) := by decide +kernel
theorem dX6_sum_23 : decode cX6_sum 23 = .ok (.lload_n 2, 1) := by decide +kernel
theorem dX6_sum_24 : decode cX6_sum 24 = .ok (.ladd, 1) := by decide +kernel
theorem dX6_sum_25 : decode cX6_sum 25 = .ok (.lreturn, 1) := by decide +kernel
theorem dX6_price_0 : decode cX6_price 0 = .ok (.iload_n 1, 1) := by decide +kernel
theorem dX6_price_1 : decode cX6_price 1 = .ok (.bipush 8, 2) := by decide +kernel
theorem dX6_price_3 : decode cX6_price 3 = .ok (.if_icmp .le 24, 3) := by decide +kernel
theorem dX6_price_6 : decode cX6_price 6 = .ok (.aload_n 0, 1) := by decide +kernel
theorem dX6_price_7 : decode cX6_price 7 = .ok (.getfield 50, 3) := by decide +kernel
theorem dX6_price_10 : decode cX6_price 10 = .ok (.sipush 289, 3) := by decide +kernel
theorem dX6_price_13 : decode cX6_price 13 = .ok (.iload_n 1, 1) := by decide +kernel
theorem dX6_price_14 : decode cX6_price 14 = .ok (.bipush 9, 2) := by decide +kernel
theorem dX6_price_16 : decode cX6_price 16 = .ok (.isub, 1) := by decide +kernel
theorem dX6_price_17 : decode cX6_price 17 = .ok (.imul, 1) := by decide +kernel
theorem dX6_price_18 : decode cX6_price 18 = .ok (.bipush 17, 2) := by decide +kernel
theorem dX6_price_20 : decode cX6_price 20 = .ok (.iload_n 2, 1) := by decide +kernel
theorem dX6_price_21 : decode cX6_price 21 = .ok (.imul, 1) := by decide +kernel
theorem dX6_price_22 : decode cX6_price 22 = .ok (.iadd, 1) := by decide +kernel
theorem dX6_price_23 : decode cX6_price 23 = .ok (.iload_n 3, 1) := by decide +kernel
theorem dX6_price_24 : decode cX6_price 24 = .ok (.iadd, 1) := by decide +kernel
theorem dX6_price_25 : decode cX6_price 25 = .ok (.laload, 1) := by decide +kernel
theorem dX6_price_26 : decode cX6_price 26 = .ok (.lreturn, 1) := by decide +kernel
theorem dX6_price_27 : decode cX6_price 27 = .ok (.iload_n 2, 1) := by decide +kernel
theorem dX6_price_28 : decode cX6_price 28 = .ok (.iload_n 3, 1) := by decide +kernel
theorem dX6_price_29 : decode cX6_price 29 = .ok (.if_icmp .ne 7, 3) := by decide +kernel
theorem dX6_price_32 : decode cX6_price 32 = .ok (.ldc2_w 140, 3) := by decide +kernel
theorem dX6_price_35 : decode cX6_price 35 = .ok (.lreturn, 1) := by decide +kernel
theorem dX6_price_36 : decode cX6_price 36 = .ok (.ldc2_w 140, 3) := by decide +kernel
theorem dX6_price_39 : decode cX6_price 39 = .ok (.iload_n 3, 1) := by decide +kernel
theorem dX6_price_40 : decode cX6_price 40 = .ok (.iconst 1, 1) := by decide +kernel
theorem dX6_price_41 : decode cX6_price 41 = .ok (.isub, 1) := by decide +kernel
theorem dX6_price_42 : decode cX6_price 42 = .ok (.iload_n 2, 1) := by decide +kernel
theorem dX6_price_43 : decode cX6_price 43 = .ok (.isub, 1) := by decide +kernel
theorem dX6_price_44 : decode cX6_price 44 = .ok (.i2l, 1) := by decide +kernel
theorem dX6_price_45 : decode cX6_price 45 = .ok (.lmul, 1) := by decide +kernel
theorem dX6_price_46 : decode cX6_price 46 = .ok (.aload_n 0, 1) := by decide +kernel
theorem dX6_price_47 : decode cX6_price 47 = .ok (.getfield 38, 3) := by decide +kernel
theorem dX6_price_50 : decode cX6_price 50 = .ok (.iload_n 3, 1) := by decide +kernel
theorem dX6_price_51 : decode cX6_price 51 = .ok (.iconst 1, 1) := by decide +kernel
theorem dX6_price_52 : decode cX6_price 52 = .ok (.isub, 1) := by decide +kernel
theorem dX6_price_53 : decode cX6_price 53 = .ok (.iaload, 1) := by decide +kernel
theorem dX6_price_54 : decode cX6_price 54 = .ok (.iload_n 1, 1) := by decide +kernel
theorem dX6_price_55 : decode cX6_price 55 = .ok (.if_icmp .ne 7, 3) := by decide +kernel
theorem dX6_price_58 : decode cX6_price 58 = .ok (.lconst 0, 1) := by decide +kernel
theorem dX6_price_59 : decode cX6_price 59 = .ok (.goto 6, 3) := by decide +kernel
theorem dX6_price_62 : decode cX6_price 62 = .ok (.ldc2_w 140, 3) := by decide +kernel
theorem dX6_price_65 : decode cX6_price 65 = .ok (.ladd, 1) := by decide +kernel
theorem dX6_price_66 : decode cX6_price 66 = .ok (.lreturn, 1) := by decide +kernel
theorem dX6_fill_0 : decode cX6_fill 0 = .ok (.iload_n 2, 1) := by decide +kernel
theorem dX6_fill_1 : decode cX6_fill 1 = .ok (.istore_n 3, 1) := by decide +kernel
theorem dX6_fill_2 : decode cX6_fill 2 = .ok (.iload_n 3, 1) := by decide +kernel
theorem dX6_fill_3 : decode cX6_fill 3 = .ok (.aload_n 0, 1) := by decide +kernel
theorem dX6_fill_4 : decode cX6_fill 4 = .ok (.getfield 126, 3) := by decide +kernel
theorem dX6_fill_7 : decode cX6_fill 7 = .ok (.if_icmp .gt 27, 3) := by decide +kernel
theorem dX6_fill_10 : decode cX6_fill 10 = .ok (.aload_n 0, 1) := by decide +kernel
theorem dX6_fill_11 : decode cX6_fill 11 = .ok (.getfield 54, 3) := by decide +kernel
theorem dX6_fill_14 : decode cX6_fill 14 = .ok (.iload_n 3, 1) := by decide +kernel
theorem dX6_fill_15 : decode cX6_fill 15 = .ok (.iload_n 3, 1) := by decide +kernel
theorem dX6_fill_16 : decode cX6_fill 16 = .ok (.iload_n 2, 1) := by decide +kernel
theorem dX6_fill_17 : decode cX6_fill 17 = .ok (.if_icmp .ne 7, 3) := by decide +kernel
theorem dX6_fill_20 : decode cX6_fill 20 = .ok (.lconst 0, 1) := by decide +kernel
theorem dX6_fill_21 : decode cX6_fill 21 = .ok (.goto 6, 3) := by decide +kernel
theorem dX6_fill_24 : decode cX6_fill 24 = .ok (.ldc2_w 138, 3) := by decide +kernel
theorem dX6_fill_27 : decode cX6_fill 27 = .ok (.lastore, 1) := by decide +kernel
theorem dX6_fill_28 : decode cX6_fill 28 = .ok (.iinc 3 1, 3) := by decide +kernel
theorem dX6_fill_31 : decode cX6_fill 31 = .ok (.goto (-29), 3) := by decide +kernel
theorem dX6_fill_34 : decode cX6_fill 34 = .ok (.iconst 1, 1) := by decide +kernel
theorem dX6_fill_35 : decode cX6_fill 35 = .ok (.istore_n 3, 1) := by decide +kernel
theorem dX6_fill_36 : decode cX6_fill 36 = .ok (.iload_n 3, 1) := by decide +kernel
theorem dX6_fill_37 : decode cX6_fill 37 = .ok (.aload_n 0, 1) := by decide +kernel
theorem dX6_fill_38 : decode cX6_fill 38 = .ok (.getfield 13, 3) := by decide +kernel
theorem dX6_fill_41 : decode cX6_fill 41 = .ok (.iload_n 1, 1) := by decide +kernel
theorem dX6_fill_42 : decode cX6_fill 42 = .ok (.iaload, 1) := by decide +kernel
theorem dX6_fill_43 : decode cX6_fill 43 = .ok (.if_icmp .gt 122, 3) := by decide +kernel
theorem dX6_fill_46 : decode cX6_fill 46 = .ok (.aload_n 0, 1) := by decide +kernel
theorem dX6_fill_47 : decode cX6_fill 47 = .ok (.getfield 16, 3) := by decide +kernel
theorem dX6_fill_50 : decode cX6_fill 50 = .ok (.iconst 5, 1) := by decide +kernel
theorem dX6_fill_51 : decode cX6_fill 51 = .ok (.iload_n 1, 1) := by decide +kernel
theorem dX6_fill_52 : decode cX6_fill 52 = .ok (.imul, 1) := by decide +kernel
theorem dX6_fill_53 : decode cX6_fill 53 = .ok (.iload_n 3, 1) := by decide +kernel
theorem dX6_fill_54 : decode cX6_fill 54 = .ok (.iadd, 1) := by decide +kernel
theorem dX6_fill_55 : decode cX6_fill 55 = .ok (.iconst 1, 1) := by decide +kernel
theorem dX6_fill_56 : decode cX6_fill 56 = .ok (.isub, 1) := by decide +kernel
theorem dX6_fill_57 : decode cX6_fill 57 = .ok (.iaload, 1) := by decide +kernel
theorem dX6_fill_58 : decode cX6_fill 58 = .ok (.istore 4, 2) := by decide +kernel
theorem dX6_fill_60 : decode cX6_fill 60 = .ok (.iload_n 2, 1) := by decide +kernel
theorem dX6_fill_61 : decode cX6_fill 61 = .ok (.istore 5, 2) := by decide +kernel
theorem dX6_fill_63 : decode cX6_fill 63 = .ok (.iload 5, 2) := by decide +kernel
theorem dX6_fill_65 : decode cX6_fill 65 = .ok (.aload_n 0, 1) := by decide +kernel
theorem dX6_fill_66 : decode cX6_fill 66 = .ok (.getfield 126, 3) := by decide +kernel
theorem dX6_fill_69 : decode cX6_fill 69 = .ok (.if_icmp .gt 90, 3) := by decide +kernel
theorem dX6_fill_72 : decode cX6_fill 72 = .ok (.ldc2_w 138, 3) := by decide +kernel
theorem dX6_fill_75 : decode cX6_fill 75 = .ok (.lstore 6, 2) := by decide +kernel
theorem dX6_fill_77 : decode cX6_fill 77 = .ok (.iload_n 2, 1) := by decide +kernel
theorem dX6_fill_78 : decode cX6_fill 78 = .ok (.istore 8, 2) := by decide +kernel
theorem dX6_fill_80 : decode cX6_fill 80 = .ok (.iload 8, 2) := by decide +kernel
theorem dX6_fill_82 : decode cX6_fill 82 = .ok (.iload 5, 2) := by decide +kernel
theorem dX6_fill_84 : decode cX6_fill 84 = .ok (.if_icmp .gt 55, 3) := by decide +kernel
theorem dX6_fill_87 : decode cX6_fill 87 = .ok (.aload_n 0, 1) := by decide +kernel
theorem dX6_fill_88 : decode cX6_fill 88 = .ok (.getfield 54, 3) := by decide +kernel
theorem dX6_fill_91 : decode cX6_fill 91 = .ok (.bipush 17, 2) := by decide +kernel
theorem dX6_fill_93 : decode cX6_fill 93 = .ok (.iload_n 3, 1) := by decide +kernel
theorem dX6_fill_94 : decode cX6_fill 94 = .ok (.iconst 1, 1) := by decide +kernel
theorem dX6_fill_95 : decode cX6_fill 95 = .ok (.isub, 1) := by decide +kernel
theorem dX6_fill_96 : decode cX6_fill 96 = .ok (.imul, 1) := by decide +kernel
theorem dX6_fill_97 : decode cX6_fill 97 = .ok (.iload 8, 2) := by decide +kernel
theorem dX6_fill_99 : decode cX6_fill 99 = .ok (.iadd, 1) := by decide +kernel
theorem dX6_fill_100 : decode cX6_fill 100 = .ok (.laload, 1) := by decide +kernel
theorem dX6_fill_101 : decode cX6_fill 101 = .ok (.aload_n 0, 1) := by decide +kernel
theorem dX6_fill_102 : decode cX6_fill 102 = .ok (.iload 4, 2) := by decide +kernel
theorem dX6_fill_104 : decode cX6_fill 104 = .ok (.iload 8, 2) := by decide +kernel
theorem dX6_fill_106 : decode cX6_fill 106 = .ok (.iload 5, 2) := by decide +kernel
theorem dX6_fill_108 : decode cX6_fill 108 = .ok (.invokevirtual 142, 3) := by decide +kernel
theorem dX6_fill_111 : decode cX6_fill 111 = .ok (.invokestatic 146, 3) := by decide +kernel
theorem dX6_fill_114 : decode cX6_fill 114 = .ok (.lstore 9, 2) := by decide +kernel
theorem dX6_fill_116 : decode cX6_fill 116 = .ok (.lload 9, 2) := by decide +kernel
theorem dX6_fill_118 : decode cX6_fill 118 = .ok (.lload 6, 2) := by decide +kernel
theorem dX6_fill_120 : decode cX6_fill 120 = .ok (.lcmp, 1) := by decide +kernel
theorem dX6_fill_121 : decode cX6_fill 121 = .ok (.ifCond .ge 8, 3) := by decide +kernel
theorem dX6_fill_124 : decode cX6_fill 124 = .ok (.lload 9, 2) := by decide +kernel
theorem dX6_fill_126 : decode cX6_fill 126 = .ok (.goto 5, 3) := by decide +kernel
theorem dX6_fill_129 : decode cX6_fill 129 = .ok (.lload 6, 2) := by decide +kernel
theorem dX6_fill_131 : decode cX6_fill 131 = .ok (.lstore 6, 2) := by decide +kernel
theorem dX6_fill_133 : decode cX6_fill 133 = .ok (.iinc 8 1, 3) := by decide +kernel
theorem dX6_fill_136 : decode cX6_fill 136 = .ok (.goto (-56), 3) := by decide +kernel
theorem dX6_fill_139 : decode cX6_fill 139 = .ok (.aload_n 0, 1) := by decide +kernel
theorem dX6_fill_140 : decode cX6_fill 140 = .ok (.getfield 54, 3) := by decide +kernel
theorem dX6_fill_143 : decode cX6_fill 143 = .ok (.bipush 17, 2) := by decide +kernel
theorem dX6_fill_145 : decode cX6_fill 145 = .ok (.iload_n 3, 1) := by decide +kernel
theorem dX6_fill_146 : decode cX6_fill 146 = .ok (.imul, 1) := by decide +kernel
theorem dX6_fill_147 : decode cX6_fill 147 = .ok (.iload 5, 2) := by decide +kernel
theorem dX6_fill_149 : decode cX6_fill 149 = .ok (.iadd, 1) := by decide +kernel
theorem dX6_fill_150 : decode cX6_fill 150 = .ok (.lload 6, 2) := by decide +kernel
theorem dX6_fill_152 : decode cX6_fill 152 = .ok (.lastore, 1) := by decide +kernel
theorem dX6_fill_153 : decode cX6_fill 153 = .ok (.iinc 5 1, 3) := by decide +kernel
theorem dX6_fill_156 : decode cX6_fill 156 = .ok (.goto (-93), 3) := by decide +kernel
theorem dX6_fill_159 : decode cX6_fill 159 = .ok (.iinc 3 1, 3) := by decide +kernel
theorem dX6_fill_162 : decode cX6_fill 162 = .ok (.goto (-126), 3) := by decide +kernel
theorem dX6_fill_165 : decode cX6_fill 165 = .ok (.return_, 1) := by decide +kernel
theorem dX6_prices_0 : decode cX6_prices 0 = .ok (.iconst 0, 1) := by decide +kernel
theorem dX6_prices_1 : decode cX6_prices 1 = .ok (.istore_n 1, 1) := by decide +kernel
theorem dX6_prices_2 : decode cX6_prices 2 = .ok (.iload_n 1, 1) := by decide +kernel
theorem dX6_prices_3 : decode cX6_prices 3 = .ok (.sipush 1734, 3) := by decide +kernel
theorem dX6_prices_6 : decode cX6_prices 6 = .ok (.if_icmp .ge 18, 3) := by decide +kernel
theorem dX6_prices_9 : decode cX6_prices 9 = .ok (.aload_n 0, 1) := by decide +kernel
theorem dX6_prices_10 : decode cX6_prices 10 = .ok (.getfield 50, 3) := by decide +kernel
theorem dX6_prices_13 : decode cX6_prices 13 = .ok (.iload_n 1, 1) := by decide +kernel
theorem dX6_prices_14 : decode cX6_prices 14 = .ok (.ldc2_w 138, 3) := by decide +kernel
theorem dX6_prices_17 : decode cX6_prices 17 = .ok (.lastore, 1) := by decide +kernel
theorem dX6_prices_18 : decode cX6_prices 18 = .ok (.iinc 1 1, 3) := by decide +kernel
theorem dX6_prices_21 : decode cX6_prices 21 = .ok (.goto (-19), 3) := by decide +kernel
theorem dX6_prices_24 : decode cX6_prices 24 = .ok (.aload_n 0, 1) := by decide +kernel
theorem dX6_prices_25 : decode cX6_prices 25 = .ok (.getfield 126, 3) := by decide +kernel
theorem dX6_prices_28 : decode cX6_prices 28 = .ok (.istore_n 1, 1) := by decide +kernel
theorem dX6_prices_29 : decode cX6_prices 29 = .ok (.iload_n 1, 1) := by decide +kernel
theorem dX6_prices_30 : decode cX6_prices 30 = .ok (.ifCond .lt 161, 3) := by decide +kernel
theorem dX6_prices_33 : decode cX6_prices 33 = .ok (.iconst 1, 1) := by decide +kernel
theorem dX6_prices_34 : decode cX6_prices 34 = .ok (.istore_n 2, 1) := by decide +kernel
theorem dX6_prices_35 : decode cX6_prices 35 = .ok (.iload_n 2, 1) := by decide +kernel
theorem dX6_prices_36 : decode cX6_prices 36 = .ok (.ifCond .eq 149, 3) := by decide +kernel
theorem dX6_prices_39 : decode cX6_prices 39 = .ok (.iconst 0, 1) := by decide +kernel
theorem dX6_prices_40 : decode cX6_prices 40 = .ok (.istore_n 2, 1) := by decide +kernel
theorem dX6_prices_41 : decode cX6_prices 41 = .ok (.iconst 0, 1) := by decide +kernel
theorem dX6_prices_42 : decode cX6_prices 42 = .ok (.istore_n 3, 1) := by decide +kernel
theorem dX6_prices_43 : decode cX6_prices 43 = .ok (.iload_n 3, 1) := by decide +kernel
theorem dX6_prices_44 : decode cX6_prices 44 = .ok (.aload_n 0, 1) := by decide +kernel
theorem dX6_prices_45 : decode cX6_prices 45 = .ok (.getfield 110, 3) := by decide +kernel
theorem dX6_prices_48 : decode cX6_prices 48 = .ok (.if_icmp .ge 134, 3) := by decide +kernel
theorem dX6_prices_51 : decode cX6_prices 51 = .ok (.aload_n 0, 1) := by decide +kernel
theorem dX6_prices_52 : decode cX6_prices 52 = .ok (.iload_n 3, 1) := by decide +kernel
theorem dX6_prices_53 : decode cX6_prices 53 = .ok (.iload_n 1, 1) := by decide +kernel
theorem dX6_prices_54 : decode cX6_prices 54 = .ok (.invokevirtual 150, 3) := by decide +kernel
theorem dX6_prices_57 : decode cX6_prices 57 = .ok (.iload_n 1, 1) := by decide +kernel
theorem dX6_prices_58 : decode cX6_prices 58 = .ok (.istore 4, 2) := by decide +kernel
theorem dX6_prices_60 : decode cX6_prices 60 = .ok (.iload 4, 2) := by decide +kernel
theorem dX6_prices_62 : decode cX6_prices 62 = .ok (.aload_n 0, 1) := by decide +kernel
theorem dX6_prices_63 : decode cX6_prices 63 = .ok (.getfield 126, 3) := by decide +kernel
theorem dX6_prices_66 : decode cX6_prices 66 = .ok (.if_icmp .gt 110, 3) := by decide +kernel
theorem dX6_prices_69 : decode cX6_prices 69 = .ok (.sipush 289, 3) := by decide +kernel
theorem dX6_prices_72 : decode cX6_prices 72 = .ok (.aload_n 0, 1) := by decide +kernel
theorem dX6_prices_73 : decode cX6_prices 73 = .ok (.getfield 7, 3) := by decide +kernel
theorem dX6_prices_76 : decode cX6_prices 76 = .ok (.iload_n 3, 1) := by decide +kernel
theorem dX6_prices_77 : decode cX6_prices 77 = .ok (.iaload, 1) := by decide +kernel
theorem dX6_prices_78 : decode cX6_prices 78 = .ok (.bipush 9, 2) := by decide +kernel
theorem dX6_prices_80 : decode cX6_prices 80 = .ok (.isub, 1) := by decide +kernel
theorem dX6_prices_81 : decode cX6_prices 81 = .ok (.imul, 1) := by decide +kernel
theorem dX6_prices_82 : decode cX6_prices 82 = .ok (.bipush 17, 2) := by decide +kernel
theorem dX6_prices_84 : decode cX6_prices 84 = .ok (.iload_n 1, 1) := by decide +kernel
theorem dX6_prices_85 : decode cX6_prices 85 = .ok (.imul, 1) := by decide +kernel
theorem dX6_prices_86 : decode cX6_prices 86 = .ok (.iadd, 1) := by decide +kernel
theorem dX6_prices_87 : decode cX6_prices 87 = .ok (.iload 4, 2) := by decide +kernel
theorem dX6_prices_89 : decode cX6_prices 89 = .ok (.iadd, 1) := by decide +kernel
theorem dX6_prices_90 : decode cX6_prices 90 = .ok (.istore 5, 2) := by decide +kernel
theorem dX6_prices_92 : decode cX6_prices 92 = .ok (.aload_n 0, 1) := by decide +kernel
theorem dX6_prices_93 : decode cX6_prices 93 = .ok (.getfield 54, 3) := by decide +kernel
theorem dX6_prices_96 : decode cX6_prices 96 = .ok (.bipush 17, 2) := by decide +kernel
theorem dX6_prices_98 : decode cX6_prices 98 = .ok (.aload_n 0, 1) := by decide +kernel
theorem dX6_prices_99 : decode cX6_prices 99 = .ok (.getfield 13, 3) := by decide +kernel
theorem dX6_prices_102 : decode cX6_prices 102 = .ok (.iload_n 3, 1) := by decide +kernel
theorem dX6_prices_103 : decode cX6_prices 103 = .ok (.iaload, 1) := by decide +kernel
theorem dX6_prices_104 : decode cX6_prices 104 = .ok (.imul, 1) := by decide +kernel
theorem dX6_prices_105 : decode cX6_prices 105 = .ok (.iload 4, 2) := by decide +kernel
theorem dX6_prices_107 : decode cX6_prices 107 = .ok (.iadd, 1) := by decide +kernel
theorem dX6_prices_108 : decode cX6_prices 108 = .ok (.laload, 1) := by decide +kernel
theorem dX6_prices_109 : decode cX6_prices 109 = .ok (.lconst 1, 1) := by decide +kernel
theorem dX6_prices_110 : decode cX6_prices 110 = .ok (.invokestatic 146, 3) := by decide +kernel
theorem dX6_prices_113 : decode cX6_prices 113 = .ok (.lstore 6, 2) := by decide +kernel
theorem dX6_prices_115 : decode cX6_prices 115 = .ok (.iload_n 2, 1) := by decide +kernel
theorem dX6_prices_116 : decode cX6_prices 116 = .ok (.ifCond .ne 16, 3) := by decide +kernel
theorem dX6_prices_119 : decode cX6_prices 119 = .ok (.lload 6, 2) := by decide +kernel
theorem dX6_prices_121 : decode cX6_prices 121 = .ok (.aload_n 0, 1) := by decide +kernel
theorem dX6_prices_122 : decode cX6_prices 122 = .ok (.getfield 50, 3) := by decide +kernel
theorem dX6_prices_125 : decode cX6_prices 125 = .ok (.iload 5, 2) := by decide +kernel
theorem dX6_prices_127 : decode cX6_prices 127 = .ok (.laload, 1) := by decide +kernel
theorem dX6_prices_128 : decode cX6_prices 128 = .ok (.lcmp, 1) := by decide +kernel
theorem dX6_prices_129 : decode cX6_prices 129 = .ok (.ifCond .ge 7, 3) := by decide +kernel
theorem dX6_prices_132 : decode cX6_prices 132 = .ok (.iconst 1, 1) := by decide +kernel
theorem dX6_prices_133 : decode cX6_prices 133 = .ok (.goto 4, 3) := by decide +kernel
theorem dX6_prices_136 : decode cX6_prices 136 = .ok (.iconst 0, 1) := by decide +kernel
theorem dX6_prices_137 : decode cX6_prices 137 = .ok (.istore_n 2, 1) := by decide +kernel
theorem dX6_prices_138 : decode cX6_prices 138 = .ok (.aload_n 0, 1) := by decide +kernel
theorem dX6_prices_139 : decode cX6_prices 139 = .ok (.getfield 50, 3) := by decide +kernel
theorem dX6_prices_142 : decode cX6_prices 142 = .ok (.iload 5, 2) := by decide +kernel
theorem dX6_prices_144 : decode cX6_prices 144 = .ok (.lload 6, 2) := by decide +kernel
theorem dX6_prices_146 : decode cX6_prices 146 = .ok (.aload_n 0, 1) := by decide +kernel
theorem dX6_prices_147 : decode cX6_prices 147 = .ok (.getfield 50, 3) := by decide +kernel
theorem dX6_prices_150 : decode cX6_prices 150 = .ok (.iload 5, 2) := by decide +kernel
theorem dX6_prices_152 : decode cX6_prices 152 = .ok (.laload, 1) := by decide +kernel
theorem dX6_prices_153 : decode cX6_prices 153 = .ok (.lcmp, 1) := by decide +kernel
theorem dX6_prices_154 : decode cX6_prices 154 = .ok (.ifCond .ge 8, 3) := by decide +kernel
theorem dX6_prices_157 : decode cX6_prices 157 = .ok (.lload 6, 2) := by decide +kernel
theorem dX6_prices_159 : decode cX6_prices 159 = .ok (.goto 10, 3) := by decide +kernel
theorem dX6_prices_162 : decode cX6_prices 162 = .ok (.aload_n 0, 1) := by decide +kernel
theorem dX6_prices_163 : decode cX6_prices 163 = .ok (.getfield 50, 3) := by decide +kernel
theorem dX6_prices_166 : decode cX6_prices 166 = .ok (.iload 5, 2) := by decide +kernel
theorem dX6_prices_168 : decode cX6_prices 168 = .ok (.laload, 1) := by decide +kernel
theorem dX6_prices_169 : decode cX6_prices 169 = .ok (.lastore, 1) := by decide +kernel
theorem dX6_prices_170 : decode cX6_prices 170 = .ok (.iinc 4 1, 3) := by decide +kernel
theorem dX6_prices_173 : decode cX6_prices 173 = .ok (.goto (-113), 3) := by decide +kernel
theorem dX6_prices_176 : decode cX6_prices 176 = .ok (.iinc 3 1, 3) := by decide +kernel
theorem dX6_prices_179 : decode cX6_prices 179 = .ok (.goto (-136), 3) := by decide +kernel
theorem dX6_prices_182 : decode cX6_prices 182 = .ok (.goto (-147), 3) := by decide +kernel
theorem dX6_prices_185 : decode cX6_prices 185 = .ok (.iinc 1 (-1), 3) := by decide +kernel
theorem dX6_prices_188 : decode cX6_prices 188 = .ok (.goto (-159), 3) := by decide +kernel
theorem dX6_prices_191 : decode cX6_prices 191 = .ok (.return_, 1) := by decide +kernel
theorem dX6_push_0 : decode cX6_push 0 = .ok (.aload_n 0, 1) := by decide +kernel
theorem dX6_push_1 : decode cX6_push 1 = .ok (.getfield 84, 3) := by decide +kernel
theorem dX6_push_4 : decode cX6_push 4 = .ok (.iconst 5, 1) := by decide +kernel
theorem dX6_push_5 : decode cX6_push 5 = .ok (.aload_n 0, 1) := by decide +kernel
theorem dX6_push_6 : decode cX6_push 6 = .ok (.getfield 154, 3) := by decide +kernel
theorem dX6_push_9 : decode cX6_push 9 = .ok (.imul, 1) := by decide +kernel
theorem dX6_push_10 : decode cX6_push 10 = .ok (.iload_n 1, 1) := by decide +kernel
theorem dX6_push_11 : decode cX6_push 11 = .ok (.iastore, 1) := by decide +kernel
theorem dX6_push_12 : decode cX6_push 12 = .ok (.aload_n 0, 1) := by decide +kernel
theorem dX6_push_13 : decode cX6_push 13 = .ok (.getfield 84, 3) := by decide +kernel
theorem dX6_push_16 : decode cX6_push 16 = .ok (.iconst 5, 1) := by decide +kernel
theorem dX6_push_17 : decode cX6_push 17 = .ok (.aload_n 0, 1) := by decide +kernel
theorem dX6_push_18 : decode cX6_push 18 = .ok (.getfield 154, 3) := by decide +kernel
theorem dX6_push_21 : decode cX6_push 21 = .ok (.imul, 1) := by decide +kernel
theorem dX6_push_22 : decode cX6_push 22 = .ok (.iconst 1, 1) := by decide +kernel
theorem dX6_push_23 : decode cX6_push 23 = .ok (.iadd, 1) := by decide +kernel
theorem dX6_push_24 : decode cX6_push 24 = .ok (.iload_n 2, 1) := by decide +kernel
theorem dX6_push_25 : decode cX6_push 25 = .ok (.iastore, 1) := by decide +kernel
theorem dX6_push_26 : decode cX6_push 26 = .ok (.aload_n 0, 1) := by decide +kernel
theorem dX6_push_27 : decode cX6_push 27 = .ok (.getfield 84, 3) := by decide +kernel
theorem dX6_push_30 : decode cX6_push 30 = .ok (.iconst 5, 1) := by decide +kernel
theorem dX6_push_31 : decode cX6_push 31 = .ok (.aload_n 0, 1) := by decide +kernel
theorem dX6_push_32 : decode cX6_push 32 = .ok (.getfield 154, 3) := by decide +kernel
theorem dX6_push_35 : decode cX6_push 35 = .ok (.imul, 1) := by decide +kernel
theorem dX6_push_36 : decode cX6_push 36 = .ok (.iconst 2, 1) := by decide +kernel
theorem dX6_push_37 : decode cX6_push 37 = .ok (.iadd, 1) := by decide +kernel
theorem dX6_push_38 : decode cX6_push 38 = .ok (.iload_n 3, 1) := by decide +kernel
theorem dX6_push_39 : decode cX6_push 39 = .ok (.iastore, 1) := by decide +kernel
theorem dX6_push_40 : decode cX6_push 40 = .ok (.aload_n 0, 1) := by decide +kernel
theorem dX6_push_41 : decode cX6_push 41 = .ok (.getfield 84, 3) := by decide +kernel
theorem dX6_push_44 : decode cX6_push 44 = .ok (.iconst 5, 1) := by decide +kernel
theorem dX6_push_45 : decode cX6_push 45 = .ok (.aload_n 0, 1) := by decide +kernel
theorem dX6_push_46 : decode cX6_push 46 = .ok (.getfield 154, 3) := by decide +kernel
theorem dX6_push_49 : decode cX6_push 49 = .ok (.imul, 1) := by decide +kernel
theorem dX6_push_50 : decode cX6_push 50 = .ok (.iconst 3, 1) := by decide +kernel
theorem dX6_push_51 : decode cX6_push 51 = .ok (.iadd, 1) := by decide +kernel
theorem dX6_push_52 : decode cX6_push 52 = .ok (.iload 4, 2) := by decide +kernel
theorem dX6_push_54 : decode cX6_push 54 = .ok (.iastore, 1) := by decide +kernel
theorem dX6_push_55 : decode cX6_push 55 = .ok (.aload_n 0, 1) := by decide +kernel
theorem dX6_push_56 : decode cX6_push 56 = .ok (.getfield 84, 3) := by decide +kernel
theorem dX6_push_59 : decode cX6_push 59 = .ok (.iconst 5, 1) := by decide +kernel
theorem dX6_push_60 : decode cX6_push 60 = .ok (.aload_n 0, 1) := by decide +kernel
theorem dX6_push_61 : decode cX6_push 61 = .ok (.getfield 154, 3) := by decide +kernel
theorem dX6_push_64 : decode cX6_push 64 = .ok (.imul, 1) := by decide +kernel
theorem dX6_push_65 : decode cX6_push 65 = .ok (.iconst 4, 1) := by decide +kernel
theorem dX6_push_66 : decode cX6_push 66 = .ok (.iadd, 1) := by decide +kernel
theorem dX6_push_67 : decode cX6_push 67 = .ok (.iload 5, 2) := by decide +kernel
theorem dX6_push_69 : decode cX6_push 69 = .ok (.iastore, 1) := by decide +kernel
theorem dX6_push_70 : decode cX6_push 70 = .ok (.aload_n 0, 1) := by decide +kernel
theorem dX6_push_71 : decode cX6_push 71 = .ok (.dup, 1) := by decide +kernel
theorem dX6_push_72 : decode cX6_push 72 = .ok (.getfield 154, 3) := by decide +kernel
theorem dX6_push_75 : decode cX6_push 75 = .ok (.iconst 1, 1) := by decide +kernel
theorem dX6_push_76 : decode cX6_push 76 = .ok (.iadd, 1) := by decide +kernel
theorem dX6_push_77 : decode cX6_push 77 = .ok (.putfield 154, 3) := by decide +kernel
theorem dX6_push_80 : decode cX6_push 80 = .ok (.return_, 1) := by decide +kernel
theorem dX6_choose_0 : decode cX6_choose 0 = .ok (.aload_n 0, 1) := by decide +kernel
theorem dX6_choose_1 : decode cX6_choose 1 = .ok (.getfield 50, 3) := by decide +kernel
theorem dX6_choose_4 : decode cX6_choose 4 = .ok (.sipush 289, 3) := by decide +kernel
theorem dX6_choose_7 : decode cX6_choose 7 = .ok (.iload_n 1, 1) := by decide +kernel
theorem dX6_choose_8 : decode cX6_choose 8 = .ok (.bipush 9, 2) := by decide +kernel
theorem dX6_choose_10 : decode cX6_choose 10 = .ok (.isub, 1) := by decide +kernel
theorem dX6_choose_11 : decode cX6_choose 11 = .ok (.imul, 1) := by decide +kernel
theorem dX6_choose_12 : decode cX6_choose 12 = .ok (.bipush 17, 2) := by decide +kernel
theorem dX6_choose_14 : decode cX6_choose 14 = .ok (.iload_n 2, 1) := by decide +kernel
theorem dX6_choose_15 : decode cX6_choose 15 = .ok (.imul, 1) := by decide +kernel
theorem dX6_choose_16 : decode cX6_choose 16 = .ok (.iadd, 1) := by decide +kernel
theorem dX6_choose_17 : decode cX6_choose 17 = .ok (.iload_n 3, 1) := by decide +kernel
theorem dX6_choose_18 : decode cX6_choose 18 = .ok (.iadd, 1) := by decide +kernel
theorem dX6_choose_19 : decode cX6_choose 19 = .ok (.laload, 1) := by decide +kernel
theorem dX6_choose_20 : decode cX6_choose 20 = .ok (.lstore 4, 2) := by decide +kernel
theorem dX6_choose_22 : decode cX6_choose 22 = .ok (.iconst 0, 1) := by decide +kernel
theorem dX6_choose_23 : decode cX6_choose 23 = .ok (.istore 6, 2) := by decide +kernel
theorem dX6_choose_25 : decode cX6_choose 25 = .ok (.iload 6, 2) := by decide +kernel
theorem dX6_choose_27 : decode cX6_choose 27 = .ok (.aload_n 0, 1) := by decide +kernel
theorem dX6_choose_28 : decode cX6_choose 28 = .ok (.getfield 110, 3) := by decide +kernel
theorem dX6_choose_31 : decode cX6_choose 31 = .ok (.if_icmp .ge 183, 3) := by decide +kernel
theorem dX6_choose_34 : decode cX6_choose 34 = .ok (.aload_n 0, 1) := by decide +kernel
theorem dX6_choose_35 : decode cX6_choose 35 = .ok (.getfield 7, 3) := by decide +kernel
theorem dX6_choose_38 : decode cX6_choose 38 = .ok (.iload 6, 2) := by decide +kernel
theorem dX6_choose_40 : decode cX6_choose 40 = .ok (.iaload, 1) := by decide +kernel
theorem dX6_choose_41 : decode cX6_choose 41 = .ok (.iload_n 1, 1) := by decide +kernel
theorem dX6_choose_42 : decode cX6_choose 42 = .ok (.if_icmp .ne 166, 3) := by decide +kernel
theorem dX6_choose_45 : decode cX6_choose 45 = .ok (.aload_n 0, 1) := by decide +kernel
theorem dX6_choose_46 : decode cX6_choose 46 = .ok (.iload 6, 2) := by decide +kernel
theorem dX6_choose_48 : decode cX6_choose 48 = .ok (.iload_n 2, 1) := by decide +kernel
theorem dX6_choose_49 : decode cX6_choose 49 = .ok (.invokevirtual 150, 3) := by decide +kernel
theorem dX6_choose_52 : decode cX6_choose 52 = .ok (.aload_n 0, 1) := by decide +kernel
theorem dX6_choose_53 : decode cX6_choose 53 = .ok (.getfield 54, 3) := by decide +kernel
theorem dX6_choose_56 : decode cX6_choose 56 = .ok (.bipush 17, 2) := by decide +kernel
theorem dX6_choose_58 : decode cX6_choose 58 = .ok (.aload_n 0, 1) := by decide +kernel
theorem dX6_choose_59 : decode cX6_choose 59 = .ok (.getfield 13, 3) := by decide +kernel
theorem dX6_choose_62 : decode cX6_choose 62 = .ok (.iload 6, 2) := by decide +kernel
theorem dX6_choose_64 : decode cX6_choose 64 = .ok (.iaload, 1) := by decide +kernel
theorem dX6_choose_65 : decode cX6_choose 65 = .ok (.imul, 1) := by decide +kernel
theorem dX6_choose_66 : decode cX6_choose 66 = .ok (.iload_n 3, 1) := by decide +kernel
theorem dX6_choose_67 : decode cX6_choose 67 = .ok (.iadd, 1) := by decide +kernel
theorem dX6_choose_68 : decode cX6_choose 68 = .ok (.laload, 1) := by decide +kernel
theorem dX6_choose_69 : decode cX6_choose 69 = .ok (.lconst 1, 1) := by decide +kernel
theorem dX6_choose_70 : decode cX6_choose 70 = .ok (.invokestatic 146, 3) := by decide +kernel
theorem dX6_choose_73 : decode cX6_choose 73 = .ok (.lload 4, 2) := by decide +kernel
theorem dX6_choose_75 : decode cX6_choose 75 = .ok (.lcmp, 1) := by decide +kernel
theorem dX6_choose_76 : decode cX6_choose 76 = .ok (.ifCond .ne 132, 3) := by decide +kernel
theorem dX6_choose_79 : decode cX6_choose 79 = .ok (.aload_n 0, 1) := by decide +kernel
theorem dX6_choose_80 : decode cX6_choose 80 = .ok (.getfield 57, 3) := by decide +kernel
theorem dX6_choose_83 : decode cX6_choose 83 = .ok (.aload_n 0, 1) := by decide +kernel
theorem dX6_choose_84 : decode cX6_choose 84 = .ok (.getfield 13, 3) := by decide +kernel
theorem dX6_choose_87 : decode cX6_choose 87 = .ok (.iload 6, 2) := by decide +kernel
theorem dX6_choose_89 : decode cX6_choose 89 = .ok (.iaload, 1) := by decide +kernel
theorem dX6_choose_90 : decode cX6_choose 90 = .ok (.iload_n 3, 1) := by decide +kernel
theorem dX6_choose_91 : decode cX6_choose 91 = .ok (.iastore, 1) := by decide +kernel
theorem dX6_choose_92 : decode cX6_choose 92 = .ok (.aload_n 0, 1) := by decide +kernel
theorem dX6_choose_93 : decode cX6_choose 93 = .ok (.getfield 13, 3) := by decide +kernel
theorem dX6_choose_96 : decode cX6_choose 96 = .ok (.iload 6, 2) := by decide +kernel
theorem dX6_choose_98 : decode cX6_choose 98 = .ok (.iaload, 1) := by decide +kernel
theorem dX6_choose_99 : decode cX6_choose 99 = .ok (.istore 7, 2) := by decide +kernel
theorem dX6_choose_101 : decode cX6_choose 101 = .ok (.iload 7, 2) := by decide +kernel
theorem dX6_choose_103 : decode cX6_choose 103 = .ok (.ifCond .le 102, 3) := by decide +kernel
theorem dX6_choose_106 : decode cX6_choose 106 = .ok (.aload_n 0, 1) := by decide +kernel
theorem dX6_choose_107 : decode cX6_choose 107 = .ok (.getfield 57, 3) := by decide +kernel
theorem dX6_choose_110 : decode cX6_choose 110 = .ok (.iload 7, 2) := by decide +kernel
theorem dX6_choose_112 : decode cX6_choose 112 = .ok (.iaload, 1) := by decide +kernel
theorem dX6_choose_113 : decode cX6_choose 113 = .ok (.istore 8, 2) := by decide +kernel
theorem dX6_choose_115 : decode cX6_choose 115 = .ok (.aload_n 0, 1) := by decide +kernel
theorem dX6_choose_116 : decode cX6_choose 116 = .ok (.getfield 54, 3) := by decide +kernel
theorem dX6_choose_119 : decode cX6_choose 119 = .ok (.bipush 17, 2) := by decide +kernel
theorem dX6_choose_121 : decode cX6_choose 121 = .ok (.iload 7, 2) := by decide +kernel
theorem dX6_choose_123 : decode cX6_choose 123 = .ok (.iconst 1, 1) := by decide +kernel
theorem dX6_choose_124 : decode cX6_choose 124 = .ok (.isub, 1) := by decide +kernel
theorem dX6_choose_125 : decode cX6_choose 125 = .ok (.imul, 1) := by decide +kernel
theorem dX6_choose_126 : decode cX6_choose 126 = .ok (.iload 8, 2) := by decide +kernel
theorem dX6_choose_128 : decode cX6_choose 128 = .ok (.iadd, 1) := by decide +kernel
theorem dX6_choose_129 : decode cX6_choose 129 = .ok (.laload, 1) := by decide +kernel
theorem dX6_choose_130 : decode cX6_choose 130 = .ok (.aload_n 0, 1) := by decide +kernel
theorem dX6_choose_131 : decode cX6_choose 131 = .ok (.aload_n 0, 1) := by decide +kernel
theorem dX6_choose_132 : decode cX6_choose 132 = .ok (.getfield 16, 3) := by decide +kernel
theorem dX6_choose_135 : decode cX6_choose 135 = .ok (.iconst 5, 1) := by decide +kernel
theorem dX6_choose_136 : decode cX6_choose 136 = .ok (.iload 6, 2) := by decide +kernel
theorem dX6_choose_138 : decode cX6_choose 138 = .ok (.imul, 1) := by decide +kernel
theorem dX6_choose_139 : decode cX6_choose 139 = .ok (.iload 7, 2) := by decide +kernel
theorem dX6_choose_141 : decode cX6_choose 141 = .ok (.iadd, 1) := by decide +kernel
theorem dX6_choose_142 : decode cX6_choose 142 = .ok (.iconst 1, 1) := by decide +kernel
theorem dX6_choose_143 : decode cX6_choose 143 = .ok (.isub, 1) := by decide +kernel
theorem dX6_choose_144 : decode cX6_choose 144 = .ok (.iaload, 1) := by decide +kernel
theorem dX6_choose_145 : decode cX6_choose 145 = .ok (.iload 8, 2) := by decide +kernel
theorem dX6_choose_147 : decode cX6_choose 147 = .ok (.aload_n 0, 1) := by decide +kernel
theorem dX6_choose_148 : decode cX6_choose 148 = .ok (.getfield 57, 3) := by decide +kernel
theorem dX6_choose_151 : decode cX6_choose 151 = .ok (.iload 7, 2) := by decide +kernel
theorem dX6_choose_153 : decode cX6_choose 153 = .ok (.iaload, 1) := by decide +kernel
theorem dX6_choose_154 : decode cX6_choose 154 = .ok (.invokevirtual 142, 3) := by decide +kernel
theorem dX6_choose_157 : decode cX6_choose 157 = .ok (.invokestatic 146, 3) := by decide +kernel
theorem dX6_choose_160 : decode cX6_choose 160 = .ok (.aload_n 0, 1) := by decide +kernel
theorem dX6_choose_161 : decode cX6_choose 161 = .ok (.getfield 54, 3) := by decide +kernel
theorem dX6_choose_164 : decode cX6_choose 164 = .ok (.bipush 17, 2) := by decide +kernel
theorem dX6_choose_166 : decode cX6_choose 166 = .ok (.iload 7, 2) := by decide +kernel
theorem dX6_choose_168 : decode cX6_choose 168 = .ok (.imul, 1) := by decide +kernel
theorem dX6_choose_169 : decode cX6_choose 169 = .ok (.aload_n 0, 1) := by decide +kernel
theorem dX6_choose_170 : decode cX6_choose 170 = .ok (.getfield 57, 3) := by decide +kernel
theorem dX6_choose_173 : decode cX6_choose 173 = .ok (.iload 7, 2) := by decide +kernel
theorem dX6_choose_175 : decode cX6_choose 175 = .ok (.iaload, 1) := by decide +kernel
theorem dX6_choose_176 : decode cX6_choose 176 = .ok (.iadd, 1) := by decide +kernel
theorem dX6_choose_177 : decode cX6_choose 177 = .ok (.laload, 1) := by decide +kernel
theorem dX6_choose_178 : decode cX6_choose 178 = .ok (.lcmp, 1) := by decide +kernel
theorem dX6_choose_179 : decode cX6_choose 179 = .ok (.ifCond .eq 9, 3) := by decide +kernel
theorem dX6_choose_182 : decode cX6_choose 182 = .ok (.iinc 8 (-1), 3) := by decide +kernel
theorem dX6_choose_185 : decode cX6_choose 185 = .ok (.goto (-70), 3) := by decide +kernel
theorem dX6_choose_188 : decode cX6_choose 188 = .ok (.aload_n 0, 1) := by decide +kernel
theorem dX6_choose_189 : decode cX6_choose 189 = .ok (.getfield 57, 3) := by decide +kernel
theorem dX6_choose_192 : decode cX6_choose 192 = .ok (.iload 7, 2) := by decide +kernel
theorem dX6_choose_194 : decode cX6_choose 194 = .ok (.iconst 1, 1) := by decide +kernel
theorem dX6_choose_195 : decode cX6_choose 195 = .ok (.isub, 1) := by decide +kernel
theorem dX6_choose_196 : decode cX6_choose 196 = .ok (.iload 8, 2) := by decide +kernel
theorem dX6_choose_198 : decode cX6_choose 198 = .ok (.iastore, 1) := by decide +kernel
theorem dX6_choose_199 : decode cX6_choose 199 = .ok (.iinc 7 (-1), 3) := by decide +kernel
theorem dX6_choose_202 : decode cX6_choose 202 = .ok (.goto (-101), 3) := by decide +kernel
theorem dX6_choose_205 : decode cX6_choose 205 = .ok (.iload 6, 2) := by decide +kernel
theorem dX6_choose_207 : decode cX6_choose 207 = .ok (.ireturn, 1) := by decide +kernel
theorem dX6_choose_208 : decode cX6_choose 208 = .ok (.iinc 6 1, 3) := by decide +kernel
theorem dX6_choose_211 : decode cX6_choose 211 = .ok (.goto (-186), 3) := by decide +kernel
theorem dX6_choose_214 : decode cX6_choose 214 = .ok (.iconst (-1), 1) := by decide +kernel
theorem dX6_choose_215 : decode cX6_choose 215 = .ok (.ireturn, 1) := by decide +kernel
theorem dX6_grow_0 : decode cX6_grow 0 = .ok (.aload_n 0, 1) := by decide +kernel
theorem dX6_grow_1 : decode cX6_grow 1 = .ok (.iconst 0, 1) := by decide +kernel
theorem dX6_grow_2 : decode cX6_grow 2 = .ok (.putfield 157, 3) := by decide +kernel
theorem dX6_grow_5 : decode cX6_grow 5 = .ok (.aload_n 0, 1) := by decide +kernel
theorem dX6_grow_6 : decode cX6_grow 6 = .ok (.iconst 0, 1) := by decide +kernel
theorem dX6_grow_7 : decode cX6_grow 7 = .ok (.putfield 154, 3) := by decide +kernel
theorem dX6_grow_10 : decode cX6_grow 10 = .ok (.aload_n 0, 1) := by decide +kernel
theorem dX6_grow_11 : decode cX6_grow 11 = .ok (.bipush 9, 2) := by decide +kernel
theorem dX6_grow_13 : decode cX6_grow 13 = .ok (.iconst 0, 1) := by decide +kernel
theorem dX6_grow_14 : decode cX6_grow 14 = .ok (.aload_n 0, 1) := by decide +kernel
theorem dX6_grow_15 : decode cX6_grow 15 = .ok (.getfield 160, 3) := by decide +kernel
theorem dX6_grow_18 : decode cX6_grow 18 = .ok (.iconst (-1), 1) := by decide +kernel
theorem dX6_grow_19 : decode cX6_grow 19 = .ok (.iconst 0, 1) := by decide +kernel
theorem dX6_grow_20 : decode cX6_grow 20 = .ok (.invokevirtual 163, 3) := by decide +kernel
theorem dX6_grow_23 : decode cX6_grow 23 = .ok (.aload_n 0, 1) := by decide +kernel
theorem dX6_grow_24 : decode cX6_grow 24 = .ok (.getfield 154, 3) := by decide +kernel
theorem dX6_grow_27 : decode cX6_grow 27 = .ok (.ifCond .le 306, 3) := by decide +kernel
theorem dX6_grow_30 : decode cX6_grow 30 = .ok (.aload_n 0, 1) := by decide +kernel
theorem dX6_grow_31 : decode cX6_grow 31 = .ok (.getfield 157, 3) := by decide +kernel
theorem dX6_grow_34 : decode cX6_grow 34 = .ok (.sipush 150, 3) := by decide +kernel
theorem dX6_grow_37 : decode cX6_grow 37 = .ok (.if_icmp .ne 5, 3) := by decide +kernel
theorem dX6_grow_40 : decode cX6_grow 40 = .ok (.iconst 0, 1) := by decide +kernel
theorem dX6_grow_41 : decode cX6_grow 41 = .ok (.ireturn, 1) := by decide +kernel
theorem dX6_grow_42 : decode cX6_grow 42 = .ok (.aload_n 0, 1) := by decide +kernel
theorem dX6_grow_43 : decode cX6_grow 43 = .ok (.dup, 1) := by decide +kernel
theorem dX6_grow_44 : decode cX6_grow 44 = .ok (.getfield 154, 3) := by decide +kernel
theorem dX6_grow_47 : decode cX6_grow 47 = .ok (.iconst 1, 1) := by decide +kernel
theorem dX6_grow_48 : decode cX6_grow 48 = .ok (.isub, 1) := by decide +kernel
theorem dX6_grow_49 : decode cX6_grow 49 = .ok (.putfield 154, 3) := by decide +kernel
theorem dX6_grow_52 : decode cX6_grow 52 = .ok (.iconst 5, 1) := by decide +kernel
theorem dX6_grow_53 : decode cX6_grow 53 = .ok (.aload_n 0, 1) := by decide +kernel
theorem dX6_grow_54 : decode cX6_grow 54 = .ok (.getfield 154, 3) := by decide +kernel
theorem dX6_grow_57 : decode cX6_grow 57 = .ok (.imul, 1) := by decide +kernel
theorem dX6_grow_58 : decode cX6_grow 58 = .ok (.istore_n 1, 1) := by decide +kernel
theorem dX6_grow_59 : decode cX6_grow 59 = .ok (.aload_n 0, 1) := by decide +kernel
theorem dX6_grow_60 : decode cX6_grow 60 = .ok (.getfield 84, 3) := by decide +kernel
theorem dX6_grow_63 : decode cX6_grow 63 = .ok (.iload_n 1, 1) := by decide +kernel
theorem dX6_grow_64 : decode cX6_grow 64 = .ok (.iaload, 1) := by decide +kernel
theorem dX6_grow_65 : decode cX6_grow 65 = .ok (.istore_n 2, 1) := by decide +kernel
theorem dX6_grow_66 : decode cX6_grow 66 = .ok (.aload_n 0, 1) := by decide +kernel
theorem dX6_grow_67 : decode cX6_grow 67 = .ok (.getfield 157, 3) := by decide +kernel
theorem dX6_grow_70 : decode cX6_grow 70 = .ok (.istore_n 3, 1) := by decide +kernel
theorem dX6_grow_71 : decode cX6_grow 71 = .ok (.aload_n 0, 1) := by decide +kernel
theorem dX6_grow_72 : decode cX6_grow 72 = .ok (.getfield 63, 3) := by decide +kernel
theorem dX6_grow_75 : decode cX6_grow 75 = .ok (.iload_n 3, 1) := by decide +kernel
theorem dX6_grow_76 : decode cX6_grow 76 = .ok (.iload_n 2, 1) := by decide +kernel
theorem dX6_grow_77 : decode cX6_grow 77 = .ok (.iastore, 1) := by decide +kernel
theorem dX6_grow_78 : decode cX6_grow 78 = .ok (.aload_n 0, 1) := by decide +kernel
theorem dX6_grow_79 : decode cX6_grow 79 = .ok (.getfield 72, 3) := by decide +kernel
theorem dX6_grow_82 : decode cX6_grow 82 = .ok (.iload_n 3, 1) := by decide +kernel
theorem dX6_grow_83 : decode cX6_grow 83 = .ok (.aload_n 0, 1) := by decide +kernel
theorem dX6_grow_84 : decode cX6_grow 84 = .ok (.getfield 84, 3) := by decide +kernel
theorem dX6_grow_87 : decode cX6_grow 87 = .ok (.iload_n 1, 1) := by decide +kernel
theorem dX6_grow_88 : decode cX6_grow 88 = .ok (.iconst 1, 1) := by decide +kernel
theorem dX6_grow_89 : decode cX6_grow 89 = .ok (.iadd, 1) := by decide +kernel
theorem dX6_grow_90 : decode cX6_grow 90 = .ok (.iaload, 1) := by decide +kernel
theorem dX6_grow_91 : decode cX6_grow 91 = .ok (.iastore, 1) := by decide +kernel
theorem dX6_grow_92 : decode cX6_grow 92 = .ok (.aload_n 0, 1) := by decide +kernel
theorem dX6_grow_93 : decode cX6_grow 93 = .ok (.getfield 75, 3) := by decide +kernel
theorem dX6_grow_96 : decode cX6_grow 96 = .ok (.iload_n 3, 1) := by decide +kernel
theorem dX6_grow_97 : decode cX6_grow 97 = .ok (.aload_n 0, 1) := by decide +kernel
theorem dX6_grow_98 : decode cX6_grow 98 = .ok (.getfield 84, 3) := by decide +kernel
theorem dX6_grow_101 : decode cX6_grow 101 = .ok (.iload_n 1, 1) := by decide +kernel
theorem dX6_grow_102 : decode cX6_grow 102 = .ok (.iconst 2, 1) := by decide +kernel
theorem dX6_grow_103 : decode cX6_grow 103 = .ok (.iadd, 1) := by decide +kernel
theorem dX6_grow_104 : decode cX6_grow 104 = .ok (.iaload, 1) := by decide +kernel
theorem dX6_grow_105 : decode cX6_grow 105 = .ok (.iastore, 1) := by decide +kernel
theorem dX6_grow_106 : decode cX6_grow 106 = .ok (.aload_n 0, 1) := by decide +kernel
theorem dX6_grow_107 : decode cX6_grow 107 = .ok (.getfield 66, 3) := by decide +kernel
theorem dX6_grow_110 : decode cX6_grow 110 = .ok (.iload_n 3, 1) := by decide +kernel
theorem dX6_grow_111 : decode cX6_grow 111 = .ok (.aload_n 0, 1) := by decide +kernel
theorem dX6_grow_112 : decode cX6_grow 112 = .ok (.getfield 84, 3) := by decide +kernel
theorem dX6_grow_115 : decode cX6_grow 115 = .ok (.iload_n 1, 1) := by decide +kernel
theorem dX6_grow_116 : decode cX6_grow 116 = .ok (.iconst 3, 1) := by decide +kernel
theorem dX6_grow_117 : decode cX6_grow 117 = .ok (.iadd, 1) := by decide +kernel
theorem dX6_grow_118 : decode cX6_grow 118 = .ok (.iaload, 1) := by decide +kernel
theorem dX6_grow_119 : decode cX6_grow 119 = .ok (.iastore, 1) := by decide +kernel
theorem dX6_grow_120 : decode cX6_grow 120 = .ok (.aload_n 0, 1) := by decide +kernel
theorem dX6_grow_121 : decode cX6_grow 121 = .ok (.getfield 69, 3) := by decide +kernel
theorem dX6_grow_124 : decode cX6_grow 124 = .ok (.iload_n 3, 1) := by decide +kernel
theorem dX6_grow_125 : decode cX6_grow 125 = .ok (.aload_n 0, 1) := by decide +kernel
theorem dX6_grow_126 : decode cX6_grow 126 = .ok (.getfield 84, 3) := by decide +kernel
theorem dX6_grow_129 : decode cX6_grow 129 = .ok (.iload_n 1, 1) := by decide +kernel
theorem dX6_grow_130 : decode cX6_grow 130 = .ok (.iconst 4, 1) := by decide +kernel
theorem dX6_grow_131 : decode cX6_grow 131 = .ok (.iadd, 1) := by decide +kernel
theorem dX6_grow_132 : decode cX6_grow 132 = .ok (.iaload, 1) := by decide +kernel
theorem dX6_grow_133 : decode cX6_grow 133 = .ok (.iastore, 1) := by decide +kernel
theorem dX6_grow_134 : decode cX6_grow 134 = .ok (.aload_n 0, 1) := by decide +kernel
theorem dX6_grow_135 : decode cX6_grow 135 = .ok (.getfield 78, 3) := by decide +kernel
theorem dX6_grow_138 : decode cX6_grow 138 = .ok (.iload_n 3, 1) := by decide +kernel
theorem dX6_grow_139 : decode cX6_grow 139 = .ok (.aload_n 0, 1) := by decide +kernel
theorem dX6_grow_140 : decode cX6_grow 140 = .ok (.iload_n 2, 1) := by decide +kernel
theorem dX6_grow_141 : decode cX6_grow 141 = .ok (.aload_n 0, 1) := by decide +kernel
theorem dX6_grow_142 : decode cX6_grow 142 = .ok (.getfield 72, 3) := by decide +kernel
theorem dX6_grow_145 : decode cX6_grow 145 = .ok (.iload_n 3, 1) := by decide +kernel
theorem dX6_grow_146 : decode cX6_grow 146 = .ok (.iaload, 1) := by decide +kernel
theorem dX6_grow_147 : decode cX6_grow 147 = .ok (.aload_n 0, 1) := by decide +kernel
theorem dX6_grow_148 : decode cX6_grow 148 = .ok (.getfield 75, 3) := by decide +kernel
theorem dX6_grow_151 : decode cX6_grow 151 = .ok (.iload_n 3, 1) := by decide +kernel
theorem dX6_grow_152 : decode cX6_grow 152 = .ok (.iaload, 1) := by decide +kernel
theorem dX6_grow_153 : decode cX6_grow 153 = .ok (.invokevirtual 142, 3) := by decide +kernel
theorem dX6_grow_156 : decode cX6_grow 156 = .ok (.bipush 24, 2) := by decide +kernel
theorem dX6_grow_158 : decode cX6_grow 158 = .ok (.lshr, 1) := by decide +kernel
theorem dX6_grow_159 : decode cX6_grow 159 = .ok (.l2i, 1) := by decide +kernel
theorem dX6_grow_160 : decode cX6_grow 160 = .ok (.iastore, 1) := by decide +kernel
theorem dX6_grow_161 : decode cX6_grow 161 = .ok (.aload_n 0, 1) := by decide +kernel
theorem dX6_grow_162 : decode cX6_grow 162 = .ok (.getfield 81, 3) := by decide +kernel
theorem dX6_grow_165 : decode cX6_grow 165 = .ok (.iload_n 3, 1) := by decide +kernel
theorem dX6_grow_166 : decode cX6_grow 166 = .ok (.aload_n 0, 1) := by decide +kernel
theorem dX6_grow_167 : decode cX6_grow 167 = .ok (.getfield 66, 3) := by decide +kernel
theorem dX6_grow_170 : decode cX6_grow 170 = .ok (.iload_n 3, 1) := by decide +kernel
theorem dX6_grow_171 : decode cX6_grow 171 = .ok (.iaload, 1) := by decide +kernel
theorem dX6_grow_172 : decode cX6_grow 172 = .ok (.ifCond .ge 7, 3) := by decide +kernel
theorem dX6_grow_175 : decode cX6_grow 175 = .ok (.iconst 0, 1) := by decide +kernel
theorem dX6_grow_176 : decode cX6_grow 176 = .ok (.goto 16, 3) := by decide +kernel
theorem dX6_grow_179 : decode cX6_grow 179 = .ok (.aload_n 0, 1) := by decide +kernel
theorem dX6_grow_180 : decode cX6_grow 180 = .ok (.getfield 81, 3) := by decide +kernel
theorem dX6_grow_183 : decode cX6_grow 183 = .ok (.aload_n 0, 1) := by decide +kernel
theorem dX6_grow_184 : decode cX6_grow 184 = .ok (.getfield 66, 3) := by decide +kernel
theorem dX6_grow_187 : decode cX6_grow 187 = .ok (.iload_n 3, 1) := by decide +kernel
theorem dX6_grow_188 : decode cX6_grow 188 = .ok (.iaload, 1) := by decide +kernel
theorem dX6_grow_189 : decode cX6_grow 189 = .ok (.iaload, 1) := by decide +kernel
theorem dX6_grow_190 : decode cX6_grow 190 = .ok (.iconst 1, 1) := by decide +kernel
theorem dX6_grow_191 : decode cX6_grow 191 = .ok (.iadd, 1) := by decide +kernel
theorem dX6_grow_192 : decode cX6_grow 192 = .ok (.iastore, 1) := by decide +kernel
theorem dX6_grow_193 : decode cX6_grow 193 = .ok (.iload_n 2, 1) := by decide +kernel
theorem dX6_grow_194 : decode cX6_grow 194 = .ok (.bipush 8, 2) := by decide +kernel
theorem dX6_grow_196 : decode cX6_grow 196 = .ok (.if_icmp .le 16, 3) := by decide +kernel
theorem dX6_grow_199 : decode cX6_grow 199 = .ok (.aload_n 0, 1) := by decide +kernel
theorem dX6_grow_200 : decode cX6_grow 200 = .ok (.getfield 81, 3) := by decide +kernel
theorem dX6_grow_203 : decode cX6_grow 203 = .ok (.iload_n 3, 1) := by decide +kernel
theorem dX6_grow_204 : decode cX6_grow 204 = .ok (.iaload, 1) := by decide +kernel
theorem dX6_grow_205 : decode cX6_grow 205 = .ok (.bipush 36, 2) := by decide +kernel
theorem dX6_grow_207 : decode cX6_grow 207 = .ok (.if_icmp .le 5, 3) := by decide +kernel
theorem dX6_grow_210 : decode cX6_grow 210 = .ok (.iconst 0, 1) := by decide +kernel
theorem dX6_grow_211 : decode cX6_grow 211 = .ok (.ireturn, 1) := by decide +kernel
theorem dX6_grow_212 : decode cX6_grow 212 = .ok (.aload_n 0, 1) := by decide +kernel
theorem dX6_grow_213 : decode cX6_grow 213 = .ok (.getfield 60, 3) := by decide +kernel
theorem dX6_grow_216 : decode cX6_grow 216 = .ok (.iload_n 3, 1) := by decide +kernel
theorem dX6_grow_217 : decode cX6_grow 217 = .ok (.iload_n 2, 1) := by decide +kernel
theorem dX6_grow_218 : decode cX6_grow 218 = .ok (.bipush 9, 2) := by decide +kernel
theorem dX6_grow_220 : decode cX6_grow 220 = .ok (.if_icmp .ge 7, 3) := by decide +kernel
theorem dX6_grow_223 : decode cX6_grow 223 = .ok (.iconst (-1), 1) := by decide +kernel
theorem dX6_grow_224 : decode cX6_grow 224 = .ok (.goto 20, 3) := by decide +kernel
theorem dX6_grow_227 : decode cX6_grow 227 = .ok (.aload_n 0, 1) := by decide +kernel
theorem dX6_grow_228 : decode cX6_grow 228 = .ok (.iload_n 2, 1) := by decide +kernel
theorem dX6_grow_229 : decode cX6_grow 229 = .ok (.aload_n 0, 1) := by decide +kernel
theorem dX6_grow_230 : decode cX6_grow 230 = .ok (.getfield 72, 3) := by decide +kernel
theorem dX6_grow_233 : decode cX6_grow 233 = .ok (.iload_n 3, 1) := by decide +kernel
theorem dX6_grow_234 : decode cX6_grow 234 = .ok (.iaload, 1) := by decide +kernel
theorem dX6_grow_235 : decode cX6_grow 235 = .ok (.aload_n 0, 1) := by decide +kernel
theorem dX6_grow_236 : decode cX6_grow 236 = .ok (.getfield 75, 3) := by decide +kernel
theorem dX6_grow_239 : decode cX6_grow 239 = .ok (.iload_n 3, 1) := by decide +kernel
theorem dX6_grow_240 : decode cX6_grow 240 = .ok (.iaload, 1) := by decide +kernel
theorem dX6_grow_241 : decode cX6_grow 241 = .ok (.invokevirtual 167, 3) := by decide +kernel
theorem dX6_grow_244 : decode cX6_grow 244 = .ok (.iastore, 1) := by decide +kernel
theorem dX6_grow_245 : decode cX6_grow 245 = .ok (.aload_n 0, 1) := by decide +kernel
theorem dX6_grow_246 : decode cX6_grow 246 = .ok (.dup, 1) := by decide +kernel
theorem dX6_grow_247 : decode cX6_grow 247 = .ok (.getfield 157, 3) := by decide +kernel
theorem dX6_grow_250 : decode cX6_grow 250 = .ok (.iconst 1, 1) := by decide +kernel
theorem dX6_grow_251 : decode cX6_grow 251 = .ok (.iadd, 1) := by decide +kernel
theorem dX6_grow_252 : decode cX6_grow 252 = .ok (.putfield 157, 3) := by decide +kernel
theorem dX6_grow_255 : decode cX6_grow 255 = .ok (.iload_n 2, 1) := by decide +kernel
theorem dX6_grow_256 : decode cX6_grow 256 = .ok (.bipush 9, 2) := by decide +kernel
theorem dX6_grow_258 : decode cX6_grow 258 = .ok (.if_icmp .ge 7, 3) := by decide +kernel
theorem dX6_grow_261 : decode cX6_grow 261 = .ok (.iconst (-1), 1) := by decide +kernel
theorem dX6_grow_262 : decode cX6_grow 262 = .ok (.goto 16, 3) := by decide +kernel
theorem dX6_grow_265 : decode cX6_grow 265 = .ok (.aload_n 0, 1) := by decide +kernel
theorem dX6_grow_266 : decode cX6_grow 266 = .ok (.getfield 13, 3) := by decide +kernel
theorem dX6_grow_269 : decode cX6_grow 269 = .ok (.aload_n 0, 1) := by decide +kernel
theorem dX6_grow_270 : decode cX6_grow 270 = .ok (.getfield 60, 3) := by decide +kernel
theorem dX6_grow_273 : decode cX6_grow 273 = .ok (.iload_n 3, 1) := by decide +kernel
theorem dX6_grow_274 : decode cX6_grow 274 = .ok (.iaload, 1) := by decide +kernel
theorem dX6_grow_275 : decode cX6_grow 275 = .ok (.iaload, 1) := by decide +kernel
theorem dX6_grow_276 : decode cX6_grow 276 = .ok (.iconst 1, 1) := by decide +kernel
theorem dX6_grow_277 : decode cX6_grow 277 = .ok (.isub, 1) := by decide +kernel
theorem dX6_grow_278 : decode cX6_grow 278 = .ok (.istore 4, 2) := by decide +kernel
theorem dX6_grow_280 : decode cX6_grow 280 = .ok (.iload 4, 2) := by decide +kernel
theorem dX6_grow_282 : decode cX6_grow 282 = .ok (.ifCond .lt 48, 3) := by decide +kernel
theorem dX6_grow_285 : decode cX6_grow 285 = .ok (.aload_n 0, 1) := by decide +kernel
theorem dX6_grow_286 : decode cX6_grow 286 = .ok (.aload_n 0, 1) := by decide +kernel
theorem dX6_grow_287 : decode cX6_grow 287 = .ok (.getfield 16, 3) := by decide +kernel
theorem dX6_grow_290 : decode cX6_grow 290 = .ok (.iconst 5, 1) := by decide +kernel
theorem dX6_grow_291 : decode cX6_grow 291 = .ok (.aload_n 0, 1) := by decide +kernel
theorem dX6_grow_292 : decode cX6_grow 292 = .ok (.getfield 60, 3) := by decide +kernel
theorem dX6_grow_295 : decode cX6_grow 295 = .ok (.iload_n 3, 1) := by decide +kernel
theorem dX6_grow_296 : decode cX6_grow 296 = .ok (.iaload, 1) := by decide +kernel
theorem dX6_grow_297 : decode cX6_grow 297 = .ok (.imul, 1) := by decide +kernel
theorem dX6_grow_298 : decode cX6_grow 298 = .ok (.iload 4, 2) := by decide +kernel
theorem dX6_grow_300 : decode cX6_grow 300 = .ok (.iadd, 1) := by decide +kernel
theorem dX6_grow_301 : decode cX6_grow 301 = .ok (.iaload, 1) := by decide +kernel
theorem dX6_grow_302 : decode cX6_grow 302 = .ok (.aload_n 0, 1) := by decide +kernel
theorem dX6_grow_303 : decode cX6_grow 303 = .ok (.getfield 57, 3) := by decide +kernel
theorem dX6_grow_306 : decode cX6_grow 306 = .ok (.iload 4, 2) := by decide +kernel
theorem dX6_grow_308 : decode cX6_grow 308 = .ok (.iaload, 1) := by decide +kernel
theorem dX6_grow_309 : decode cX6_grow 309 = .ok (.aload_n 0, 1) := by decide +kernel
theorem dX6_grow_310 : decode cX6_grow 310 = .ok (.getfield 57, 3) := by decide +kernel
theorem dX6_grow_313 : decode cX6_grow 313 = .ok (.iload 4, 2) := by decide +kernel
theorem dX6_grow_315 : decode cX6_grow 315 = .ok (.iconst 1, 1) := by decide +kernel
theorem dX6_grow_316 : decode cX6_grow 316 = .ok (.iadd, 1) := by decide +kernel
theorem dX6_grow_317 : decode cX6_grow 317 = .ok (.iaload, 1) := by decide +kernel
theorem dX6_grow_318 : decode cX6_grow 318 = .ok (.iload_n 3, 1) := by decide +kernel
theorem dX6_grow_319 : decode cX6_grow 319 = .ok (.iload 4, 2) := by decide +kernel
theorem dX6_grow_321 : decode cX6_grow 321 = .ok (.invokevirtual 163, 3) := by decide +kernel
theorem dX6_grow_324 : decode cX6_grow 324 = .ok (.iinc 4 (-1), 3) := by decide +kernel
theorem dX6_grow_327 : decode cX6_grow 327 = .ok (.goto (-47), 3) := by decide +kernel
theorem dX6_grow_330 : decode cX6_grow 330 = .ok (.goto (-307), 3) := by decide +kernel
theorem dX6_grow_333 : decode cX6_grow 333 = .ok (.iconst 1, 1) := by decide +kernel
theorem dX6_grow_334 : decode cX6_grow 334 = .ok (.ireturn, 1) := by decide +kernel
theorem dX6_repair_0 : decode cX6_repair 0 = .ok (.aload_n 0, 1) := by decide +kernel
theorem dX6_repair_1 : decode cX6_repair 1 = .ok (.iconst 0, 1) := by decide +kernel
theorem dX6_repair_2 : decode cX6_repair 2 = .ok (.putfield 102, 3) := by decide +kernel
theorem dX6_repair_5 : decode cX6_repair 5 = .ok (.aload_n 0, 1) := by decide +kernel
theorem dX6_repair_6 : decode cX6_repair 6 = .ok (.iconst 0, 1) := by decide +kernel
theorem dX6_repair_7 : decode cX6_repair 7 = .ok (.putfield 113, 3) := by decide +kernel
theorem dX6_repair_10 : decode cX6_repair 10 = .ok (.aload_n 0, 1) := by decide +kernel
theorem dX6_repair_11 : decode cX6_repair 11 = .ok (.invokevirtual 122, 3) := by decide +kernel
theorem dX6_repair_14 : decode cX6_repair 14 = .ok (.bipush 9, 2) := by decide +kernel
theorem dX6_repair_16 : decode cX6_repair 16 = .ok (.ishr, 1) := by decide +kernel
theorem dX6_repair_17 : decode cX6_repair 17 = .ok (.iconst 1, 1) := by decide +kernel
theorem dX6_repair_18 : decode cX6_repair 18 = .ok (.iand, 1) := by decide +kernel
theorem dX6_repair_19 : decode cX6_repair 19 = .ok (.ifCond .ne 9, 3) := by decide +kernel
theorem dX6_repair_22 : decode cX6_repair 22 = .ok (.aload_n 0, 1) := by decide +kernel
theorem dX6_repair_23 : decode cX6_repair 23 = .ok (.iconst 1, 1) := by decide +kernel
theorem dX6_repair_24 : decode cX6_repair 24 = .ok (.invokevirtual 106, 3) := by decide +kernel
theorem dX6_repair_27 : decode cX6_repair 27 = .ok (.ireturn, 1) := by decide +kernel
theorem dX6_repair_28 : decode cX6_repair 28 = .ok (.aload_n 0, 1) := by decide +kernel
theorem dX6_repair_29 : decode cX6_repair 29 = .ok (.invokevirtual 171, 3) := by decide +kernel
theorem dX6_repair_32 : decode cX6_repair 32 = .ok (.ifCond .ne 9, 3) := by decide +kernel
theorem dX6_repair_35 : decode cX6_repair 35 = .ok (.aload_n 0, 1) := by decide +kernel
theorem dX6_repair_36 : decode cX6_repair 36 = .ok (.iconst 2, 1) := by decide +kernel
theorem dX6_repair_37 : decode cX6_repair 37 = .ok (.invokevirtual 106, 3) := by decide +kernel
theorem dX6_repair_40 : decode cX6_repair 40 = .ok (.ireturn, 1) := by decide +kernel
theorem dX6_repair_41 : decode cX6_repair 41 = .ok (.aload_n 0, 1) := by decide +kernel
theorem dX6_repair_42 : decode cX6_repair 42 = .ok (.invokevirtual 175, 3) := by decide +kernel
theorem dX6_repair_45 : decode cX6_repair 45 = .ok (.aload_n 0, 1) := by decide +kernel
theorem dX6_repair_46 : decode cX6_repair 46 = .ok (.iconst 0, 1) := by decide +kernel
theorem dX6_repair_47 : decode cX6_repair 47 = .ok (.putfield 160, 3) := by decide +kernel
theorem dX6_repair_50 : decode cX6_repair 50 = .ok (.iconst 1, 1) := by decide +kernel
theorem dX6_repair_51 : decode cX6_repair 51 = .ok (.istore_n 1, 1) := by decide +kernel
theorem dX6_repair_52 : decode cX6_repair 52 = .ok (.iload_n 1, 1) := by decide +kernel
theorem dX6_repair_53 : decode cX6_repair 53 = .ok (.aload_n 0, 1) := by decide +kernel
theorem dX6_repair_54 : decode cX6_repair 54 = .ok (.getfield 126, 3) := by decide +kernel
theorem dX6_repair_57 : decode cX6_repair 57 = .ok (.if_icmp .gt 73, 3) := by decide +kernel
theorem dX6_repair_60 : decode cX6_repair 60 = .ok (.aload_n 0, 1) := by decide +kernel
theorem dX6_repair_61 : decode cX6_repair 61 = .ok (.getfield 50, 3) := by decide +kernel
theorem dX6_repair_64 : decode cX6_repair 64 = .ok (.aload_n 0, 1) := by decide +kernel
theorem dX6_repair_65 : decode cX6_repair 65 = .ok (.getfield 160, 3) := by decide +kernel
theorem dX6_repair_68 : decode cX6_repair 68 = .ok (.laload, 1) := by decide +kernel
theorem dX6_repair_69 : decode cX6_repair 69 = .ok (.ldc2_w 140, 3) := by decide +kernel
theorem dX6_repair_72 : decode cX6_repair 72 = .ok (.aload_n 0, 1) := by decide +kernel
theorem dX6_repair_73 : decode cX6_repair 73 = .ok (.getfield 126, 3) := by decide +kernel
theorem dX6_repair_76 : decode cX6_repair 76 = .ok (.aload_n 0, 1) := by decide +kernel
theorem dX6_repair_77 : decode cX6_repair 77 = .ok (.getfield 160, 3) := by decide +kernel
theorem dX6_repair_80 : decode cX6_repair 80 = .ok (.isub, 1) := by decide +kernel
theorem dX6_repair_81 : decode cX6_repair 81 = .ok (.i2l, 1) := by decide +kernel
theorem dX6_repair_82 : decode cX6_repair 82 = .ok (.lmul, 1) := by decide +kernel
theorem dX6_repair_83 : decode cX6_repair 83 = .ok (.ladd, 1) := by decide +kernel
theorem dX6_repair_84 : decode cX6_repair 84 = .ok (.lstore_n 2, 1) := by decide +kernel
theorem dX6_repair_85 : decode cX6_repair 85 = .ok (.aload_n 0, 1) := by decide +kernel
theorem dX6_repair_86 : decode cX6_repair 86 = .ok (.getfield 50, 3) := by decide +kernel
theorem dX6_repair_89 : decode cX6_repair 89 = .ok (.iload_n 1, 1) := by decide +kernel
theorem dX6_repair_90 : decode cX6_repair 90 = .ok (.laload, 1) := by decide +kernel
theorem dX6_repair_91 : decode cX6_repair 91 = .ok (.ldc2_w 140, 3) := by decide +kernel
theorem dX6_repair_94 : decode cX6_repair 94 = .ok (.aload_n 0, 1) := by decide +kernel
theorem dX6_repair_95 : decode cX6_repair 95 = .ok (.getfield 126, 3) := by decide +kernel
theorem dX6_repair_98 : decode cX6_repair 98 = .ok (.iload_n 1, 1) := by decide +kernel
theorem dX6_repair_99 : decode cX6_repair 99 = .ok (.isub, 1) := by decide +kernel
theorem dX6_repair_100 : decode cX6_repair 100 = .ok (.i2l, 1) := by decide +kernel
theorem dX6_repair_101 : decode cX6_repair 101 = .ok (.lmul, 1) := by decide +kernel
theorem dX6_repair_102 : decode cX6_repair 102 = .ok (.ladd, 1) := by decide +kernel
theorem dX6_repair_103 : decode cX6_repair 103 = .ok (.lstore 4, 2) := by decide +kernel
theorem dX6_repair_105 : decode cX6_repair 105 = .ok (.aload_n 0, 1) := by decide +kernel
theorem dX6_repair_106 : decode cX6_repair 106 = .ok (.lload 4, 2) := by decide +kernel
theorem dX6_repair_108 : decode cX6_repair 108 = .ok (.lload_n 2, 1) := by decide +kernel
theorem dX6_repair_109 : decode cX6_repair 109 = .ok (.lcmp, 1) := by decide +kernel
theorem dX6_repair_110 : decode cX6_repair 110 = .ok (.ifCond .gt 7, 3) := by decide +kernel
theorem dX6_repair_113 : decode cX6_repair 113 = .ok (.iload_n 1, 1) := by decide +kernel
theorem dX6_repair_114 : decode cX6_repair 114 = .ok (.goto 7, 3) := by decide +kernel
theorem dX6_repair_117 : decode cX6_repair 117 = .ok (.aload_n 0, 1) := by decide +kernel
theorem dX6_repair_118 : decode cX6_repair 118 = .ok (.getfield 160, 3) := by decide +kernel
theorem dX6_repair_121 : decode cX6_repair 121 = .ok (.putfield 160, 3) := by decide +kernel
theorem dX6_repair_124 : decode cX6_repair 124 = .ok (.iinc 1 1, 3) := by decide +kernel
theorem dX6_repair_127 : decode cX6_repair 127 = .ok (.goto (-75), 3) := by decide +kernel
theorem dX6_repair_130 : decode cX6_repair 130 = .ok (.aload_n 0, 1) := by decide +kernel
theorem dX6_repair_131 : decode cX6_repair 131 = .ok (.invokevirtual 178, 3) := by decide +kernel
theorem dX6_repair_134 : decode cX6_repair 134 = .ok (.ifCond .ne 9, 3) := by decide +kernel
theorem dX6_repair_137 : decode cX6_repair 137 = .ok (.aload_n 0, 1) := by decide +kernel
theorem dX6_repair_138 : decode cX6_repair 138 = .ok (.iconst 2, 1) := by decide +kernel
theorem dX6_repair_139 : decode cX6_repair 139 = .ok (.invokevirtual 106, 3) := by decide +kernel
theorem dX6_repair_142 : decode cX6_repair 142 = .ok (.ireturn, 1) := by decide +kernel
theorem dX6_repair_143 : decode cX6_repair 143 = .ok (.aload_n 0, 1) := by decide +kernel
theorem dX6_repair_144 : decode cX6_repair 144 = .ok (.iconst 1, 1) := by decide +kernel
theorem dX6_repair_145 : decode cX6_repair 145 = .ok (.putfield 113, 3) := by decide +kernel
theorem dX6_repair_148 : decode cX6_repair 148 = .ok (.aload_n 0, 1) := by decide +kernel
theorem dX6_repair_149 : decode cX6_repair 149 = .ok (.getfield 78, 3) := by decide +kernel
theorem dX6_repair_152 : decode cX6_repair 152 = .ok (.iconst 0, 1) := by decide +kernel
theorem dX6_repair_153 : decode cX6_repair 153 = .ok (.iaload, 1) := by decide +kernel
theorem dX6_repair_154 : decode cX6_repair 154 = .ok (.aload_n 0, 1) := by decide +kernel
theorem dX6_repair_155 : decode cX6_repair 155 = .ok (.getfield 126, 3) := by decide +kernel
theorem dX6_repair_158 : decode cX6_repair 158 = .ok (.iadd, 1) := by decide +kernel
theorem dX6_repair_159 : decode cX6_repair 159 = .ok (.aload_n 0, 1) := by decide +kernel
theorem dX6_repair_160 : decode cX6_repair 160 = .ok (.getfield 160, 3) := by decide +kernel
theorem dX6_repair_163 : decode cX6_repair 163 = .ok (.isub, 1) := by decide +kernel
theorem dX6_repair_164 : decode cX6_repair 164 = .ok (.istore_n 1, 1) := by decide +kernel
theorem dX6_repair_165 : decode cX6_repair 165 = .ok (.aload_n 0, 1) := by decide +kernel
theorem dX6_repair_166 : decode cX6_repair 166 = .ok (.dup, 1) := by decide +kernel
theorem dX6_repair_167 : decode cX6_repair 167 = .ok (.getfield 181, 3) := by decide +kernel
theorem dX6_repair_170 : decode cX6_repair 170 = .ok (.iconst 1, 1) := by decide +kernel
theorem dX6_repair_171 : decode cX6_repair 171 = .ok (.iadd, 1) := by decide +kernel
theorem dX6_repair_172 : decode cX6_repair 172 = .ok (.putfield 181, 3) := by decide +kernel
theorem dX6_repair_175 : decode cX6_repair 175 = .ok (.aload_n 0, 1) := by decide +kernel
theorem dX6_repair_176 : decode cX6_repair 176 = .ok (.dup, 1) := by decide +kernel
theorem dX6_repair_177 : decode cX6_repair 177 = .ok (.getfield 184, 3) := by decide +kernel
theorem dX6_repair_180 : decode cX6_repair 180 = .ok (.iload_n 1, 1) := by decide +kernel
theorem dX6_repair_181 : decode cX6_repair 181 = .ok (.iadd, 1) := by decide +kernel
theorem dX6_repair_182 : decode cX6_repair 182 = .ok (.putfield 184, 3) := by decide +kernel
theorem dX6_repair_185 : decode cX6_repair 185 = .ok (.iload_n 1, 1) := by decide +kernel
theorem dX6_repair_186 : decode cX6_repair 186 = .ok (.ireturn, 1) := by decide +kernel
theorem dX6_put_0 : decode cX6_put 0 = .ok (.aload_n 0, 1) := by decide +kernel
theorem dX6_put_1 : decode cX6_put 1 = .ok (.getfield 99, 3) := by decide +kernel
theorem dX6_put_4 : decode cX6_put 4 = .ok (.aload_n 0, 1) := by decide +kernel
theorem dX6_put_5 : decode cX6_put 5 = .ok (.getfield 187, 3) := by decide +kernel
theorem dX6_put_8 : decode cX6_put 8 = .ok (.iload_n 1, 1) := by decide +kernel
theorem dX6_put_9 : decode cX6_put 9 = .ok (.iastore, 1) := by decide +kernel
theorem dX6_put_10 : decode cX6_put 10 = .ok (.aload_n 0, 1) := by decide +kernel
theorem dX6_put_11 : decode cX6_put 11 = .ok (.dup, 1) := by decide +kernel
theorem dX6_put_12 : decode cX6_put 12 = .ok (.getfield 187, 3) := by decide +kernel
theorem dX6_put_15 : decode cX6_put 15 = .ok (.iconst 1, 1) := by decide +kernel
theorem dX6_put_16 : decode cX6_put 16 = .ok (.iadd, 1) := by decide +kernel
theorem dX6_put_17 : decode cX6_put 17 = .ok (.putfield 187, 3) := by decide +kernel
theorem dX6_put_20 : decode cX6_put 20 = .ok (.aload_n 0, 1) := by decide +kernel
theorem dX6_put_21 : decode cX6_put 21 = .ok (.dup, 1) := by decide +kernel
theorem dX6_put_22 : decode cX6_put 22 = .ok (.getfield 190, 3) := by decide +kernel
theorem dX6_put_25 : decode cX6_put 25 = .ok (.iconst 1, 1) := by decide +kernel
theorem dX6_put_26 : decode cX6_put 26 = .ok (.iadd, 1) := by decide +kernel
theorem dX6_put_27 : decode cX6_put 27 = .ok (.putfield 190, 3) := by decide +kernel
theorem dX6_put_30 : decode cX6_put 30 = .ok (.return_, 1) := by decide +kernel
theorem dX6_putTokens_0 : decode cX6_putTokens 0 = .ok (.iconst 0, 1) := by decide +kernel
theorem dX6_putTokens_1 : decode cX6_putTokens 1 = .ok (.istore 4, 2) := by decide +kernel
theorem dX6_putTokens_3 : decode cX6_putTokens 3 = .ok (.iload_n 3, 1) := by decide +kernel
theorem dX6_putTokens_4 : decode cX6_putTokens 4 = .ok (.ifCond .eq 9, 3) := by decide +kernel
theorem dX6_putTokens_7 : decode cX6_putTokens 7 = .ok (.iload_n 2, 1) := by decide +kernel
theorem dX6_putTokens_8 : decode cX6_putTokens 8 = .ok (.iconst 1, 1) := by decide +kernel
theorem dX6_putTokens_9 : decode cX6_putTokens 9 = .ok (.iadd, 1) := by decide +kernel
theorem dX6_putTokens_10 : decode cX6_putTokens 10 = .ok (.goto 4, 3) := by decide +kernel
theorem dX6_putTokens_13 : decode cX6_putTokens 13 = .ok (.iload_n 2, 1) := by decide +kernel
theorem dX6_putTokens_14 : decode cX6_putTokens 14 = .ok (.istore 5, 2) := by decide +kernel
theorem dX6_putTokens_16 : decode cX6_putTokens 16 = .ok (.iload_n 1, 1) := by decide +kernel
theorem dX6_putTokens_17 : decode cX6_putTokens 17 = .ok (.istore 6, 2) := by decide +kernel
theorem dX6_putTokens_19 : decode cX6_putTokens 19 = .ok (.iload 6, 2) := by decide +kernel
theorem dX6_putTokens_21 : decode cX6_putTokens 21 = .ok (.iload 5, 2) := by decide +kernel
theorem dX6_putTokens_23 : decode cX6_putTokens 23 = .ok (.if_icmp .ge 152, 3) := by decide +kernel
theorem dX6_putTokens_26 : decode cX6_putTokens 26 = .ok (.aload_n 0, 1) := by decide +kernel
theorem dX6_putTokens_27 : decode cX6_putTokens 27 = .ok (.getfield 47, 3) := by decide +kernel
theorem dX6_putTokens_30 : decode cX6_putTokens 30 = .ok (.iload 6, 2) := by decide +kernel
theorem dX6_putTokens_32 : decode cX6_putTokens 32 = .ok (.iaload, 1) := by decide +kernel
theorem dX6_putTokens_33 : decode cX6_putTokens 33 = .ok (.istore 7, 2) := by decide +kernel
theorem dX6_putTokens_35 : decode cX6_putTokens 35 = .ok (.iload 7, 2) := by decide +kernel
theorem dX6_putTokens_37 : decode cX6_putTokens 37 = .ok (.aload_n 0, 1) := by decide +kernel
theorem dX6_putTokens_38 : decode cX6_putTokens 38 = .ok (.getfield 47, 3) := by decide +kernel
theorem dX6_putTokens_41 : decode cX6_putTokens 41 = .ok (.iload 6, 2) := by decide +kernel
theorem dX6_putTokens_43 : decode cX6_putTokens 43 = .ok (.iconst 1, 1) := by decide +kernel
theorem dX6_putTokens_44 : decode cX6_putTokens 44 = .ok (.iadd, 1) := by decide +kernel
theorem dX6_putTokens_45 : decode cX6_putTokens 45 = .ok (.iaload, 1) := by decide +kernel
theorem dX6_putTokens_46 : decode cX6_putTokens 46 = .ok (.if_icmp .ge 63, 3) := by decide +kernel
theorem dX6_putTokens_49 : decode cX6_putTokens 49 = .ok (.iload 4, 2) := by decide +kernel
theorem dX6_putTokens_51 : decode cX6_putTokens 51 = .ok (.ifCond .eq 9, 3) := by decide +kernel
theorem dX6_putTokens_54 : decode cX6_putTokens 54 = .ok (.aload_n 0, 1) := by decide +kernel
theorem dX6_putTokens_55 : decode cX6_putTokens 55 = .ok (.bipush 32, 2) := by decide +kernel
theorem dX6_putTokens_57 : decode cX6_putTokens 57 = .ok (.invokevirtual 193, 3) := by decide +kernel
theorem dX6_putTokens_60 : decode cX6_putTokens 60 = .ok (.iconst 0, 1) := by decide +kernel
theorem dX6_putTokens_61 : decode cX6_putTokens 61 = .ok (.istore 8, 2) := by decide +kernel
theorem dX6_putTokens_63 : decode cX6_putTokens 63 = .ok (.iload 8, 2) := by decide +kernel
theorem dX6_putTokens_65 : decode cX6_putTokens 65 = .ok (.aload_n 0, 1) := by decide +kernel
theorem dX6_putTokens_66 : decode cX6_putTokens 66 = .ok (.getfield 44, 3) := by decide +kernel
theorem dX6_putTokens_69 : decode cX6_putTokens 69 = .ok (.iload 7, 2) := by decide +kernel
theorem dX6_putTokens_71 : decode cX6_putTokens 71 = .ok (.iaload, 1) := by decide +kernel
theorem dX6_putTokens_72 : decode cX6_putTokens 72 = .ok (.if_icmp .ge 28, 3) := by decide +kernel
theorem dX6_putTokens_75 : decode cX6_putTokens 75 = .ok (.aload_n 0, 1) := by decide +kernel
theorem dX6_putTokens_76 : decode cX6_putTokens 76 = .ok (.aload_n 0, 1) := by decide +kernel
theorem dX6_putTokens_77 : decode cX6_putTokens 77 = .ok (.getfield 29, 3) := by decide +kernel
theorem dX6_putTokens_80 : decode cX6_putTokens 80 = .ok (.aload_n 0, 1) := by decide +kernel
theorem dX6_putTokens_81 : decode cX6_putTokens 81 = .ok (.getfield 41, 3) := by decide +kernel
theorem dX6_putTokens_84 : decode cX6_putTokens 84 = .ok (.iload 7, 2) := by decide +kernel
theorem dX6_putTokens_86 : decode cX6_putTokens 86 = .ok (.iaload, 1) := by decide +kernel
theorem dX6_putTokens_87 : decode cX6_putTokens 87 = .ok (.iload 8, 2) := by decide +kernel
theorem dX6_putTokens_89 : decode cX6_putTokens 89 = .ok (.iadd, 1) := by decide +kernel
theorem dX6_putTokens_90 : decode cX6_putTokens 90 = .ok (.iaload, 1) := by decide +kernel
theorem dX6_putTokens_91 : decode cX6_putTokens 91 = .ok (.invokevirtual 193, 3) := by decide +kernel
theorem dX6_putTokens_94 : decode cX6_putTokens 94 = .ok (.iinc 8 1, 3) := by decide +kernel
theorem dX6_putTokens_97 : decode cX6_putTokens 97 = .ok (.goto (-34), 3) := by decide +kernel
theorem dX6_putTokens_100 : decode cX6_putTokens 100 = .ok (.iconst 1, 1) := by decide +kernel
theorem dX6_putTokens_101 : decode cX6_putTokens 101 = .ok (.istore 4, 2) := by decide +kernel
theorem dX6_putTokens_103 : decode cX6_putTokens 103 = .ok (.iinc 7 1, 3) := by decide +kernel
theorem dX6_putTokens_106 : decode cX6_putTokens 106 = .ok (.goto (-71), 3) := by decide +kernel
theorem dX6_putTokens_109 : decode cX6_putTokens 109 = .ok (.iload 6, 2) := by decide +kernel
theorem dX6_putTokens_111 : decode cX6_putTokens 111 = .ok (.iload_n 2, 1) := by decide +kernel
theorem dX6_putTokens_112 : decode cX6_putTokens 112 = .ok (.if_icmp .ge 57, 3) := by decide +kernel
theorem dX6_putTokens_115 : decode cX6_putTokens 115 = .ok (.iload 4, 2) := by decide +kernel
theorem dX6_putTokens_117 : decode cX6_putTokens 117 = .ok (.ifCond .eq 9, 3) := by decide +kernel
theorem dX6_putTokens_120 : decode cX6_putTokens 120 = .ok (.aload_n 0, 1) := by decide +kernel
theorem dX6_putTokens_121 : decode cX6_putTokens 121 = .ok (.bipush 32, 2) := by decide +kernel
theorem dX6_putTokens_123 : decode cX6_putTokens 123 = .ok (.invokevirtual 193, 3) := by decide +kernel
theorem dX6_putTokens_126 : decode cX6_putTokens 126 = .ok (.iconst 0, 1) := by decide +kernel
theorem dX6_putTokens_127 : decode cX6_putTokens 127 = .ok (.istore 7, 2) := by decide +kernel
theorem dX6_putTokens_129 : decode cX6_putTokens 129 = .ok (.iload 7, 2) := by decide +kernel
theorem dX6_putTokens_131 : decode cX6_putTokens 131 = .ok (.aload_n 0, 1) := by decide +kernel
theorem dX6_putTokens_132 : decode cX6_putTokens 132 = .ok (.getfield 35, 3) := by decide +kernel
theorem dX6_putTokens_135 : decode cX6_putTokens 135 = .ok (.iload 6, 2) := by decide +kernel
theorem dX6_putTokens_137 : decode cX6_putTokens 137 = .ok (.iaload, 1) := by decide +kernel
theorem dX6_putTokens_138 : decode cX6_putTokens 138 = .ok (.if_icmp .ge 28, 3) := by decide +kernel
theorem dX6_putTokens_141 : decode cX6_putTokens 141 = .ok (.aload_n 0, 1) := by decide +kernel
theorem dX6_putTokens_142 : decode cX6_putTokens 142 = .ok (.aload_n 0, 1) := by decide +kernel
theorem dX6_putTokens_143 : decode cX6_putTokens 143 = .ok (.getfield 29, 3) := by decide +kernel
theorem dX6_putTokens_146 : decode cX6_putTokens 146 = .ok (.aload_n 0, 1) := by decide +kernel
theorem dX6_putTokens_147 : decode cX6_putTokens 147 = .ok (.getfield 32, 3) := by decide +kernel
theorem dX6_putTokens_150 : decode cX6_putTokens 150 = .ok (.iload 6, 2) := by decide +kernel
theorem dX6_putTokens_152 : decode cX6_putTokens 152 = .ok (.iaload, 1) := by decide +kernel
theorem dX6_putTokens_153 : decode cX6_putTokens 153 = .ok (.iload 7, 2) := by decide +kernel
theorem dX6_putTokens_155 : decode cX6_putTokens 155 = .ok (.iadd, 1) := by decide +kernel
theorem dX6_putTokens_156 : decode cX6_putTokens 156 = .ok (.iaload, 1) := by decide +kernel
theorem dX6_putTokens_157 : decode cX6_putTokens 157 = .ok (.invokevirtual 193, 3) := by decide +kernel
theorem dX6_putTokens_160 : decode cX6_putTokens 160 = .ok (.iinc 7 1, 3) := by decide +kernel
theorem dX6_putTokens_163 : decode cX6_putTokens 163 = .ok (.goto (-34), 3) := by decide +kernel
theorem dX6_putTokens_166 : decode cX6_putTokens 166 = .ok (.iconst 1, 1) := by decide +kernel
theorem dX6_putTokens_167 : decode cX6_putTokens 167 = .ok (.istore 4, 2) := by decide +kernel
theorem dX6_putTokens_169 : decode cX6_putTokens 169 = .ok (.iinc 6 1, 3) := by decide +kernel
theorem dX6_putTokens_172 : decode cX6_putTokens 172 = .ok (.goto (-153), 3) := by decide +kernel
theorem dX6_putTokens_175 : decode cX6_putTokens 175 = .ok (.return_, 1) := by decide +kernel
theorem dX6_width_0 : decode cX6_width 0 = .ok (.iconst 0, 1) := by decide +kernel
theorem dX6_width_1 : decode cX6_width 1 = .ok (.istore_n 3, 1) := by decide +kernel
theorem dX6_width_2 : decode cX6_width 2 = .ok (.iload_n 1, 1) := by decide +kernel
theorem dX6_width_3 : decode cX6_width 3 = .ok (.istore 4, 2) := by decide +kernel
theorem dX6_width_5 : decode cX6_width 5 = .ok (.iload 4, 2) := by decide +kernel
theorem dX6_width_7 : decode cX6_width 7 = .ok (.iload_n 2, 1) := by decide +kernel
theorem dX6_width_8 : decode cX6_width 8 = .ok (.if_icmp .ge 62, 3) := by decide +kernel
theorem dX6_width_11 : decode cX6_width 11 = .ok (.aload_n 0, 1) := by decide +kernel
theorem dX6_width_12 : decode cX6_width 12 = .ok (.getfield 47, 3) := by decide +kernel
theorem dX6_width_15 : decode cX6_width 15 = .ok (.iload 4, 2) := by decide +kernel
theorem dX6_width_17 : decode cX6_width 17 = .ok (.iaload, 1) := by decide +kernel
theorem dX6_width_18 : decode cX6_width 18 = .ok (.istore 5, 2) := by decide +kernel
theorem dX6_width_20 : decode cX6_width 20 = .ok (.iload 5, 2) := by decide +kernel
theorem dX6_width_22 : decode cX6_width 22 = .ok (.aload_n 0, 1) := by decide +kernel
theorem dX6_width_23 : decode cX6_width 23 = .ok (.getfield 47, 3) := by decide +kernel
theorem dX6_width_26 : decode cX6_width 26 = .ok (.iload 4, 2) := by decide +kernel
theorem dX6_width_28 : decode cX6_width 28 = .ok (.iconst 1, 1) := by decide +kernel
theorem dX6_width_29 : decode cX6_width 29 = .ok (.iadd, 1) := by decide +kernel
theorem dX6_width_30 : decode cX6_width 30 = .ok (.iaload, 1) := by decide +kernel
theorem dX6_width_31 : decode cX6_width 31 = .ok (.if_icmp .ge 21, 3) := by decide +kernel
theorem dX6_width_34 : decode cX6_width 34 = .ok (.iload_n 3, 1) := by decide +kernel
theorem dX6_width_35 : decode cX6_width 35 = .ok (.aload_n 0, 1) := by decide +kernel
theorem dX6_width_36 : decode cX6_width 36 = .ok (.getfield 44, 3) := by decide +kernel
theorem dX6_width_39 : decode cX6_width 39 = .ok (.iload 5, 2) := by decide +kernel
theorem dX6_width_41 : decode cX6_width 41 = .ok (.iaload, 1) := by decide +kernel
theorem dX6_width_42 : decode cX6_width 42 = .ok (.iconst 1, 1) := by decide +kernel
theorem dX6_width_43 : decode cX6_width 43 = .ok (.iadd, 1) := by decide +kernel
theorem dX6_width_44 : decode cX6_width 44 = .ok (.iadd, 1) := by decide +kernel
theorem dX6_width_45 : decode cX6_width 45 = .ok (.istore_n 3, 1) := by decide +kernel
theorem dX6_width_46 : decode cX6_width 46 = .ok (.iinc 5 1, 3) := by decide +kernel
theorem dX6_width_49 : decode cX6_width 49 = .ok (.goto (-29), 3) := by decide +kernel
theorem dX6_width_52 : decode cX6_width 52 = .ok (.iload_n 3, 1) := by decide +kernel
theorem dX6_width_53 : decode cX6_width 53 = .ok (.aload_n 0, 1) := by decide +kernel
theorem dX6_width_54 : decode cX6_width 54 = .ok (.getfield 35, 3) := by decide +kernel
theorem dX6_width_57 : decode cX6_width 57 = .ok (.iload 4, 2) := by decide +kernel
theorem dX6_width_59 : decode cX6_width 59 = .ok (.iaload, 1) := by decide +kernel
theorem dX6_width_60 : decode cX6_width 60 = .ok (.iconst 1, 1) := by decide +kernel
theorem dX6_width_61 : decode cX6_width 61 = .ok (.iadd, 1) := by decide +kernel
theorem dX6_width_62 : decode cX6_width 62 = .ok (.iadd, 1) := by decide +kernel
theorem dX6_width_63 : decode cX6_width 63 = .ok (.istore_n 3, 1) := by decide +kernel
theorem dX6_width_64 : decode cX6_width 64 = .ok (.iinc 4 1, 3) := by decide +kernel
theorem dX6_width_67 : decode cX6_width 67 = .ok (.goto (-62), 3) := by decide +kernel
theorem dX6_width_70 : decode cX6_width 70 = .ok (.iload_n 3, 1) := by decide +kernel
theorem dX6_width_71 : decode cX6_width 71 = .ok (.ifCond .ne 7, 3) := by decide +kernel
theorem dX6_width_74 : decode cX6_width 74 = .ok (.iconst 0, 1) := by decide +kernel
theorem dX6_width_75 : decode cX6_width 75 = .ok (.goto 6, 3) := by decide +kernel
theorem dX6_width_78 : decode cX6_width 78 = .ok (.iload_n 3, 1) := by decide +kernel
theorem dX6_width_79 : decode cX6_width 79 = .ok (.iconst 1, 1) := by decide +kernel
theorem dX6_width_80 : decode cX6_width 80 = .ok (.isub, 1) := by decide +kernel
theorem dX6_width_81 : decode cX6_width 81 = .ok (.ireturn, 1) := by decide +kernel
theorem dX6_hintOf_0 : decode cX6_hintOf 0 = .ok (.aload_n 0, 1) := by decide +kernel
theorem dX6_hintOf_1 : decode cX6_hintOf 1 = .ok (.getfield 19, 3) := by decide +kernel
theorem dX6_hintOf_4 : decode cX6_hintOf 4 = .ok (.iconst 5, 1) := by decide +kernel
theorem dX6_hintOf_5 : decode cX6_hintOf 5 = .ok (.aload_n 0, 1) := by decide +kernel
theorem dX6_hintOf_6 : decode cX6_hintOf 6 = .ok (.getfield 60, 3) := by decide +kernel
theorem dX6_hintOf_9 : decode cX6_hintOf 9 = .ok (.aload_n 0, 1) := by decide +kernel
theorem dX6_hintOf_10 : decode cX6_hintOf 10 = .ok (.getfield 66, 3) := by decide +kernel
theorem dX6_hintOf_13 : decode cX6_hintOf 13 = .ok (.iload_n 1, 1) := by decide +kernel
theorem dX6_hintOf_14 : decode cX6_hintOf 14 = .ok (.iaload, 1) := by decide +kernel
theorem dX6_hintOf_15 : decode cX6_hintOf 15 = .ok (.iaload, 1) := by decide +kernel
theorem dX6_hintOf_16 : decode cX6_hintOf 16 = .ok (.imul, 1) := by decide +kernel
theorem dX6_hintOf_17 : decode cX6_hintOf 17 = .ok (.aload_n 0, 1) := by decide +kernel
theorem dX6_hintOf_18 : decode cX6_hintOf 18 = .ok (.getfield 69, 3) := by decide +kernel
theorem dX6_hintOf_21 : decode cX6_hintOf 21 = .ok (.iload_n 1, 1) := by decide +kernel
theorem dX6_hintOf_22 : decode cX6_hintOf 22 = .ok (.iaload, 1) := by decide +kernel
theorem dX6_hintOf_23 : decode cX6_hintOf 23 = .ok (.iadd, 1) := by decide +kernel
theorem dX6_hintOf_24 : decode cX6_hintOf 24 = .ok (.iaload, 1) := by decide +kernel
theorem dX6_hintOf_25 : decode cX6_hintOf 25 = .ok (.ireturn, 1) := by decide +kernel
theorem dX6_digit_0 : decode cX6_digit 0 = .ok (.iload_n 0, 1) := by decide +kernel
theorem dX6_digit_1 : decode cX6_digit 1 = .ok (.bipush 48, 2) := by decide +kernel
theorem dX6_digit_3 : decode cX6_digit 3 = .ok (.if_icmp .lt 13, 3) := by decide +kernel
theorem dX6_digit_6 : decode cX6_digit 6 = .ok (.iload_n 0, 1) := by decide +kernel
theorem dX6_digit_7 : decode cX6_digit 7 = .ok (.bipush 57, 2) := by decide +kernel
theorem dX6_digit_9 : decode cX6_digit 9 = .ok (.if_icmp .gt 7, 3) := by decide +kernel
theorem dX6_digit_12 : decode cX6_digit 12 = .ok (.iconst 1, 1) := by decide +kernel
theorem dX6_digit_13 : decode cX6_digit 13 = .ok (.goto 4, 3) := by decide +kernel
theorem dX6_digit_16 : decode cX6_digit 16 = .ok (.iconst 0, 1) := by decide +kernel
theorem dX6_digit_17 : decode cX6_digit 17 = .ok (.ireturn, 1) := by decide +kernel
theorem dX6_measure_0 : decode cX6_measure 0 = .ok (.aload_n 0, 1) := by decide +kernel
theorem dX6_measure_1 : decode cX6_measure 1 = .ok (.getfield 157, 3) := by decide +kernel
theorem dX6_measure_4 : decode cX6_measure 4 = .ok (.iconst 1, 1) := by decide +kernel
theorem dX6_measure_5 : decode cX6_measure 5 = .ok (.isub, 1) := by decide +kernel
theorem dX6_measure_6 : decode cX6_measure 6 = .ok (.istore_n 1, 1) := by decide +kernel
theorem dX6_measure_7 : decode cX6_measure 7 = .ok (.iload_n 1, 1) := by decide +kernel
theorem dX6_measure_8 : decode cX6_measure 8 = .ok (.ifCond .lt 274, 3) := by decide +kernel
theorem dX6_measure_11 : decode cX6_measure 11 = .ok (.aload_n 0, 1) := by decide +kernel
theorem dX6_measure_12 : decode cX6_measure 12 = .ok (.getfield 93, 3) := by decide +kernel
theorem dX6_measure_15 : decode cX6_measure 15 = .ok (.iload_n 1, 1) := by decide +kernel
theorem dX6_measure_16 : decode cX6_measure 16 = .ok (.iconst 0, 1) := by decide +kernel
theorem dX6_measure_17 : decode cX6_measure 17 = .ok (.bastore, 1) := by decide +kernel
theorem dX6_measure_18 : decode cX6_measure 18 = .ok (.aload_n 0, 1) := by decide +kernel
theorem dX6_measure_19 : decode cX6_measure 19 = .ok (.getfield 96, 3) := by decide +kernel
theorem dX6_measure_22 : decode cX6_measure 22 = .ok (.iload_n 1, 1) := by decide +kernel
theorem dX6_measure_23 : decode cX6_measure 23 = .ok (.iconst 0, 1) := by decide +kernel
theorem dX6_measure_24 : decode cX6_measure 24 = .ok (.bastore, 1) := by decide +kernel
theorem dX6_measure_25 : decode cX6_measure 25 = .ok (.aload_n 0, 1) := by decide +kernel
theorem dX6_measure_26 : decode cX6_measure 26 = .ok (.getfield 90, 3) := by decide +kernel
theorem dX6_measure_29 : decode cX6_measure 29 = .ok (.iload_n 1, 1) := by decide +kernel
theorem dX6_measure_30 : decode cX6_measure 30 = .ok (.iconst (-1), 1) := by decide +kernel
theorem dX6_measure_31 : decode cX6_measure 31 = .ok (.iastore, 1) := by decide +kernel
theorem dX6_measure_32 : decode cX6_measure 32 = .ok (.aload_n 0, 1) := by decide +kernel
theorem dX6_measure_33 : decode cX6_measure 33 = .ok (.getfield 87, 3) := by decide +kernel
theorem dX6_measure_36 : decode cX6_measure 36 = .ok (.iload_n 1, 1) := by decide +kernel
theorem dX6_measure_37 : decode cX6_measure 37 = .ok (.iconst 0, 1) := by decide +kernel
theorem dX6_measure_38 : decode cX6_measure 38 = .ok (.iastore, 1) := by decide +kernel
theorem dX6_measure_39 : decode cX6_measure 39 = .ok (.aload_n 0, 1) := by decide +kernel
theorem dX6_measure_40 : decode cX6_measure 40 = .ok (.getfield 63, 3) := by decide +kernel
theorem dX6_measure_43 : decode cX6_measure 43 = .ok (.iload_n 1, 1) := by decide +kernel
theorem dX6_measure_44 : decode cX6_measure 44 = .ok (.iaload, 1) := by decide +kernel
theorem dX6_measure_45 : decode cX6_measure 45 = .ok (.bipush 9, 2) := by decide +kernel
theorem dX6_measure_47 : decode cX6_measure 47 = .ok (.if_icmp .ge 91, 3) := by decide +kernel
theorem dX6_measure_50 : decode cX6_measure 50 = .ok (.aload_n 0, 1) := by decide +kernel
theorem dX6_measure_51 : decode cX6_measure 51 = .ok (.getfield 75, 3) := by decide +kernel
theorem dX6_measure_54 : decode cX6_measure 54 = .ok (.iload_n 1, 1) := by decide +kernel
theorem dX6_measure_55 : decode cX6_measure 55 = .ok (.iaload, 1) := by decide +kernel
theorem dX6_measure_56 : decode cX6_measure 56 = .ok (.aload_n 0, 1) := by decide +kernel
theorem dX6_measure_57 : decode cX6_measure 57 = .ok (.getfield 72, 3) := by decide +kernel
theorem dX6_measure_60 : decode cX6_measure 60 = .ok (.iload_n 1, 1) := by decide +kernel
theorem dX6_measure_61 : decode cX6_measure 61 = .ok (.iaload, 1) := by decide +kernel
theorem dX6_measure_62 : decode cX6_measure 62 = .ok (.if_icmp .le 76, 3) := by decide +kernel
theorem dX6_measure_65 : decode cX6_measure 65 = .ok (.aload_n 0, 1) := by decide +kernel
theorem dX6_measure_66 : decode cX6_measure 66 = .ok (.getfield 72, 3) := by decide +kernel
theorem dX6_measure_69 : decode cX6_measure 69 = .ok (.iload_n 1, 1) := by decide +kernel
theorem dX6_measure_70 : decode cX6_measure 70 = .ok (.iaload, 1) := by decide +kernel
theorem dX6_measure_71 : decode cX6_measure 71 = .ok (.istore_n 2, 1) := by decide +kernel
theorem dX6_measure_72 : decode cX6_measure 72 = .ok (.aload_n 0, 1) := by decide +kernel
theorem dX6_measure_73 : decode cX6_measure 73 = .ok (.getfield 47, 3) := by decide +kernel
theorem dX6_measure_76 : decode cX6_measure 76 = .ok (.iload_n 2, 1) := by decide +kernel
theorem dX6_measure_77 : decode cX6_measure 77 = .ok (.iaload, 1) := by decide +kernel
theorem dX6_measure_78 : decode cX6_measure 78 = .ok (.aload_n 0, 1) := by decide +kernel
theorem dX6_measure_79 : decode cX6_measure 79 = .ok (.getfield 47, 3) := by decide +kernel
theorem dX6_measure_82 : decode cX6_measure 82 = .ok (.iload_n 2, 1) := by decide +kernel
theorem dX6_measure_83 : decode cX6_measure 83 = .ok (.iconst 1, 1) := by decide +kernel
theorem dX6_measure_84 : decode cX6_measure 84 = .ok (.iadd, 1) := by decide +kernel
theorem dX6_measure_85 : decode cX6_measure 85 = .ok (.iaload, 1) := by decide +kernel
theorem dX6_measure_86 : decode cX6_measure 86 = .ok (.if_icmp .ge 7, 3) := by decide +kernel
theorem dX6_measure_89 : decode cX6_measure 89 = .ok (.iconst 1, 1) := by decide +kernel
theorem dX6_measure_90 : decode cX6_measure 90 = .ok (.goto 4, 3) := by decide +kernel
theorem dX6_measure_93 : decode cX6_measure 93 = .ok (.iconst 0, 1) := by decide +kernel
theorem dX6_measure_94 : decode cX6_measure 94 = .ok (.istore_n 3, 1) := by decide +kernel
theorem dX6_measure_95 : decode cX6_measure 95 = .ok (.aload_n 0, 1) := by decide +kernel
theorem dX6_measure_96 : decode cX6_measure 96 = .ok (.getfield 90, 3) := by decide +kernel
theorem dX6_measure_99 : decode cX6_measure 99 = .ok (.iload_n 1, 1) := by decide +kernel
theorem dX6_measure_100 : decode cX6_measure 100 = .ok (.iload_n 3, 1) := by decide +kernel
theorem dX6_measure_101 : decode cX6_measure 101 = .ok (.ifCond .eq 8, 3) := by decide +kernel
theorem dX6_measure_104 : decode cX6_measure 104 = .ok (.bipush 123, 2) := by decide +kernel
theorem dX6_measure_106 : decode cX6_measure 106 = .ok (.goto 14, 3) := by decide +kernel
theorem dX6_measure_109 : decode cX6_measure 109 = .ok (.aload_n 0, 1) := by decide +kernel
theorem dX6_measure_110 : decode cX6_measure 110 = .ok (.getfield 29, 3) := by decide +kernel
theorem dX6_measure_113 : decode cX6_measure 113 = .ok (.aload_n 0, 1) := by decide +kernel
theorem dX6_measure_114 : decode cX6_measure 114 = .ok (.getfield 32, 3) := by decide +kernel
theorem dX6_measure_117 : decode cX6_measure 117 = .ok (.iload_n 2, 1) := by decide +kernel
theorem dX6_measure_118 : decode cX6_measure 118 = .ok (.iaload, 1) := by decide +kernel
theorem dX6_measure_119 : decode cX6_measure 119 = .ok (.iaload, 1) := by decide +kernel
theorem dX6_measure_120 : decode cX6_measure 120 = .ok (.iastore, 1) := by decide +kernel
theorem dX6_measure_121 : decode cX6_measure 121 = .ok (.aload_n 0, 1) := by decide +kernel
theorem dX6_measure_122 : decode cX6_measure 122 = .ok (.getfield 87, 3) := by decide +kernel
theorem dX6_measure_125 : decode cX6_measure 125 = .ok (.iload_n 1, 1) := by decide +kernel
theorem dX6_measure_126 : decode cX6_measure 126 = .ok (.aload_n 0, 1) := by decide +kernel
theorem dX6_measure_127 : decode cX6_measure 127 = .ok (.iload_n 2, 1) := by decide +kernel
theorem dX6_measure_128 : decode cX6_measure 128 = .ok (.aload_n 0, 1) := by decide +kernel
theorem dX6_measure_129 : decode cX6_measure 129 = .ok (.getfield 75, 3) := by decide +kernel
theorem dX6_measure_132 : decode cX6_measure 132 = .ok (.iload_n 1, 1) := by decide +kernel
theorem dX6_measure_133 : decode cX6_measure 133 = .ok (.iaload, 1) := by decide +kernel
theorem dX6_measure_134 : decode cX6_measure 134 = .ok (.invokevirtual 197, 3) := by decide +kernel
theorem dX6_measure_137 : decode cX6_measure 137 = .ok (.iastore, 1) := by decide +kernel
theorem dX6_measure_138 : decode cX6_measure 138 = .ok (.iload_n 1, 1) := by decide +kernel
theorem dX6_measure_139 : decode cX6_measure 139 = .ok (.iconst 1, 1) := by decide +kernel
theorem dX6_measure_140 : decode cX6_measure 140 = .ok (.iadd, 1) := by decide +kernel
theorem dX6_measure_141 : decode cX6_measure 141 = .ok (.istore_n 2, 1) := by decide +kernel
theorem dX6_measure_142 : decode cX6_measure 142 = .ok (.iload_n 2, 1) := by decide +kernel
theorem dX6_measure_143 : decode cX6_measure 143 = .ok (.aload_n 0, 1) := by decide +kernel
theorem dX6_measure_144 : decode cX6_measure 144 = .ok (.getfield 157, 3) := by decide +kernel
theorem dX6_measure_147 : decode cX6_measure 147 = .ok (.if_icmp .ge 129, 3) := by decide +kernel
theorem dX6_measure_150 : decode cX6_measure 150 = .ok (.aload_n 0, 1) := by decide +kernel
theorem dX6_measure_151 : decode cX6_measure 151 = .ok (.getfield 63, 3) := by decide +kernel
theorem dX6_measure_154 : decode cX6_measure 154 = .ok (.iload_n 1, 1) := by decide +kernel
theorem dX6_measure_155 : decode cX6_measure 155 = .ok (.iaload, 1) := by decide +kernel
theorem dX6_measure_156 : decode cX6_measure 156 = .ok (.bipush 8, 2) := by decide +kernel
theorem dX6_measure_158 : decode cX6_measure 158 = .ok (.if_icmp .le 118, 3) := by decide +kernel
theorem dX6_measure_161 : decode cX6_measure 161 = .ok (.aload_n 0, 1) := by decide +kernel
theorem dX6_measure_162 : decode cX6_measure 162 = .ok (.getfield 66, 3) := by decide +kernel
theorem dX6_measure_165 : decode cX6_measure 165 = .ok (.iload_n 2, 1) := by decide +kernel
theorem dX6_measure_166 : decode cX6_measure 166 = .ok (.iaload, 1) := by decide +kernel
theorem dX6_measure_167 : decode cX6_measure 167 = .ok (.iload_n 1, 1) := by decide +kernel
theorem dX6_measure_168 : decode cX6_measure 168 = .ok (.if_icmp .ne 102, 3) := by decide +kernel
theorem dX6_measure_171 : decode cX6_measure 171 = .ok (.aload_n 0, 1) := by decide +kernel
theorem dX6_measure_172 : decode cX6_measure 172 = .ok (.getfield 87, 3) := by decide +kernel
theorem dX6_measure_175 : decode cX6_measure 175 = .ok (.iload_n 2, 1) := by decide +kernel
theorem dX6_measure_176 : decode cX6_measure 176 = .ok (.iaload, 1) := by decide +kernel
theorem dX6_measure_177 : decode cX6_measure 177 = .ok (.ifCond .le 93, 3) := by decide +kernel
theorem dX6_measure_180 : decode cX6_measure 180 = .ok (.aload_n 0, 1) := by decide +kernel
theorem dX6_measure_181 : decode cX6_measure 181 = .ok (.getfield 87, 3) := by decide +kernel
theorem dX6_measure_184 : decode cX6_measure 184 = .ok (.iload_n 1, 1) := by decide +kernel
theorem dX6_measure_185 : decode cX6_measure 185 = .ok (.iaload, 1) := by decide +kernel
theorem dX6_measure_186 : decode cX6_measure 186 = .ok (.ifCond .le 27, 3) := by decide +kernel
theorem dX6_measure_189 : decode cX6_measure 189 = .ok (.aload_n 0, 1) := by decide +kernel
theorem dX6_measure_190 : decode cX6_measure 190 = .ok (.iload_n 2, 1) := by decide +kernel
theorem dX6_measure_191 : decode cX6_measure 191 = .ok (.invokevirtual 201, 3) := by decide +kernel
theorem dX6_measure_194 : decode cX6_measure 194 = .ok (.ifCond .gt 15, 3) := by decide +kernel
theorem dX6_measure_197 : decode cX6_measure 197 = .ok (.aload_n 0, 1) := by decide +kernel
theorem dX6_measure_198 : decode cX6_measure 198 = .ok (.getfield 90, 3) := by decide +kernel
theorem dX6_measure_201 : decode cX6_measure 201 = .ok (.iload_n 2, 1) := by decide +kernel
theorem dX6_measure_202 : decode cX6_measure 202 = .ok (.iaload, 1) := by decide +kernel
theorem dX6_measure_203 : decode cX6_measure 203 = .ok (.invokestatic 204, 3) := by decide +kernel
theorem dX6_measure_206 : decode cX6_measure 206 = .ok (.ifCond .eq 7, 3) := by decide +kernel
theorem dX6_measure_209 : decode cX6_measure 209 = .ok (.iconst 1, 1) := by decide +kernel
theorem dX6_measure_210 : decode cX6_measure 210 = .ok (.goto 4, 3) := by decide +kernel
theorem dX6_measure_213 : decode cX6_measure 213 = .ok (.iconst 0, 1) := by decide +kernel
theorem dX6_measure_214 : decode cX6_measure 214 = .ok (.istore_n 3, 1) := by decide +kernel
theorem dX6_measure_215 : decode cX6_measure 215 = .ok (.aload_n 0, 1) := by decide +kernel
theorem dX6_measure_216 : decode cX6_measure 216 = .ok (.getfield 90, 3) := by decide +kernel
theorem dX6_measure_219 : decode cX6_measure 219 = .ok (.iload_n 1, 1) := by decide +kernel
theorem dX6_measure_220 : decode cX6_measure 220 = .ok (.aload_n 0, 1) := by decide +kernel
theorem dX6_measure_221 : decode cX6_measure 221 = .ok (.getfield 87, 3) := by decide +kernel
theorem dX6_measure_224 : decode cX6_measure 224 = .ok (.iload_n 1, 1) := by decide +kernel
theorem dX6_measure_225 : decode cX6_measure 225 = .ok (.iaload, 1) := by decide +kernel
theorem dX6_measure_226 : decode cX6_measure 226 = .ok (.ifCond .ne 12, 3) := by decide +kernel
theorem dX6_measure_229 : decode cX6_measure 229 = .ok (.aload_n 0, 1) := by decide +kernel
theorem dX6_measure_230 : decode cX6_measure 230 = .ok (.getfield 90, 3) := by decide +kernel
theorem dX6_measure_233 : decode cX6_measure 233 = .ok (.iload_n 2, 1) := by decide +kernel
theorem dX6_measure_234 : decode cX6_measure 234 = .ok (.iaload, 1) := by decide +kernel
theorem dX6_measure_235 : decode cX6_measure 235 = .ok (.goto 9, 3) := by decide +kernel
theorem dX6_measure_238 : decode cX6_measure 238 = .ok (.aload_n 0, 1) := by decide +kernel
theorem dX6_measure_239 : decode cX6_measure 239 = .ok (.getfield 90, 3) := by decide +kernel
theorem dX6_measure_242 : decode cX6_measure 242 = .ok (.iload_n 1, 1) := by decide +kernel
theorem dX6_measure_243 : decode cX6_measure 243 = .ok (.iaload, 1) := by decide +kernel
theorem dX6_measure_244 : decode cX6_measure 244 = .ok (.iastore, 1) := by decide +kernel
theorem dX6_measure_245 : decode cX6_measure 245 = .ok (.aload_n 0, 1) := by decide +kernel
theorem dX6_measure_246 : decode cX6_measure 246 = .ok (.getfield 87, 3) := by decide +kernel
theorem dX6_measure_249 : decode cX6_measure 249 = .ok (.iload_n 1, 1) := by decide +kernel
theorem dX6_measure_250 : decode cX6_measure 250 = .ok (.dup2, 1) := by decide +kernel
theorem dX6_measure_251 : decode cX6_measure 251 = .ok (.iaload, 1) := by decide +kernel
theorem dX6_measure_252 : decode cX6_measure 252 = .ok (.aload_n 0, 1) := by decide +kernel
theorem dX6_measure_253 : decode cX6_measure 253 = .ok (.getfield 87, 3) := by decide +kernel
theorem dX6_measure_256 : decode cX6_measure 256 = .ok (.iload_n 2, 1) := by decide +kernel
theorem dX6_measure_257 : decode cX6_measure 257 = .ok (.iaload, 1) := by decide +kernel
theorem dX6_measure_258 : decode cX6_measure 258 = .ok (.iload_n 3, 1) := by decide +kernel
theorem dX6_measure_259 : decode cX6_measure 259 = .ok (.ifCond .eq 7, 3) := by decide +kernel
theorem dX6_measure_262 : decode cX6_measure 262 = .ok (.iconst 1, 1) := by decide +kernel
theorem dX6_measure_263 : decode cX6_measure 263 = .ok (.goto 4, 3) := by decide +kernel
theorem dX6_measure_266 : decode cX6_measure 266 = .ok (.iconst 0, 1) := by decide +kernel
theorem dX6_measure_267 : decode cX6_measure 267 = .ok (.iadd, 1) := by decide +kernel
theorem dX6_measure_268 : decode cX6_measure 268 = .ok (.iadd, 1) := by decide +kernel
theorem dX6_measure_269 : decode cX6_measure 269 = .ok (.iastore, 1) := by decide +kernel
theorem dX6_measure_270 : decode cX6_measure 270 = .ok (.iinc 2 1, 3) := by decide +kernel
theorem dX6_measure_273 : decode cX6_measure 273 = .ok (.goto (-131), 3) := by decide +kernel
theorem dX6_measure_276 : decode cX6_measure 276 = .ok (.iinc 1 (-1), 3) := by decide +kernel
theorem dX6_measure_279 : decode cX6_measure 279 = .ok (.goto (-272), 3) := by decide +kernel
theorem dX6_measure_282 : decode cX6_measure 282 = .ok (.return_, 1) := by decide +kernel
theorem dX6_joint_0 : decode cX6_joint 0 = .ok (.iload_n 1, 1) := by decide +kernel
theorem dX6_joint_1 : decode cX6_joint 1 = .ok (.istore_n 2, 1) := by decide +kernel
theorem dX6_joint_2 : decode cX6_joint 2 = .ok (.aload_n 0, 1) := by decide +kernel
theorem dX6_joint_3 : decode cX6_joint 3 = .ok (.getfield 66, 3) := by decide +kernel
theorem dX6_joint_6 : decode cX6_joint 6 = .ok (.iload_n 2, 1) := by decide +kernel
theorem dX6_joint_7 : decode cX6_joint 7 = .ok (.iaload, 1) := by decide +kernel
theorem dX6_joint_8 : decode cX6_joint 8 = .ok (.ifCond .lt 27, 3) := by decide +kernel
theorem dX6_joint_11 : decode cX6_joint 11 = .ok (.aload_n 0, 1) := by decide +kernel
theorem dX6_joint_12 : decode cX6_joint 12 = .ok (.getfield 93, 3) := by decide +kernel
theorem dX6_joint_15 : decode cX6_joint 15 = .ok (.aload_n 0, 1) := by decide +kernel
theorem dX6_joint_16 : decode cX6_joint 16 = .ok (.getfield 66, 3) := by decide +kernel
theorem dX6_joint_19 : decode cX6_joint 19 = .ok (.iload_n 2, 1) := by decide +kernel
theorem dX6_joint_20 : decode cX6_joint 20 = .ok (.iaload, 1) := by decide +kernel
theorem dX6_joint_21 : decode cX6_joint 21 = .ok (.baload, 1) := by decide +kernel
theorem dX6_joint_22 : decode cX6_joint 22 = .ok (.ifCond .ne 13, 3) := by decide +kernel
theorem dX6_joint_25 : decode cX6_joint 25 = .ok (.aload_n 0, 1) := by decide +kernel
theorem dX6_joint_26 : decode cX6_joint 26 = .ok (.getfield 66, 3) := by decide +kernel
theorem dX6_joint_29 : decode cX6_joint 29 = .ok (.iload_n 2, 1) := by decide +kernel
theorem dX6_joint_30 : decode cX6_joint 30 = .ok (.iaload, 1) := by decide +kernel
theorem dX6_joint_31 : decode cX6_joint 31 = .ok (.istore_n 2, 1) := by decide +kernel
theorem dX6_joint_32 : decode cX6_joint 32 = .ok (.goto (-30), 3) := by decide +kernel
theorem dX6_joint_35 : decode cX6_joint 35 = .ok (.iload_n 2, 1) := by decide +kernel
theorem dX6_joint_36 : decode cX6_joint 36 = .ok (.ireturn, 1) := by decide +kernel
theorem dX6_between_0 : decode cX6_between 0 = .ok (.aload_n 0, 1) := by decide +kernel
theorem dX6_between_1 : decode cX6_between 1 = .ok (.getfield 66, 3) := by decide +kernel
theorem dX6_between_4 : decode cX6_between 4 = .ok (.iload_n 1, 1) := by decide +kernel
theorem dX6_between_5 : decode cX6_between 5 = .ok (.iaload, 1) := by decide +kernel
theorem dX6_between_6 : decode cX6_between 6 = .ok (.istore_n 2, 1) := by decide +kernel
theorem dX6_between_7 : decode cX6_between 7 = .ok (.iload_n 2, 1) := by decide +kernel
theorem dX6_between_8 : decode cX6_between 8 = .ok (.ifCond .ge 4, 3) := by decide +kernel
theorem dX6_between_11 : decode cX6_between 11 = .ok (.return_, 1) := by decide +kernel
theorem dX6_between_12 : decode cX6_between 12 = .ok (.aload_n 0, 1) := by decide +kernel
theorem dX6_between_13 : decode cX6_between 13 = .ok (.iload_n 1, 1) := by decide +kernel
theorem dX6_between_14 : decode cX6_between 14 = .ok (.invokevirtual 201, 3) := by decide +kernel
theorem dX6_between_17 : decode cX6_between 17 = .ok (.istore_n 3, 1) := by decide +kernel
theorem dX6_between_18 : decode cX6_between 18 = .ok (.iload_n 3, 1) := by decide +kernel
theorem dX6_between_19 : decode cX6_between 19 = .ok (.iconst 2, 1) := by decide +kernel
theorem dX6_between_20 : decode cX6_between 20 = .ok (.if_icmp .ne 108, 3) := by decide +kernel
theorem dX6_between_23 : decode cX6_between 23 = .ok (.aload_n 0, 1) := by decide +kernel
theorem dX6_between_24 : decode cX6_between 24 = .ok (.getfield 96, 3) := by decide +kernel
theorem dX6_between_27 : decode cX6_between 27 = .ok (.iload_n 2, 1) := by decide +kernel
theorem dX6_between_28 : decode cX6_between 28 = .ok (.baload, 1) := by decide +kernel
theorem dX6_between_29 : decode cX6_between 29 = .ok (.ifCond .eq 99, 3) := by decide +kernel
theorem dX6_between_32 : decode cX6_between 32 = .ok (.aload_n 0, 1) := by decide +kernel
theorem dX6_between_33 : decode cX6_between 33 = .ok (.bipush 10, 2) := by decide +kernel
theorem dX6_between_35 : decode cX6_between 35 = .ok (.invokevirtual 193, 3) := by decide +kernel
theorem dX6_between_38 : decode cX6_between 38 = .ok (.iconst 0, 1) := by decide +kernel
theorem dX6_between_39 : decode cX6_between 39 = .ok (.istore 4, 2) := by decide +kernel
theorem dX6_between_41 : decode cX6_between 41 = .ok (.iload_n 2, 1) := by decide +kernel
theorem dX6_between_42 : decode cX6_between 42 = .ok (.istore 5, 2) := by decide +kernel
theorem dX6_between_44 : decode cX6_between 44 = .ok (.iload 5, 2) := by decide +kernel
theorem dX6_between_46 : decode cX6_between 46 = .ok (.ifCond .lt 50, 3) := by decide +kernel
theorem dX6_between_49 : decode cX6_between 49 = .ok (.iload 4, 2) := by decide +kernel
theorem dX6_between_51 : decode cX6_between 51 = .ok (.aload_n 0, 1) := by decide +kernel
theorem dX6_between_52 : decode cX6_between 52 = .ok (.getfield 96, 3) := by decide +kernel
theorem dX6_between_55 : decode cX6_between 55 = .ok (.iload 5, 2) := by decide +kernel
theorem dX6_between_57 : decode cX6_between 57 = .ok (.baload, 1) := by decide +kernel
theorem dX6_between_58 : decode cX6_between 58 = .ok (.ifCond .eq 22, 3) := by decide +kernel
theorem dX6_between_61 : decode cX6_between 61 = .ok (.aload_n 0, 1) := by decide +kernel
theorem dX6_between_62 : decode cX6_between 62 = .ok (.getfield 22, 3) := by decide +kernel
theorem dX6_between_65 : decode cX6_between 65 = .ok (.aload_n 0, 1) := by decide +kernel
theorem dX6_between_66 : decode cX6_between 66 = .ok (.getfield 60, 3) := by decide +kernel
theorem dX6_between_69 : decode cX6_between 69 = .ok (.iload 5, 2) := by decide +kernel
theorem dX6_between_71 : decode cX6_between 71 = .ok (.iaload, 1) := by decide +kernel
theorem dX6_between_72 : decode cX6_between 72 = .ok (.baload, 1) := by decide +kernel
theorem dX6_between_73 : decode cX6_between 73 = .ok (.ifCond .eq 7, 3) := by decide +kernel
theorem dX6_between_76 : decode cX6_between 76 = .ok (.iconst 1, 1) := by decide +kernel
theorem dX6_between_77 : decode cX6_between 77 = .ok (.goto 4, 3) := by decide +kernel
theorem dX6_between_80 : decode cX6_between 80 = .ok (.iconst 0, 1) := by decide +kernel
theorem dX6_between_81 : decode cX6_between 81 = .ok (.iadd, 1) := by decide +kernel
theorem dX6_between_82 : decode cX6_between 82 = .ok (.istore 4, 2) := by decide +kernel
theorem dX6_between_84 : decode cX6_between 84 = .ok (.aload_n 0, 1) := by decide +kernel
theorem dX6_between_85 : decode cX6_between 85 = .ok (.getfield 66, 3) := by decide +kernel
theorem dX6_between_88 : decode cX6_between 88 = .ok (.iload 5, 2) := by decide +kernel
theorem dX6_between_90 : decode cX6_between 90 = .ok (.iaload, 1) := by decide +kernel
theorem dX6_between_91 : decode cX6_between 91 = .ok (.istore 5, 2) := by decide +kernel
theorem dX6_between_93 : decode cX6_between 93 = .ok (.goto (-49), 3) := by decide +kernel
theorem dX6_between_96 : decode cX6_between 96 = .ok (.aload_n 0, 1) := by decide +kernel
theorem dX6_between_97 : decode cX6_between 97 = .ok (.iconst 0, 1) := by decide +kernel
theorem dX6_between_98 : decode cX6_between 98 = .ok (.putfield 190, 3) := by decide +kernel
theorem dX6_between_101 : decode cX6_between 101 = .ok (.iconst 0, 1) := by decide +kernel
theorem dX6_between_102 : decode cX6_between 102 = .ok (.istore 5, 2) := by decide +kernel
theorem dX6_between_104 : decode cX6_between 104 = .ok (.iload 5, 2) := by decide +kernel
theorem dX6_between_106 : decode cX6_between 106 = .ok (.iconst 2, 1) := by decide +kernel
theorem dX6_between_107 : decode cX6_between 107 = .ok (.iload 4, 2) := by decide +kernel
theorem dX6_between_109 : decode cX6_between 109 = .ok (.imul, 1) := by decide +kernel
theorem dX6_between_110 : decode cX6_between 110 = .ok (.if_icmp .ge 15, 3) := by decide +kernel
theorem dX6_between_113 : decode cX6_between 113 = .ok (.aload_n 0, 1) := by decide +kernel
theorem dX6_between_114 : decode cX6_between 114 = .ok (.bipush 32, 2) := by decide +kernel
theorem dX6_between_116 : decode cX6_between 116 = .ok (.invokevirtual 193, 3) := by decide +kernel
theorem dX6_between_119 : decode cX6_between 119 = .ok (.iinc 5 1, 3) := by decide +kernel
theorem dX6_between_122 : decode cX6_between 122 = .ok (.goto (-18), 3) := by decide +kernel
theorem dX6_between_125 : decode cX6_between 125 = .ok (.goto 25, 3) := by decide +kernel
theorem dX6_between_128 : decode cX6_between 128 = .ok (.iload_n 3, 1) := by decide +kernel
theorem dX6_between_129 : decode cX6_between 129 = .ok (.ifCond .gt 15, 3) := by decide +kernel
theorem dX6_between_132 : decode cX6_between 132 = .ok (.aload_n 0, 1) := by decide +kernel
theorem dX6_between_133 : decode cX6_between 133 = .ok (.getfield 90, 3) := by decide +kernel
theorem dX6_between_136 : decode cX6_between 136 = .ok (.iload_n 1, 1) := by decide +kernel
theorem dX6_between_137 : decode cX6_between 137 = .ok (.iaload, 1) := by decide +kernel
theorem dX6_between_138 : decode cX6_between 138 = .ok (.invokestatic 204, 3) := by decide +kernel
theorem dX6_between_141 : decode cX6_between 141 = .ok (.ifCond .eq 9, 3) := by decide +kernel
theorem dX6_between_144 : decode cX6_between 144 = .ok (.aload_n 0, 1) := by decide +kernel
theorem dX6_between_145 : decode cX6_between 145 = .ok (.bipush 32, 2) := by decide +kernel
theorem dX6_between_147 : decode cX6_between 147 = .ok (.invokevirtual 193, 3) := by decide +kernel
theorem dX6_between_150 : decode cX6_between 150 = .ok (.return_, 1) := by decide +kernel
theorem dX6_start_0 : decode cX6_start 0 = .ok (.iload_n 1, 1) := by decide +kernel
theorem dX6_start_1 : decode cX6_start 1 = .ok (.istore 4, 2) := by decide +kernel
theorem dX6_start_3 : decode cX6_start 3 = .ok (.iload 4, 2) := by decide +kernel
theorem dX6_start_5 : decode cX6_start 5 = .ok (.iload_n 2, 1) := by decide +kernel
theorem dX6_start_6 : decode cX6_start 6 = .ok (.if_icmp .eq 110, 3) := by decide +kernel
theorem dX6_start_9 : decode cX6_start 9 = .ok (.aload_n 0, 1) := by decide +kernel
theorem dX6_start_10 : decode cX6_start 10 = .ok (.getfield 66, 3) := by decide +kernel
theorem dX6_start_13 : decode cX6_start 13 = .ok (.iload 4, 2) := by decide +kernel
theorem dX6_start_15 : decode cX6_start 15 = .ok (.iaload, 1) := by decide +kernel
theorem dX6_start_16 : decode cX6_start 16 = .ok (.ifCond .lt 18, 3) := by decide +kernel
theorem dX6_start_19 : decode cX6_start 19 = .ok (.aload_n 0, 1) := by decide +kernel
theorem dX6_start_20 : decode cX6_start 20 = .ok (.getfield 96, 3) := by decide +kernel
theorem dX6_start_23 : decode cX6_start 23 = .ok (.aload_n 0, 1) := by decide +kernel
theorem dX6_start_24 : decode cX6_start 24 = .ok (.getfield 66, 3) := by decide +kernel
theorem dX6_start_27 : decode cX6_start 27 = .ok (.iload 4, 2) := by decide +kernel
theorem dX6_start_29 : decode cX6_start 29 = .ok (.iaload, 1) := by decide +kernel
theorem dX6_start_30 : decode cX6_start 30 = .ok (.baload, 1) := by decide +kernel
theorem dX6_start_31 : decode cX6_start 31 = .ok (.ifCond .eq 7, 3) := by decide +kernel
theorem dX6_start_34 : decode cX6_start 34 = .ok (.iconst 1, 1) := by decide +kernel
theorem dX6_start_35 : decode cX6_start 35 = .ok (.goto 4, 3) := by decide +kernel
theorem dX6_start_38 : decode cX6_start 38 = .ok (.iconst 0, 1) := by decide +kernel
theorem dX6_start_39 : decode cX6_start 39 = .ok (.istore 5, 2) := by decide +kernel
theorem dX6_start_41 : decode cX6_start 41 = .ok (.aload_n 0, 1) := by decide +kernel
theorem dX6_start_42 : decode cX6_start 42 = .ok (.getfield 93, 3) := by decide +kernel
theorem dX6_start_45 : decode cX6_start 45 = .ok (.iload 4, 2) := by decide +kernel
theorem dX6_start_47 : decode cX6_start 47 = .ok (.iconst 1, 1) := by decide +kernel
theorem dX6_start_48 : decode cX6_start 48 = .ok (.bastore, 1) := by decide +kernel
theorem dX6_start_49 : decode cX6_start 49 = .ok (.aload_n 0, 1) := by decide +kernel
theorem dX6_start_50 : decode cX6_start 50 = .ok (.getfield 96, 3) := by decide +kernel
theorem dX6_start_53 : decode cX6_start 53 = .ok (.iload 4, 2) := by decide +kernel
theorem dX6_start_55 : decode cX6_start 55 = .ok (.iload 5, 2) := by decide +kernel
theorem dX6_start_57 : decode cX6_start 57 = .ok (.ifCond .eq 23, 3) := by decide +kernel
theorem dX6_start_60 : decode cX6_start 60 = .ok (.aload_n 0, 1) := by decide +kernel
theorem dX6_start_61 : decode cX6_start 61 = .ok (.getfield 87, 3) := by decide +kernel
theorem dX6_start_64 : decode cX6_start 64 = .ok (.iload 4, 2) := by decide +kernel
theorem dX6_start_66 : decode cX6_start 66 = .ok (.iaload, 1) := by decide +kernel
theorem dX6_start_67 : decode cX6_start 67 = .ok (.iload_n 3, 1) := by decide +kernel
theorem dX6_start_68 : decode cX6_start 68 = .ok (.aload_n 0, 1) := by decide +kernel
theorem dX6_start_69 : decode cX6_start 69 = .ok (.getfield 190, 3) := by decide +kernel
theorem dX6_start_72 : decode cX6_start 72 = .ok (.isub, 1) := by decide +kernel
theorem dX6_start_73 : decode cX6_start 73 = .ok (.if_icmp .le 7, 3) := by decide +kernel
theorem dX6_start_76 : decode cX6_start 76 = .ok (.iconst 1, 1) := by decide +kernel
theorem dX6_start_77 : decode cX6_start 77 = .ok (.goto 4, 3) := by decide +kernel
theorem dX6_start_80 : decode cX6_start 80 = .ok (.iconst 0, 1) := by decide +kernel
theorem dX6_start_81 : decode cX6_start 81 = .ok (.bastore, 1) := by decide +kernel
theorem dX6_start_82 : decode cX6_start 82 = .ok (.iload_n 2, 1) := by decide +kernel
theorem dX6_start_83 : decode cX6_start 83 = .ok (.istore 6, 2) := by decide +kernel
theorem dX6_start_85 : decode cX6_start 85 = .ok (.aload_n 0, 1) := by decide +kernel
theorem dX6_start_86 : decode cX6_start 86 = .ok (.getfield 66, 3) := by decide +kernel
theorem dX6_start_89 : decode cX6_start 89 = .ok (.iload 6, 2) := by decide +kernel
theorem dX6_start_91 : decode cX6_start 91 = .ok (.iaload, 1) := by decide +kernel
theorem dX6_start_92 : decode cX6_start 92 = .ok (.iload 4, 2) := by decide +kernel
theorem dX6_start_94 : decode cX6_start 94 = .ok (.if_icmp .eq 15, 3) := by decide +kernel
theorem dX6_start_97 : decode cX6_start 97 = .ok (.aload_n 0, 1) := by decide +kernel
theorem dX6_start_98 : decode cX6_start 98 = .ok (.getfield 66, 3) := by decide +kernel
theorem dX6_start_101 : decode cX6_start 101 = .ok (.iload 6, 2) := by decide +kernel
theorem dX6_start_103 : decode cX6_start 103 = .ok (.iaload, 1) := by decide +kernel
theorem dX6_start_104 : decode cX6_start 104 = .ok (.istore 6, 2) := by decide +kernel
theorem dX6_start_106 : decode cX6_start 106 = .ok (.goto (-21), 3) := by decide +kernel
theorem dX6_start_109 : decode cX6_start 109 = .ok (.iload 6, 2) := by decide +kernel
theorem dX6_start_111 : decode cX6_start 111 = .ok (.istore 4, 2) := by decide +kernel
theorem dX6_start_113 : decode cX6_start 113 = .ok (.goto (-110), 3) := by decide +kernel
theorem dX6_start_116 : decode cX6_start 116 = .ok (.return_, 1) := by decide +kernel
theorem dX6_print_0 : decode cX6_print 0 = .ok (.aload_n 0, 1) := by decide +kernel
theorem dX6_print_1 : decode cX6_print 1 = .ok (.iconst 0, 1) := by decide +kernel
theorem dX6_print_2 : decode cX6_print 2 = .ok (.putfield 102, 3) := by decide +kernel
theorem dX6_print_5 : decode cX6_print 5 = .ok (.iload_n 1, 1) := by decide +kernel
theorem dX6_print_6 : decode cX6_print 6 = .ok (.iconst 1, 1) := by decide +kernel
theorem dX6_print_7 : decode cX6_print 7 = .ok (.if_icmp .lt 9, 3) := by decide +kernel
theorem dX6_print_10 : decode cX6_print 10 = .ok (.iload_n 1, 1) := by decide +kernel
theorem dX6_print_11 : decode cX6_print 11 = .ok (.bipush 100, 2) := by decide +kernel
theorem dX6_print_13 : decode cX6_print 13 = .ok (.if_icmp .le 9, 3) := by decide +kernel
theorem dX6_print_16 : decode cX6_print 16 = .ok (.aload_n 0, 1) := by decide +kernel
theorem dX6_print_17 : decode cX6_print 17 = .ok (.iconst 1, 1) := by decide +kernel
theorem dX6_print_18 : decode cX6_print 18 = .ok (.invokevirtual 106, 3) := by decide +kernel
theorem dX6_print_21 : decode cX6_print 21 = .ok (.ireturn, 1) := by decide +kernel
theorem dX6_print_22 : decode cX6_print 22 = .ok (.aload_n 0, 1) := by decide +kernel
theorem dX6_print_23 : decode cX6_print 23 = .ok (.getfield 113, 3) := by decide +kernel
theorem dX6_print_26 : decode cX6_print 26 = .ok (.ifCond .ne 9, 3) := by decide +kernel
theorem dX6_print_29 : decode cX6_print 29 = .ok (.aload_n 0, 1) := by decide +kernel
theorem dX6_print_30 : decode cX6_print 30 = .ok (.iconst 2, 1) := by decide +kernel
theorem dX6_print_31 : decode cX6_print 31 = .ok (.invokevirtual 106, 3) := by decide +kernel
theorem dX6_print_34 : decode cX6_print 34 = .ok (.ireturn, 1) := by decide +kernel
theorem dX6_print_35 : decode cX6_print 35 = .ok (.aload_n 0, 1) := by decide +kernel
theorem dX6_print_36 : decode cX6_print 36 = .ok (.iconst 0, 1) := by decide +kernel
theorem dX6_print_37 : decode cX6_print 37 = .ok (.putfield 187, 3) := by decide +kernel
theorem dX6_print_40 : decode cX6_print 40 = .ok (.aload_n 0, 1) := by decide +kernel
theorem dX6_print_41 : decode cX6_print 41 = .ok (.iconst 0, 1) := by decide +kernel
theorem dX6_print_42 : decode cX6_print 42 = .ok (.putfield 190, 3) := by decide +kernel
theorem dX6_print_45 : decode cX6_print 45 = .ok (.aload_n 0, 1) := by decide +kernel
theorem dX6_print_46 : decode cX6_print 46 = .ok (.invokevirtual 208, 3) := by decide +kernel
theorem dX6_print_49 : decode cX6_print 49 = .ok (.iconst 0, 1) := by decide +kernel
theorem dX6_print_50 : decode cX6_print 50 = .ok (.istore_n 2, 1) := by decide +kernel
theorem dX6_print_51 : decode cX6_print 51 = .ok (.iload_n 2, 1) := by decide +kernel
theorem dX6_print_52 : decode cX6_print 52 = .ok (.aload_n 0, 1) := by decide +kernel
theorem dX6_print_53 : decode cX6_print 53 = .ok (.getfield 157, 3) := by decide +kernel
theorem dX6_print_56 : decode cX6_print 56 = .ok (.if_icmp .ge 64, 3) := by decide +kernel
theorem dX6_print_59 : decode cX6_print 59 = .ok (.aload_n 0, 1) := by decide +kernel
theorem dX6_print_60 : decode cX6_print 60 = .ok (.getfield 63, 3) := by decide +kernel
theorem dX6_print_63 : decode cX6_print 63 = .ok (.iload_n 2, 1) := by decide +kernel
theorem dX6_print_64 : decode cX6_print 64 = .ok (.iaload, 1) := by decide +kernel
theorem dX6_print_65 : decode cX6_print 65 = .ok (.bipush 9, 2) := by decide +kernel
theorem dX6_print_67 : decode cX6_print 67 = .ok (.if_icmp .ge 47, 3) := by decide +kernel
theorem dX6_print_70 : decode cX6_print 70 = .ok (.aload_n 0, 1) := by decide +kernel
theorem dX6_print_71 : decode cX6_print 71 = .ok (.getfield 87, 3) := by decide +kernel
theorem dX6_print_74 : decode cX6_print 74 = .ok (.iload_n 2, 1) := by decide +kernel
theorem dX6_print_75 : decode cX6_print 75 = .ok (.iaload, 1) := by decide +kernel
theorem dX6_print_76 : decode cX6_print 76 = .ok (.ifCond .le 38, 3) := by decide +kernel
theorem dX6_print_79 : decode cX6_print 79 = .ok (.aload_n 0, 1) := by decide +kernel
theorem dX6_print_80 : decode cX6_print 80 = .ok (.iload_n 2, 1) := by decide +kernel
theorem dX6_print_81 : decode cX6_print 81 = .ok (.invokevirtual 211, 3) := by decide +kernel
theorem dX6_print_84 : decode cX6_print 84 = .ok (.istore_n 3, 1) := by decide +kernel
theorem dX6_print_85 : decode cX6_print 85 = .ok (.aload_n 0, 1) := by decide +kernel
theorem dX6_print_86 : decode cX6_print 86 = .ok (.iload_n 3, 1) := by decide +kernel
theorem dX6_print_87 : decode cX6_print 87 = .ok (.invokevirtual 214, 3) := by decide +kernel
theorem dX6_print_90 : decode cX6_print 90 = .ok (.aload_n 0, 1) := by decide +kernel
theorem dX6_print_91 : decode cX6_print 91 = .ok (.iload_n 3, 1) := by decide +kernel
theorem dX6_print_92 : decode cX6_print 92 = .ok (.iload_n 2, 1) := by decide +kernel
theorem dX6_print_93 : decode cX6_print 93 = .ok (.iload_n 1, 1) := by decide +kernel
theorem dX6_print_94 : decode cX6_print 94 = .ok (.invokevirtual 217, 3) := by decide +kernel
theorem dX6_print_97 : decode cX6_print 97 = .ok (.aload_n 0, 1) := by decide +kernel
theorem dX6_print_98 : decode cX6_print 98 = .ok (.aload_n 0, 1) := by decide +kernel
theorem dX6_print_99 : decode cX6_print 99 = .ok (.getfield 72, 3) := by decide +kernel
theorem dX6_print_102 : decode cX6_print 102 = .ok (.iload_n 2, 1) := by decide +kernel
theorem dX6_print_103 : decode cX6_print 103 = .ok (.iaload, 1) := by decide +kernel
theorem dX6_print_104 : decode cX6_print 104 = .ok (.aload_n 0, 1) := by decide +kernel
theorem dX6_print_105 : decode cX6_print 105 = .ok (.getfield 75, 3) := by decide +kernel
theorem dX6_print_108 : decode cX6_print 108 = .ok (.iload_n 2, 1) := by decide +kernel
theorem dX6_print_109 : decode cX6_print 109 = .ok (.iaload, 1) := by decide +kernel
theorem dX6_print_110 : decode cX6_print 110 = .ok (.iconst 0, 1) := by decide +kernel
theorem dX6_print_111 : decode cX6_print 111 = .ok (.invokevirtual 221, 3) := by decide +kernel
theorem dX6_print_114 : decode cX6_print 114 = .ok (.iinc 2 1, 3) := by decide +kernel
theorem dX6_print_117 : decode cX6_print 117 = .ok (.goto (-66), 3) := by decide +kernel
theorem dX6_print_120 : decode cX6_print 120 = .ok (.aload_n 0, 1) := by decide +kernel
theorem dX6_print_121 : decode cX6_print 121 = .ok (.getfield 160, 3) := by decide +kernel
theorem dX6_print_124 : decode cX6_print 124 = .ok (.aload_n 0, 1) := by decide +kernel
theorem dX6_print_125 : decode cX6_print 125 = .ok (.getfield 126, 3) := by decide +kernel
theorem dX6_print_128 : decode cX6_print 128 = .ok (.if_icmp .lt 26, 3) := by decide +kernel
theorem dX6_print_131 : decode cX6_print 131 = .ok (.aload_n 0, 1) := by decide +kernel
theorem dX6_print_132 : decode cX6_print 132 = .ok (.getfield 47, 3) := by decide +kernel
theorem dX6_print_135 : decode cX6_print 135 = .ok (.aload_n 0, 1) := by decide +kernel
theorem dX6_print_136 : decode cX6_print 136 = .ok (.getfield 126, 3) := by decide +kernel
theorem dX6_print_139 : decode cX6_print 139 = .ok (.iaload, 1) := by decide +kernel
theorem dX6_print_140 : decode cX6_print 140 = .ok (.aload_n 0, 1) := by decide +kernel
theorem dX6_print_141 : decode cX6_print 141 = .ok (.getfield 47, 3) := by decide +kernel
theorem dX6_print_144 : decode cX6_print 144 = .ok (.aload_n 0, 1) := by decide +kernel
theorem dX6_print_145 : decode cX6_print 145 = .ok (.getfield 126, 3) := by decide +kernel
theorem dX6_print_148 : decode cX6_print 148 = .ok (.iconst 1, 1) := by decide +kernel
theorem dX6_print_149 : decode cX6_print 149 = .ok (.iadd, 1) := by decide +kernel
theorem dX6_print_150 : decode cX6_print 150 = .ok (.iaload, 1) := by decide +kernel
theorem dX6_print_151 : decode cX6_print 151 = .ok (.if_icmp .ge 7, 3) := by decide +kernel
theorem dX6_print_154 : decode cX6_print 154 = .ok (.iconst 1, 1) := by decide +kernel
theorem dX6_print_155 : decode cX6_print 155 = .ok (.goto 4, 3) := by decide +kernel
theorem dX6_print_158 : decode cX6_print 158 = .ok (.iconst 0, 1) := by decide +kernel
theorem dX6_print_159 : decode cX6_print 159 = .ok (.istore_n 2, 1) := by decide +kernel
theorem dX6_print_160 : decode cX6_print 160 = .ok (.iload_n 2, 1) := by decide +kernel
theorem dX6_print_161 : decode cX6_print 161 = .ok (.ifCond .eq 16, 3) := by decide +kernel
theorem dX6_print_164 : decode cX6_print 164 = .ok (.aload_n 0, 1) := by decide +kernel
theorem dX6_print_165 : decode cX6_print 165 = .ok (.getfield 187, 3) := by decide +kernel
theorem dX6_print_168 : decode cX6_print 168 = .ok (.ifCond .le 9, 3) := by decide +kernel
theorem dX6_print_171 : decode cX6_print 171 = .ok (.aload_n 0, 1) := by decide +kernel
theorem dX6_print_172 : decode cX6_print 172 = .ok (.bipush 10, 2) := by decide +kernel
theorem dX6_print_174 : decode cX6_print 174 = .ok (.invokevirtual 193, 3) := by decide +kernel
theorem dX6_print_177 : decode cX6_print 177 = .ok (.aload_n 0, 1) := by decide +kernel
theorem dX6_print_178 : decode cX6_print 178 = .ok (.aload_n 0, 1) := by decide +kernel
theorem dX6_print_179 : decode cX6_print 179 = .ok (.getfield 160, 3) := by decide +kernel
theorem dX6_print_182 : decode cX6_print 182 = .ok (.aload_n 0, 1) := by decide +kernel
theorem dX6_print_183 : decode cX6_print 183 = .ok (.getfield 126, 3) := by decide +kernel
theorem dX6_print_186 : decode cX6_print 186 = .ok (.iconst 1, 1) := by decide +kernel
theorem dX6_print_187 : decode cX6_print 187 = .ok (.invokevirtual 221, 3) := by decide +kernel
theorem dX6_print_190 : decode cX6_print 190 = .ok (.aload_n 0, 1) := by decide +kernel
theorem dX6_print_191 : decode cX6_print 191 = .ok (.getfield 187, 3) := by decide +kernel
theorem dX6_print_194 : decode cX6_print 194 = .ok (.ireturn, 1) := by decide +kernel
theorem dX6_tokens_0 : decode cX6_tokens 0 = .ok (.aload_n 0, 1) := by decide +kernel
theorem dX6_tokens_1 : decode cX6_tokens 1 = .ok (.iconst 0, 1) := by decide +kernel
theorem dX6_tokens_2 : decode cX6_tokens 2 = .ok (.putfield 102, 3) := by decide +kernel
theorem dX6_tokens_5 : decode cX6_tokens 5 = .ok (.aload_n 0, 1) := by decide +kernel
theorem dX6_tokens_6 : decode cX6_tokens 6 = .ok (.getfield 113, 3) := by decide +kernel
theorem dX6_tokens_9 : decode cX6_tokens 9 = .ok (.ifCond .eq 10, 3) := by decide +kernel
theorem dX6_tokens_12 : decode cX6_tokens 12 = .ok (.aload_n 0, 1) := by decide +kernel
theorem dX6_tokens_13 : decode cX6_tokens 13 = .ok (.getfield 126, 3) := by decide +kernel
theorem dX6_tokens_16 : decode cX6_tokens 16 = .ok (.goto 4, 3) := by decide +kernel
theorem dX6_tokens_19 : decode cX6_tokens 19 = .ok (.iconst 0, 1) := by decide +kernel
theorem dX6_tokens_20 : decode cX6_tokens 20 = .ok (.ireturn, 1) := by decide +kernel
theorem dX6_token_0 : decode cX6_token 0 = .ok (.aload_n 0, 1) := by decide +kernel
theorem dX6_token_1 : decode cX6_token 1 = .ok (.iconst 0, 1) := by decide +kernel
theorem dX6_token_2 : decode cX6_token 2 = .ok (.putfield 102, 3) := by decide +kernel
theorem dX6_token_5 : decode cX6_token 5 = .ok (.aload_n 0, 1) := by decide +kernel
theorem dX6_token_6 : decode cX6_token 6 = .ok (.getfield 113, 3) := by decide +kernel
theorem dX6_token_9 : decode cX6_token 9 = .ok (.ifCond .eq 24, 3) := by decide +kernel
theorem dX6_token_12 : decode cX6_token 12 = .ok (.iload_n 1, 1) := by decide +kernel
theorem dX6_token_13 : decode cX6_token 13 = .ok (.aload_n 0, 1) := by decide +kernel
theorem dX6_token_14 : decode cX6_token 14 = .ok (.getfield 126, 3) := by decide +kernel
theorem dX6_token_17 : decode cX6_token 17 = .ok (.iconst 1, 1) := by decide +kernel
theorem dX6_token_18 : decode cX6_token 18 = .ok (.iadd, 1) := by decide +kernel
theorem dX6_token_19 : decode cX6_token 19 = .ok (.invokestatic 225, 3) := by decide +kernel
theorem dX6_token_22 : decode cX6_token 22 = .ok (.ifCond .eq 11, 3) := by decide +kernel
theorem dX6_token_25 : decode cX6_token 25 = .ok (.iload_n 2, 1) := by decide +kernel
theorem dX6_token_26 : decode cX6_token 26 = .ok (.iconst 3, 1) := by decide +kernel
theorem dX6_token_27 : decode cX6_token 27 = .ok (.invokestatic 225, 3) := by decide +kernel
theorem dX6_token_30 : decode cX6_token 30 = .ok (.ifCond .ne 9, 3) := by decide +kernel
theorem dX6_token_33 : decode cX6_token 33 = .ok (.aload_n 0, 1) := by decide +kernel
theorem dX6_token_34 : decode cX6_token 34 = .ok (.iconst 1, 1) := by decide +kernel
theorem dX6_token_35 : decode cX6_token 35 = .ok (.invokevirtual 106, 3) := by decide +kernel
theorem dX6_token_38 : decode cX6_token 38 = .ok (.ireturn, 1) := by decide +kernel
theorem dX6_token_39 : decode cX6_token 39 = .ok (.iload_n 2, 1) := by decide +kernel
theorem dX6_token_40 : decode cX6_token 40 = .ok (.iconst 2, 1) := by decide +kernel
theorem dX6_token_41 : decode cX6_token 41 = .ok (.if_icmp .ne 19, 3) := by decide +kernel
theorem dX6_token_44 : decode cX6_token 44 = .ok (.aload_n 0, 1) := by decide +kernel
theorem dX6_token_45 : decode cX6_token 45 = .ok (.getfield 47, 3) := by decide +kernel
theorem dX6_token_48 : decode cX6_token 48 = .ok (.iload_n 1, 1) := by decide +kernel
theorem dX6_token_49 : decode cX6_token 49 = .ok (.iconst 1, 1) := by decide +kernel
theorem dX6_token_50 : decode cX6_token 50 = .ok (.iadd, 1) := by decide +kernel
theorem dX6_token_51 : decode cX6_token 51 = .ok (.iaload, 1) := by decide +kernel
theorem dX6_token_52 : decode cX6_token 52 = .ok (.aload_n 0, 1) := by decide +kernel
theorem dX6_token_53 : decode cX6_token 53 = .ok (.getfield 47, 3) := by decide +kernel
theorem dX6_token_56 : decode cX6_token 56 = .ok (.iload_n 1, 1) := by decide +kernel
theorem dX6_token_57 : decode cX6_token 57 = .ok (.iaload, 1) := by decide +kernel
theorem dX6_token_58 : decode cX6_token 58 = .ok (.isub, 1) := by decide +kernel
theorem dX6_token_59 : decode cX6_token 59 = .ok (.ireturn, 1) := by decide +kernel
theorem dX6_token_60 : decode cX6_token 60 = .ok (.iload_n 1, 1) := by decide +kernel
theorem dX6_token_61 : decode cX6_token 61 = .ok (.aload_n 0, 1) := by decide +kernel
theorem dX6_token_62 : decode cX6_token 62 = .ok (.getfield 126, 3) := by decide +kernel
theorem dX6_token_65 : decode cX6_token 65 = .ok (.if_icmp .ne 7, 3) := by decide +kernel
theorem dX6_token_68 : decode cX6_token 68 = .ok (.iconst 0, 1) := by decide +kernel
theorem dX6_token_69 : decode cX6_token 69 = .ok (.goto 22, 3) := by decide +kernel
theorem dX6_token_72 : decode cX6_token 72 = .ok (.iload_n 2, 1) := by decide +kernel
theorem dX6_token_73 : decode cX6_token 73 = .ok (.ifCond .ne 12, 3) := by decide +kernel
theorem dX6_token_76 : decode cX6_token 76 = .ok (.aload_n 0, 1) := by decide +kernel
theorem dX6_token_77 : decode cX6_token 77 = .ok (.getfield 38, 3) := by decide +kernel
theorem dX6_token_80 : decode cX6_token 80 = .ok (.iload_n 1, 1) := by decide +kernel
theorem dX6_token_81 : decode cX6_token 81 = .ok (.iaload, 1) := by decide +kernel
theorem dX6_token_82 : decode cX6_token 82 = .ok (.goto 9, 3) := by decide +kernel
theorem dX6_token_85 : decode cX6_token 85 = .ok (.aload_n 0, 1) := by decide +kernel
theorem dX6_token_86 : decode cX6_token 86 = .ok (.getfield 35, 3) := by decide +kernel
theorem dX6_token_89 : decode cX6_token 89 = .ok (.iload_n 1, 1) := by decide +kernel
theorem dX6_token_90 : decode cX6_token 90 = .ok (.iaload, 1) := by decide +kernel
theorem dX6_token_91 : decode cX6_token 91 = .ok (.ireturn, 1) := by decide +kernel
theorem dX6_parts_0 : decode cX6_parts 0 = .ok (.aload_n 0, 1) := by decide +kernel
theorem dX6_parts_1 : decode cX6_parts 1 = .ok (.iconst 0, 1) := by decide +kernel
theorem dX6_parts_2 : decode cX6_parts 2 = .ok (.putfield 102, 3) := by decide +kernel
theorem dX6_parts_5 : decode cX6_parts 5 = .ok (.aload_n 0, 1) := by decide +kernel
theorem dX6_parts_6 : decode cX6_parts 6 = .ok (.getfield 113, 3) := by decide +kernel
theorem dX6_parts_9 : decode cX6_parts 9 = .ok (.ifCond .eq 10, 3) := by decide +kernel
theorem dX6_parts_12 : decode cX6_parts 12 = .ok (.aload_n 0, 1) := by decide +kernel
theorem dX6_parts_13 : decode cX6_parts 13 = .ok (.getfield 157, 3) := by decide +kernel
theorem dX6_parts_16 : decode cX6_parts 16 = .ok (.goto 4, 3) := by decide +kernel
theorem dX6_parts_19 : decode cX6_parts 19 = .ok (.iconst 0, 1) := by decide +kernel
theorem dX6_parts_20 : decode cX6_parts 20 = .ok (.ireturn, 1) := by decide +kernel
theorem dX6_part_0 : decode cX6_part 0 = .ok (.aload_n 0, 1) := by decide +kernel
theorem dX6_part_1 : decode cX6_part 1 = .ok (.iconst 0, 1) := by decide +kernel
theorem dX6_part_2 : decode cX6_part 2 = .ok (.putfield 102, 3) := by decide +kernel
theorem dX6_part_5 : decode cX6_part 5 = .ok (.aload_n 0, 1) := by decide +kernel
theorem dX6_part_6 : decode cX6_part 6 = .ok (.getfield 113, 3) := by decide +kernel
theorem dX6_part_9 : decode cX6_part 9 = .ok (.ifCond .eq 23, 3) := by decide +kernel
theorem dX6_part_12 : decode cX6_part 12 = .ok (.iload_n 1, 1) := by decide +kernel
theorem dX6_part_13 : decode cX6_part 13 = .ok (.aload_n 0, 1) := by decide +kernel
theorem dX6_part_14 : decode cX6_part 14 = .ok (.getfield 157, 3) := by decide +kernel
theorem dX6_part_17 : decode cX6_part 17 = .ok (.invokestatic 225, 3) := by decide +kernel
theorem dX6_part_20 : decode cX6_part 20 = .ok (.ifCond .eq 12, 3) := by decide +kernel
theorem dX6_part_23 : decode cX6_part 23 = .ok (.iload_n 2, 1) := by decide +kernel
theorem dX6_part_24 : decode cX6_part 24 = .ok (.bipush 7, 2) := by decide +kernel
theorem dX6_part_26 : decode cX6_part 26 = .ok (.invokestatic 225, 3) := by decide +kernel
theorem dX6_part_29 : decode cX6_part 29 = .ok (.ifCond .ne 9, 3) := by decide +kernel
theorem dX6_part_32 : decode cX6_part 32 = .ok (.aload_n 0, 1) := by decide +kernel
theorem dX6_part_33 : decode cX6_part 33 = .ok (.iconst 1, 1) := by decide +kernel
theorem dX6_part_34 : decode cX6_part 34 = .ok (.invokevirtual 106, 3) := by decide +kernel
theorem dX6_part_37 : decode cX6_part 37 = .ok (.ireturn, 1) := by decide +kernel
theorem dX6_part_38 : decode cX6_part 38 = .ok (.iload_n 2, 1) := by decide +kernel
theorem dX6_part_39 : decode cX6_part 39 = .ok (.iconst 3, 1) := by decide +kernel
theorem dX6_part_40 : decode cX6_part 40 = .ok (.if_icmp .ge 37, 3) := by decide +kernel
theorem dX6_part_43 : decode cX6_part 43 = .ok (.iload_n 2, 1) := by decide +kernel
theorem dX6_part_44 : decode cX6_part 44 = .ok (.ifCond .ne 12, 3) := by decide +kernel
theorem dX6_part_47 : decode cX6_part 47 = .ok (.aload_n 0, 1) := by decide +kernel
theorem dX6_part_48 : decode cX6_part 48 = .ok (.getfield 60, 3) := by decide +kernel
theorem dX6_part_51 : decode cX6_part 51 = .ok (.iload_n 1, 1) := by decide +kernel
theorem dX6_part_52 : decode cX6_part 52 = .ok (.iaload, 1) := by decide +kernel
theorem dX6_part_53 : decode cX6_part 53 = .ok (.goto 23, 3) := by decide +kernel
theorem dX6_part_56 : decode cX6_part 56 = .ok (.iload_n 2, 1) := by decide +kernel
theorem dX6_part_57 : decode cX6_part 57 = .ok (.iconst 1, 1) := by decide +kernel
theorem dX6_part_58 : decode cX6_part 58 = .ok (.if_icmp .ne 12, 3) := by decide +kernel
theorem dX6_part_61 : decode cX6_part 61 = .ok (.aload_n 0, 1) := by decide +kernel
theorem dX6_part_62 : decode cX6_part 62 = .ok (.getfield 63, 3) := by decide +kernel
theorem dX6_part_65 : decode cX6_part 65 = .ok (.iload_n 1, 1) := by decide +kernel
theorem dX6_part_66 : decode cX6_part 66 = .ok (.iaload, 1) := by decide +kernel
theorem dX6_part_67 : decode cX6_part 67 = .ok (.goto 9, 3) := by decide +kernel
theorem dX6_part_70 : decode cX6_part 70 = .ok (.aload_n 0, 1) := by decide +kernel
theorem dX6_part_71 : decode cX6_part 71 = .ok (.getfield 66, 3) := by decide +kernel
theorem dX6_part_74 : decode cX6_part 74 = .ok (.iload_n 1, 1) := by decide +kernel
theorem dX6_part_75 : decode cX6_part 75 = .ok (.iaload, 1) := by decide +kernel
theorem dX6_part_76 : decode cX6_part 76 = .ok (.ireturn, 1) := by decide +kernel
theorem dX6_part_77 : decode cX6_part 77 = .ok (.iload_n 2, 1) := by decide +kernel
theorem dX6_part_78 : decode cX6_part 78 = .ok (.bipush 6, 2) := by decide +kernel
theorem dX6_part_80 : decode cX6_part 80 = .ok (.if_icmp .ge 45, 3) := by decide +kernel
theorem dX6_part_83 : decode cX6_part 83 = .ok (.iload_n 2, 1) := by decide +kernel
theorem dX6_part_84 : decode cX6_part 84 = .ok (.iconst 3, 1) := by decide +kernel
theorem dX6_part_85 : decode cX6_part 85 = .ok (.if_icmp .ne 12, 3) := by decide +kernel
theorem dX6_part_88 : decode cX6_part 88 = .ok (.aload_n 0, 1) := by decide +kernel
theorem dX6_part_89 : decode cX6_part 89 = .ok (.getfield 72, 3) := by decide +kernel
theorem dX6_part_92 : decode cX6_part 92 = .ok (.iload_n 1, 1) := by decide +kernel
theorem dX6_part_93 : decode cX6_part 93 = .ok (.iaload, 1) := by decide +kernel
theorem dX6_part_94 : decode cX6_part 94 = .ok (.goto 30, 3) := by decide +kernel
theorem dX6_part_97 : decode cX6_part 97 = .ok (.iload_n 2, 1) := by decide +kernel
theorem dX6_part_98 : decode cX6_part 98 = .ok (.iconst 4, 1) := by decide +kernel
theorem dX6_part_99 : decode cX6_part 99 = .ok (.if_icmp .ne 19, 3) := by decide +kernel
theorem dX6_part_102 : decode cX6_part 102 = .ok (.aload_n 0, 1) := by decide +kernel
theorem dX6_part_103 : decode cX6_part 103 = .ok (.getfield 75, 3) := by decide +kernel
theorem dX6_part_106 : decode cX6_part 106 = .ok (.iload_n 1, 1) := by decide +kernel
theorem dX6_part_107 : decode cX6_part 107 = .ok (.iaload, 1) := by decide +kernel
theorem dX6_part_108 : decode cX6_part 108 = .ok (.aload_n 0, 1) := by decide +kernel
theorem dX6_part_109 : decode cX6_part 109 = .ok (.getfield 72, 3) := by decide +kernel
theorem dX6_part_112 : decode cX6_part 112 = .ok (.iload_n 1, 1) := by decide +kernel
theorem dX6_part_113 : decode cX6_part 113 = .ok (.iaload, 1) := by decide +kernel
theorem dX6_part_114 : decode cX6_part 114 = .ok (.isub, 1) := by decide +kernel
theorem dX6_part_115 : decode cX6_part 115 = .ok (.goto 9, 3) := by decide +kernel
theorem dX6_part_118 : decode cX6_part 118 = .ok (.aload_n 0, 1) := by decide +kernel
theorem dX6_part_119 : decode cX6_part 119 = .ok (.getfield 78, 3) := by decide +kernel
theorem dX6_part_122 : decode cX6_part 122 = .ok (.iload_n 1, 1) := by decide +kernel
theorem dX6_part_123 : decode cX6_part 123 = .ok (.iaload, 1) := by decide +kernel
theorem dX6_part_124 : decode cX6_part 124 = .ok (.ireturn, 1) := by decide +kernel
theorem dX6_part_125 : decode cX6_part 125 = .ok (.aload_n 0, 1) := by decide +kernel
theorem dX6_part_126 : decode cX6_part 126 = .ok (.getfield 60, 3) := by decide +kernel
theorem dX6_part_129 : decode cX6_part 129 = .ok (.iload_n 1, 1) := by decide +kernel
theorem dX6_part_130 : decode cX6_part 130 = .ok (.iaload, 1) := by decide +kernel
theorem dX6_part_131 : decode cX6_part 131 = .ok (.ifCond .lt 15, 3) := by decide +kernel
theorem dX6_part_134 : decode cX6_part 134 = .ok (.aload_n 0, 1) := by decide +kernel
theorem dX6_part_135 : decode cX6_part 135 = .ok (.getfield 13, 3) := by decide +kernel
theorem dX6_part_138 : decode cX6_part 138 = .ok (.aload_n 0, 1) := by decide +kernel
theorem dX6_part_139 : decode cX6_part 139 = .ok (.getfield 60, 3) := by decide +kernel
theorem dX6_part_142 : decode cX6_part 142 = .ok (.iload_n 1, 1) := by decide +kernel
theorem dX6_part_143 : decode cX6_part 143 = .ok (.iaload, 1) := by decide +kernel
theorem dX6_part_144 : decode cX6_part 144 = .ok (.iaload, 1) := by decide +kernel
theorem dX6_part_145 : decode cX6_part 145 = .ok (.ireturn, 1) := by decide +kernel
theorem dX6_part_146 : decode cX6_part 146 = .ok (.aload_n 0, 1) := by decide +kernel
theorem dX6_part_147 : decode cX6_part 147 = .ok (.getfield 75, 3) := by decide +kernel
theorem dX6_part_150 : decode cX6_part 150 = .ok (.iload_n 1, 1) := by decide +kernel
theorem dX6_part_151 : decode cX6_part 151 = .ok (.iaload, 1) := by decide +kernel
theorem dX6_part_152 : decode cX6_part 152 = .ok (.aload_n 0, 1) := by decide +kernel
theorem dX6_part_153 : decode cX6_part 153 = .ok (.getfield 72, 3) := by decide +kernel
theorem dX6_part_156 : decode cX6_part 156 = .ok (.iload_n 1, 1) := by decide +kernel
theorem dX6_part_157 : decode cX6_part 157 = .ok (.iaload, 1) := by decide +kernel
theorem dX6_part_158 : decode cX6_part 158 = .ok (.if_icmp .ne 7, 3) := by decide +kernel
theorem dX6_part_161 : decode cX6_part 161 = .ok (.iconst 2, 1) := by decide +kernel
theorem dX6_part_162 : decode cX6_part 162 = .ok (.goto 30, 3) := by decide +kernel
theorem dX6_part_165 : decode cX6_part 165 = .ok (.aload_n 0, 1) := by decide +kernel
theorem dX6_part_166 : decode cX6_part 166 = .ok (.getfield 38, 3) := by decide +kernel
theorem dX6_part_169 : decode cX6_part 169 = .ok (.aload_n 0, 1) := by decide +kernel
theorem dX6_part_170 : decode cX6_part 170 = .ok (.getfield 75, 3) := by decide +kernel
theorem dX6_part_173 : decode cX6_part 173 = .ok (.iload_n 1, 1) := by decide +kernel
theorem dX6_part_174 : decode cX6_part 174 = .ok (.iaload, 1) := by decide +kernel
theorem dX6_part_175 : decode cX6_part 175 = .ok (.iconst 1, 1) := by decide +kernel
theorem dX6_part_176 : decode cX6_part 176 = .ok (.isub, 1) := by decide +kernel
theorem dX6_part_177 : decode cX6_part 177 = .ok (.iaload, 1) := by decide +kernel
theorem dX6_part_178 : decode cX6_part 178 = .ok (.aload_n 0, 1) := by decide +kernel
theorem dX6_part_179 : decode cX6_part 179 = .ok (.getfield 63, 3) := by decide +kernel
theorem dX6_part_182 : decode cX6_part 182 = .ok (.iload_n 1, 1) := by decide +kernel
theorem dX6_part_183 : decode cX6_part 183 = .ok (.iaload, 1) := by decide +kernel
theorem dX6_part_184 : decode cX6_part 184 = .ok (.if_icmp .ne 7, 3) := by decide +kernel
theorem dX6_part_187 : decode cX6_part 187 = .ok (.iconst 0, 1) := by decide +kernel
theorem dX6_part_188 : decode cX6_part 188 = .ok (.goto 4, 3) := by decide +kernel
theorem dX6_part_191 : decode cX6_part 191 = .ok (.iconst 1, 1) := by decide +kernel
theorem dX6_part_192 : decode cX6_part 192 = .ok (.ireturn, 1) := by decide +kernel
theorem dX6_rest_0 : decode cX6_rest 0 = .ok (.aload_n 0, 1) := by decide +kernel
theorem dX6_rest_1 : decode cX6_rest 1 = .ok (.iconst 0, 1) := by decide +kernel
theorem dX6_rest_2 : decode cX6_rest 2 = .ok (.putfield 102, 3) := by decide +kernel
theorem dX6_rest_5 : decode cX6_rest 5 = .ok (.aload_n 0, 1) := by decide +kernel
theorem dX6_rest_6 : decode cX6_rest 6 = .ok (.getfield 113, 3) := by decide +kernel
theorem dX6_rest_9 : decode cX6_rest 9 = .ok (.ifCond .eq 15, 3) := by decide +kernel
theorem dX6_rest_12 : decode cX6_rest 12 = .ok (.aload_n 0, 1) := by decide +kernel
theorem dX6_rest_13 : decode cX6_rest 13 = .ok (.getfield 126, 3) := by decide +kernel
theorem dX6_rest_16 : decode cX6_rest 16 = .ok (.aload_n 0, 1) := by decide +kernel
theorem dX6_rest_17 : decode cX6_rest 17 = .ok (.getfield 160, 3) := by decide +kernel
theorem dX6_rest_20 : decode cX6_rest 20 = .ok (.isub, 1) := by decide +kernel
theorem dX6_rest_21 : decode cX6_rest 21 = .ok (.goto 8, 3) := by decide +kernel
theorem dX6_rest_24 : decode cX6_rest 24 = .ok (.aload_n 0, 1) := by decide +kernel
theorem dX6_rest_25 : decode cX6_rest 25 = .ok (.iconst 1, 1) := by decide +kernel
theorem dX6_rest_26 : decode cX6_rest 26 = .ok (.invokevirtual 106, 3) := by decide +kernel
theorem dX6_rest_29 : decode cX6_rest 29 = .ok (.ireturn, 1) := by decide +kernel
theorem dX6_character_0 : decode cX6_character 0 = .ok (.aload_n 0, 1) := by decide +kernel
theorem dX6_character_1 : decode cX6_character 1 = .ok (.iconst 0, 1) := by decide +kernel
theorem dX6_character_2 : decode cX6_character 2 = .ok (.putfield 102, 3) := by decide +kernel
theorem dX6_character_5 : decode cX6_character 5 = .ok (.iload_n 1, 1) := by decide +kernel
theorem dX6_character_6 : decode cX6_character 6 = .ok (.aload_n 0, 1) := by decide +kernel
theorem dX6_character_7 : decode cX6_character 7 = .ok (.getfield 187, 3) := by decide +kernel
theorem dX6_character_10 : decode cX6_character 10 = .ok (.invokestatic 225, 3) := by decide +kernel
theorem dX6_character_13 : decode cX6_character 13 = .ok (.ifCond .eq 12, 3) := by decide +kernel
theorem dX6_character_16 : decode cX6_character 16 = .ok (.aload_n 0, 1) := by decide +kernel
theorem dX6_character_17 : decode cX6_character 17 = .ok (.getfield 99, 3) := by decide +kernel
theorem dX6_character_20 : decode cX6_character 20 = .ok (.iload_n 1, 1) := by decide +kernel
theorem dX6_character_21 : decode cX6_character 21 = .ok (.iaload, 1) := by decide +kernel
theorem dX6_character_22 : decode cX6_character 22 = .ok (.goto 8, 3) := by decide +kernel
theorem dX6_character_25 : decode cX6_character 25 = .ok (.aload_n 0, 1) := by decide +kernel
theorem dX6_character_26 : decode cX6_character 26 = .ok (.iconst 1, 1) := by decide +kernel
theorem dX6_character_27 : decode cX6_character 27 = .ok (.invokevirtual 106, 3) := by decide +kernel
theorem dX6_character_30 : decode cX6_character 30 = .ok (.ireturn, 1) := by decide +kernel
theorem dX6_count_0 : decode cX6_count 0 = .ok (.aload_n 0, 1) := by decide +kernel
theorem dX6_count_1 : decode cX6_count 1 = .ok (.iconst 0, 1) := by decide +kernel
theorem dX6_count_2 : decode cX6_count 2 = .ok (.putfield 102, 3) := by decide +kernel
theorem dX6_count_5 : decode cX6_count 5 = .ok (.iload_n 1, 1) := by decide +kernel
theorem dX6_count_6 : decode cX6_count 6 = .ok (.ifCond .ne 10, 3) := by decide +kernel
theorem dX6_count_9 : decode cX6_count 9 = .ok (.aload_n 0, 1) := by decide +kernel
theorem dX6_count_10 : decode cX6_count 10 = .ok (.getfield 110, 3) := by decide +kernel
theorem dX6_count_13 : decode cX6_count 13 = .ok (.goto 28, 3) := by decide +kernel
theorem dX6_count_16 : decode cX6_count 16 = .ok (.iload_n 1, 1) := by decide +kernel
theorem dX6_count_17 : decode cX6_count 17 = .ok (.iconst 1, 1) := by decide +kernel
theorem dX6_count_18 : decode cX6_count 18 = .ok (.if_icmp .ne 10, 3) := by decide +kernel
theorem dX6_count_21 : decode cX6_count 21 = .ok (.aload_n 0, 1) := by decide +kernel
theorem dX6_count_22 : decode cX6_count 22 = .ok (.getfield 181, 3) := by decide +kernel
theorem dX6_count_25 : decode cX6_count 25 = .ok (.goto 16, 3) := by decide +kernel
theorem dX6_count_28 : decode cX6_count 28 = .ok (.iload_n 1, 1) := by decide +kernel
theorem dX6_count_29 : decode cX6_count 29 = .ok (.iconst 2, 1) := by decide +kernel
theorem dX6_count_30 : decode cX6_count 30 = .ok (.if_icmp .ne 10, 3) := by decide +kernel
theorem dX6_count_33 : decode cX6_count 33 = .ok (.aload_n 0, 1) := by decide +kernel
theorem dX6_count_34 : decode cX6_count 34 = .ok (.getfield 184, 3) := by decide +kernel
theorem dX6_count_37 : decode cX6_count 37 = .ok (.goto 4, 3) := by decide +kernel
theorem dX6_count_40 : decode cX6_count 40 = .ok (.iconst (-1), 1) := by decide +kernel
theorem dX6_count_41 : decode cX6_count 41 = .ok (.ireturn, 1) := by decide +kernel
theorem dL_rule_0 : decode cL_rule 0 = .ok (.aload 5, 2) := by decide +kernel
theorem dL_rule_2 : decode cL_rule 2 = .ok (.iconst 0, 1) := by decide +kernel
theorem dL_rule_3 : decode cL_rule 3 = .ok (.aload_n 0, 1) := by decide +kernel
theorem dL_rule_4 : decode cL_rule 4 = .ok (.iload_n 1, 1) := by decide +kernel
theorem dL_rule_5 : decode cL_rule 5 = .ok (.iload_n 2, 1) := by decide +kernel
theorem dL_rule_6 : decode cL_rule 6 = .ok (.iload_n 3, 1) := by decide +kernel
theorem dL_rule_7 : decode cL_rule 7 = .ok (.iload 4, 2) := by decide +kernel
theorem dL_rule_9 : decode cL_rule 9 = .ok (.invokevirtual 7, 3) := by decide +kernel
theorem dL_rule_12 : decode cL_rule 12 = .ok (.i2l, 1) := by decide +kernel
theorem dL_rule_13 : decode cL_rule 13 = .ok (.lastore, 1) := by decide +kernel
theorem dL_rule_14 : decode cL_rule 14 = .ok (.goto 11, 3) := by decide +kernel
theorem dL_rule_17 : decode cL_rule 17 = .ok (.astore 6, 2) := by decide +kernel
theorem dL_rule_19 : decode cL_rule 19 = .ok (.iconst 1, 1) := by decide +kernel
theorem dL_rule_20 : decode cL_rule 20 = .ok (.ireturn, 1) := by decide +kernel
theorem dL_rule_21 : decode cL_rule 21 = .ok (.astore 6, 2) := by decide +kernel
theorem dL_rule_23 : decode cL_rule 23 = .ok (.iconst 2, 1) := by decide +kernel
theorem dL_rule_24 : decode cL_rule 24 = .ok (.ireturn, 1) := by decide +kernel
theorem dL_rule_25 : decode cL_rule 25 = .ok (.iconst 0, 1) := by decide +kernel
theorem dL_rule_26 : decode cL_rule 26 = .ok (.ireturn, 1) := by decide +kernel
theorem dL_write_0 : decode cL_write 0 = .ok (.aload 4, 2) := by decide +kernel
theorem dL_write_2 : decode cL_write 2 = .ok (.iconst 0, 1) := by decide +kernel
theorem dL_write_3 : decode cL_write 3 = .ok (.aload_n 0, 1) := by decide +kernel
theorem dL_write_4 : decode cL_write 4 = .ok (.lload_n 1, 1) := by decide +kernel
theorem dL_write_5 : decode cL_write 5 = .ok (.iload_n 3, 1) := by decide +kernel
theorem dL_write_6 : decode cL_write 6 = .ok (.invokevirtual 17, 3) := by decide +kernel
theorem dL_write_9 : decode cL_write 9 = .ok (.i2l, 1) := by decide +kernel
theorem dL_write_10 : decode cL_write 10 = .ok (.lastore, 1) := by decide +kernel
theorem dL_write_11 : decode cL_write 11 = .ok (.goto 11, 3) := by decide +kernel
theorem dL_write_14 : decode cL_write 14 = .ok (.astore 5, 2) := by decide +kernel
theorem dL_write_16 : decode cL_write 16 = .ok (.iconst 1, 1) := by decide +kernel
theorem dL_write_17 : decode cL_write 17 = .ok (.ireturn, 1) := by decide +kernel
theorem dL_write_18 : decode cL_write 18 = .ok (.astore 5, 2) := by decide +kernel
theorem dL_write_20 : decode cL_write 20 = .ok (.iconst 2, 1) := by decide +kernel
theorem dL_write_21 : decode cL_write 21 = .ok (.ireturn, 1) := by decide +kernel
theorem dL_write_22 : decode cL_write 22 = .ok (.iconst 0, 1) := by decide +kernel
theorem dL_write_23 : decode cL_write 23 = .ok (.ireturn, 1) := by decide +kernel
theorem dL_repair_0 : decode cL_repair 0 = .ok (.aload_n 1, 1) := by decide +kernel
theorem dL_repair_1 : decode cL_repair 1 = .ok (.iconst 0, 1) := by decide +kernel
theorem dL_repair_2 : decode cL_repair 2 = .ok (.aload_n 0, 1) := by decide +kernel
theorem dL_repair_3 : decode cL_repair 3 = .ok (.invokevirtual 21, 3) := by decide +kernel
theorem dL_repair_6 : decode cL_repair 6 = .ok (.i2l, 1) := by decide +kernel
theorem dL_repair_7 : decode cL_repair 7 = .ok (.lastore, 1) := by decide +kernel
theorem dL_repair_8 : decode cL_repair 8 = .ok (.goto 9, 3) := by decide +kernel
theorem dL_repair_11 : decode cL_repair 11 = .ok (.astore_n 2, 1) := by decide +kernel
theorem dL_repair_12 : decode cL_repair 12 = .ok (.iconst 1, 1) := by decide +kernel
theorem dL_repair_13 : decode cL_repair 13 = .ok (.ireturn, 1) := by decide +kernel
theorem dL_repair_14 : decode cL_repair 14 = .ok (.astore_n 2, 1) := by decide +kernel
theorem dL_repair_15 : decode cL_repair 15 = .ok (.iconst 2, 1) := by decide +kernel
theorem dL_repair_16 : decode cL_repair 16 = .ok (.ireturn, 1) := by decide +kernel
theorem dL_repair_17 : decode cL_repair 17 = .ok (.iconst 0, 1) := by decide +kernel
theorem dL_repair_18 : decode cL_repair 18 = .ok (.ireturn, 1) := by decide +kernel
theorem dL_token_0 : decode cL_token 0 = .ok (.aload_n 3, 1) := by decide +kernel
theorem dL_token_1 : decode cL_token 1 = .ok (.iconst 0, 1) := by decide +kernel
theorem dL_token_2 : decode cL_token 2 = .ok (.aload_n 0, 1) := by decide +kernel
theorem dL_token_3 : decode cL_token 3 = .ok (.iload_n 1, 1) := by decide +kernel
theorem dL_token_4 : decode cL_token 4 = .ok (.iload_n 2, 1) := by decide +kernel
theorem dL_token_5 : decode cL_token 5 = .ok (.invokevirtual 27, 3) := by decide +kernel
theorem dL_token_8 : decode cL_token 8 = .ok (.i2l, 1) := by decide +kernel
theorem dL_token_9 : decode cL_token 9 = .ok (.lastore, 1) := by decide +kernel
theorem dL_token_10 : decode cL_token 10 = .ok (.goto 7, 3) := by decide +kernel
theorem dL_token_13 : decode cL_token 13 = .ok (.astore 4, 2) := by decide +kernel
theorem dL_token_15 : decode cL_token 15 = .ok (.iconst 1, 1) := by decide +kernel
theorem dL_token_16 : decode cL_token 16 = .ok (.ireturn, 1) := by decide +kernel
theorem dL_token_17 : decode cL_token 17 = .ok (.iconst 0, 1) := by decide +kernel
theorem dL_token_18 : decode cL_token 18 = .ok (.ireturn, 1) := by decide +kernel
theorem dL_part_0 : decode cL_part 0 = .ok (.aload_n 3, 1) := by decide +kernel
theorem dL_part_1 : decode cL_part 1 = .ok (.iconst 0, 1) := by decide +kernel
theorem dL_part_2 : decode cL_part 2 = .ok (.aload_n 0, 1) := by decide +kernel
theorem dL_part_3 : decode cL_part 3 = .ok (.iload_n 1, 1) := by decide +kernel
theorem dL_part_4 : decode cL_part 4 = .ok (.iload_n 2, 1) := by decide +kernel
theorem dL_part_5 : decode cL_part 5 = .ok (.invokevirtual 33, 3) := by decide +kernel
theorem dL_part_8 : decode cL_part 8 = .ok (.i2l, 1) := by decide +kernel
theorem dL_part_9 : decode cL_part 9 = .ok (.lastore, 1) := by decide +kernel
theorem dL_part_10 : decode cL_part 10 = .ok (.goto 7, 3) := by decide +kernel
theorem dL_part_13 : decode cL_part 13 = .ok (.astore 4, 2) := by decide +kernel
theorem dL_part_15 : decode cL_part 15 = .ok (.iconst 1, 1) := by decide +kernel
theorem dL_part_16 : decode cL_part 16 = .ok (.ireturn, 1) := by decide +kernel
theorem dL_part_17 : decode cL_part 17 = .ok (.iconst 0, 1) := by decide +kernel
theorem dL_part_18 : decode cL_part 18 = .ok (.ireturn, 1) := by decide +kernel
theorem dL_rest_0 : decode cL_rest 0 = .ok (.aload_n 1, 1) := by decide +kernel
theorem dL_rest_1 : decode cL_rest 1 = .ok (.iconst 0, 1) := by decide +kernel
theorem dL_rest_2 : decode cL_rest 2 = .ok (.aload_n 0, 1) := by decide +kernel
theorem dL_rest_3 : decode cL_rest 3 = .ok (.invokevirtual 36, 3) := by decide +kernel
theorem dL_rest_6 : decode cL_rest 6 = .ok (.i2l, 1) := by decide +kernel
theorem dL_rest_7 : decode cL_rest 7 = .ok (.lastore, 1) := by decide +kernel
theorem dL_rest_8 : decode cL_rest 8 = .ok (.goto 6, 3) := by decide +kernel
theorem dL_rest_11 : decode cL_rest 11 = .ok (.astore_n 2, 1) := by decide +kernel
theorem dL_rest_12 : decode cL_rest 12 = .ok (.iconst 1, 1) := by decide +kernel
theorem dL_rest_13 : decode cL_rest 13 = .ok (.ireturn, 1) := by decide +kernel
theorem dL_rest_14 : decode cL_rest 14 = .ok (.iconst 0, 1) := by decide +kernel
theorem dL_rest_15 : decode cL_rest 15 = .ok (.ireturn, 1) := by decide +kernel
theorem dL_print_0 : decode cL_print 0 = .ok (.aload_n 2, 1) := by decide +kernel
theorem dL_print_1 : decode cL_print 1 = .ok (.iconst 0, 1) := by decide +kernel
theorem dL_print_2 : decode cL_print 2 = .ok (.aload_n 0, 1) := by decide +kernel
theorem dL_print_3 : decode cL_print 3 = .ok (.iload_n 1, 1) := by decide +kernel
theorem dL_print_4 : decode cL_print 4 = .ok (.invokevirtual 39, 3) := by decide +kernel
theorem dL_print_7 : decode cL_print 7 = .ok (.i2l, 1) := by decide +kernel
theorem dL_print_8 : decode cL_print 8 = .ok (.lastore, 1) := by decide +kernel
theorem dL_print_9 : decode cL_print 9 = .ok (.goto 9, 3) := by decide +kernel
theorem dL_print_12 : decode cL_print 12 = .ok (.astore_n 3, 1) := by decide +kernel
theorem dL_print_13 : decode cL_print 13 = .ok (.iconst 1, 1) := by decide +kernel
theorem dL_print_14 : decode cL_print 14 = .ok (.ireturn, 1) := by decide +kernel
theorem dL_print_15 : decode cL_print 15 = .ok (.astore_n 3, 1) := by decide +kernel
theorem dL_print_16 : decode cL_print 16 = .ok (.iconst 2, 1) := by decide +kernel
theorem dL_print_17 : decode cL_print 17 = .ok (.ireturn, 1) := by decide +kernel
theorem dL_print_18 : decode cL_print 18 = .ok (.iconst 0, 1) := by decide +kernel
theorem dL_print_19 : decode cL_print 19 = .ok (.ireturn, 1) := by decide +kernel
theorem dL_character_0 : decode cL_character 0 = .ok (.aload_n 2, 1) := by decide +kernel
theorem dL_character_1 : decode cL_character 1 = .ok (.iconst 0, 1) := by decide +kernel
theorem dL_character_2 : decode cL_character 2 = .ok (.aload_n 0, 1) := by decide +kernel
theorem dL_character_3 : decode cL_character 3 = .ok (.iload_n 1, 1) := by decide +kernel
theorem dL_character_4 : decode cL_character 4 = .ok (.invokevirtual 43, 3) := by decide +kernel
theorem dL_character_7 : decode cL_character 7 = .ok (.i2l, 1) := by decide +kernel
theorem dL_character_8 : decode cL_character 8 = .ok (.lastore, 1) := by decide +kernel
theorem dL_character_9 : decode cL_character 9 = .ok (.goto 6, 3) := by decide +kernel
theorem dL_character_12 : decode cL_character 12 = .ok (.astore_n 3, 1) := by decide +kernel
theorem dL_character_13 : decode cL_character 13 = .ok (.iconst 1, 1) := by decide +kernel
theorem dL_character_14 : decode cL_character 14 = .ok (.ireturn, 1) := by decide +kernel
theorem dL_character_15 : decode cL_character 15 = .ok (.iconst 0, 1) := by decide +kernel
theorem dL_character_16 : decode cL_character 16 = .ok (.ireturn, 1) := by decide +kernel
theorem dL_law_0 : decode cL_law 0 = .ok (.new 8, 3) := by decide +kernel
theorem dL_law_3 : decode cL_law 3 = .ok (.dup, 1) := by decide +kernel
theorem dL_law_4 : decode cL_law 4 = .ok (.invokespecial 46, 3) := by decide +kernel
theorem dL_law_7 : decode cL_law 7 = .ok (.astore_n 1, 1) := by decide +kernel
theorem dL_law_8 : decode cL_law 8 = .ok (.new 47, 3) := by decide +kernel
theorem dL_law_11 : decode cL_law 11 = .ok (.dup, 1) := by decide +kernel
theorem dL_law_12 : decode cL_law 12 = .ok (.invokespecial 49, 3) := by decide +kernel
theorem dL_law_15 : decode cL_law 15 = .ok (.astore_n 2, 1) := by decide +kernel
theorem dL_law_16 : decode cL_law 16 = .ok (.iconst 1, 1) := by decide +kernel
theorem dL_law_17 : decode cL_law 17 = .ok (.newarray .long, 2) := by decide +kernel
theorem dL_law_19 : decode cL_law 19 = .ok (.astore_n 3, 1) := by decide +kernel
theorem dL_law_20 : decode cL_law 20 = .ok (.iconst 0, 1) := by decide +kernel
theorem dL_law_21 : decode cL_law 21 = .ok (.istore 4, 2) := by decide +kernel
theorem dL_law_23 : decode cL_law 23 = .ok (.iload 4, 2) := by decide +kernel
theorem dL_law_25 : decode cL_law 25 = .ok (.aload_n 0, 1) := by decide +kernel
theorem dL_law_26 : decode cL_law 26 = .ok (.arraylength, 1) := by decide +kernel
theorem dL_law_27 : decode cL_law 27 = .ok (.iconst 5, 1) := by decide +kernel
theorem dL_law_28 : decode cL_law 28 = .ok (.isub, 1) := by decide +kernel
theorem dL_law_29 : decode cL_law 29 = .ok (.if_icmp .gt 714, 3) := by decide +kernel
theorem dL_law_32 : decode cL_law 32 = .ok (.aload_n 0, 1) := by decide +kernel
theorem dL_law_33 : decode cL_law 33 = .ok (.iload 4, 2) := by decide +kernel
theorem dL_law_35 : decode cL_law 35 = .ok (.iaload, 1) := by decide +kernel
theorem dL_law_36 : decode cL_law 36 = .ok (.bipush 15, 2) := by decide +kernel
theorem dL_law_38 : decode cL_law 38 = .ok (.iand, 1) := by decide +kernel
theorem dL_law_39 : decode cL_law 39 = .ok (.tableswitch 698 0 12 #[65, 173, 273, 286, 330, 343, 411, 424, 492, 536, 592, 648, 673], 65) := by decide +kernel
theorem dL_law_104 : decode cL_law 104 = .ok (.aload_n 1, 1) := by decide +kernel
theorem dL_law_105 : decode cL_law 105 = .ok (.aload_n 0, 1) := by decide +kernel
theorem dL_law_106 : decode cL_law 106 = .ok (.iload 4, 2) := by decide +kernel
theorem dL_law_108 : decode cL_law 108 = .ok (.iconst 1, 1) := by decide +kernel
theorem dL_law_109 : decode cL_law 109 = .ok (.iadd, 1) := by decide +kernel
theorem dL_law_110 : decode cL_law 110 = .ok (.iaload, 1) := by decide +kernel
theorem dL_law_111 : decode cL_law 111 = .ok (.aload_n 0, 1) := by decide +kernel
theorem dL_law_112 : decode cL_law 112 = .ok (.iload 4, 2) := by decide +kernel
theorem dL_law_114 : decode cL_law 114 = .ok (.iconst 2, 1) := by decide +kernel
theorem dL_law_115 : decode cL_law 115 = .ok (.iadd, 1) := by decide +kernel
theorem dL_law_116 : decode cL_law 116 = .ok (.iaload, 1) := by decide +kernel
theorem dL_law_117 : decode cL_law 117 = .ok (.aload_n 0, 1) := by decide +kernel
theorem dL_law_118 : decode cL_law 118 = .ok (.iload 4, 2) := by decide +kernel
theorem dL_law_120 : decode cL_law 120 = .ok (.iconst 3, 1) := by decide +kernel
theorem dL_law_121 : decode cL_law 121 = .ok (.iadd, 1) := by decide +kernel
theorem dL_law_122 : decode cL_law 122 = .ok (.iaload, 1) := by decide +kernel
theorem dL_law_123 : decode cL_law 123 = .ok (.aload_n 0, 1) := by decide +kernel
theorem dL_law_124 : decode cL_law 124 = .ok (.iload 4, 2) := by decide +kernel
theorem dL_law_126 : decode cL_law 126 = .ok (.iconst 4, 1) := by decide +kernel
theorem dL_law_127 : decode cL_law 127 = .ok (.iadd, 1) := by decide +kernel
theorem dL_law_128 : decode cL_law 128 = .ok (.iaload, 1) := by decide +kernel
theorem dL_law_129 : decode cL_law 129 = .ok (.ifCond .eq 7, 3) := by decide +kernel
theorem dL_law_132 : decode cL_law 132 = .ok (.iconst 1, 1) := by decide +kernel
theorem dL_law_133 : decode cL_law 133 = .ok (.goto 4, 3) := by decide +kernel
theorem dL_law_136 : decode cL_law 136 = .ok (.iconst 0, 1) := by decide +kernel
theorem dL_law_137 : decode cL_law 137 = .ok (.aload_n 3, 1) := by decide +kernel
theorem dL_law_138 : decode cL_law 138 = .ok (.invokestatic 50, 3) := by decide +kernel
theorem dL_law_141 : decode cL_law 141 = .ok (.istore 5, 2) := by decide +kernel
theorem dL_law_143 : decode cL_law 143 = .ok (.aload_n 2, 1) := by decide +kernel
theorem dL_law_144 : decode cL_law 144 = .ok (.aload_n 0, 1) := by decide +kernel
theorem dL_law_145 : decode cL_law 145 = .ok (.iload 4, 2) := by decide +kernel
theorem dL_law_147 : decode cL_law 147 = .ok (.iconst 1, 1) := by decide +kernel
theorem dL_law_148 : decode cL_law 148 = .ok (.iadd, 1) := by decide +kernel
theorem dL_law_149 : decode cL_law 149 = .ok (.iaload, 1) := by decide +kernel
theorem dL_law_150 : decode cL_law 150 = .ok (.aload_n 0, 1) := by decide +kernel
theorem dL_law_151 : decode cL_law 151 = .ok (.iload 4, 2) := by decide +kernel
theorem dL_law_153 : decode cL_law 153 = .ok (.iconst 2, 1) := by decide +kernel
theorem dL_law_154 : decode cL_law 154 = .ok (.iadd, 1) := by decide +kernel
theorem dL_law_155 : decode cL_law 155 = .ok (.iaload, 1) := by decide +kernel
theorem dL_law_156 : decode cL_law 156 = .ok (.aload_n 0, 1) := by decide +kernel
theorem dL_law_157 : decode cL_law 157 = .ok (.iload 4, 2) := by decide +kernel
theorem dL_law_159 : decode cL_law 159 = .ok (.iconst 3, 1) := by decide +kernel
theorem dL_law_160 : decode cL_law 160 = .ok (.iadd, 1) := by decide +kernel
theorem dL_law_161 : decode cL_law 161 = .ok (.iaload, 1) := by decide +kernel
theorem dL_law_162 : decode cL_law 162 = .ok (.aload_n 0, 1) := by decide +kernel
theorem dL_law_163 : decode cL_law 163 = .ok (.iload 4, 2) := by decide +kernel
theorem dL_law_165 : decode cL_law 165 = .ok (.iconst 4, 1) := by decide +kernel
theorem dL_law_166 : decode cL_law 166 = .ok (.iadd, 1) := by decide +kernel
theorem dL_law_167 : decode cL_law 167 = .ok (.iaload, 1) := by decide +kernel
theorem dL_law_168 : decode cL_law 168 = .ok (.ifCond .eq 7, 3) := by decide +kernel
theorem dL_law_171 : decode cL_law 171 = .ok (.iconst 1, 1) := by decide +kernel
theorem dL_law_172 : decode cL_law 172 = .ok (.goto 4, 3) := by decide +kernel
theorem dL_law_175 : decode cL_law 175 = .ok (.iconst 0, 1) := by decide +kernel
theorem dL_law_176 : decode cL_law 176 = .ok (.invokevirtual 55, 3) := by decide +kernel
theorem dL_law_179 : decode cL_law 179 = .ok (.istore 6, 2) := by decide +kernel
theorem dL_law_181 : decode cL_law 181 = .ok (.aload_n 2, 1) := by decide +kernel
theorem dL_law_182 : decode cL_law 182 = .ok (.invokevirtual 56, 3) := by decide +kernel
theorem dL_law_185 : decode cL_law 185 = .ok (.iload 5, 2) := by decide +kernel
theorem dL_law_187 : decode cL_law 187 = .ok (.if_icmp .eq 5, 3) := by decide +kernel
theorem dL_law_190 : decode cL_law 190 = .ok (.iconst 0, 1) := by decide +kernel
theorem dL_law_191 : decode cL_law 191 = .ok (.ireturn, 1) := by decide +kernel
theorem dL_law_192 : decode cL_law 192 = .ok (.iload 5, 2) := by decide +kernel
theorem dL_law_194 : decode cL_law 194 = .ok (.ifCond .ne 15, 3) := by decide +kernel
theorem dL_law_197 : decode cL_law 197 = .ok (.aload_n 3, 1) := by decide +kernel
theorem dL_law_198 : decode cL_law 198 = .ok (.iconst 0, 1) := by decide +kernel
theorem dL_law_199 : decode cL_law 199 = .ok (.laload, 1) := by decide +kernel
theorem dL_law_200 : decode cL_law 200 = .ok (.iload 6, 2) := by decide +kernel
theorem dL_law_202 : decode cL_law 202 = .ok (.i2l, 1) := by decide +kernel
theorem dL_law_203 : decode cL_law 203 = .ok (.lcmp, 1) := by decide +kernel
theorem dL_law_204 : decode cL_law 204 = .ok (.ifCond .eq 5, 3) := by decide +kernel
theorem dL_law_207 : decode cL_law 207 = .ok (.iconst 0, 1) := by decide +kernel
theorem dL_law_208 : decode cL_law 208 = .ok (.ireturn, 1) := by decide +kernel
theorem dL_law_209 : decode cL_law 209 = .ok (.goto 528, 3) := by decide +kernel
theorem dL_law_212 : decode cL_law 212 = .ok (.aload_n 1, 1) := by decide +kernel
theorem dL_law_213 : decode cL_law 213 = .ok (.aload_n 0, 1) := by decide +kernel
theorem dL_law_214 : decode cL_law 214 = .ok (.iload 4, 2) := by decide +kernel
theorem dL_law_216 : decode cL_law 216 = .ok (.iconst 1, 1) := by decide +kernel
theorem dL_law_217 : decode cL_law 217 = .ok (.iadd, 1) := by decide +kernel
theorem dL_law_218 : decode cL_law 218 = .ok (.iaload, 1) := by decide +kernel
theorem dL_law_219 : decode cL_law 219 = .ok (.i2l, 1) := by decide +kernel
theorem dL_law_220 : decode cL_law 220 = .ok (.bipush 32, 2) := by decide +kernel
theorem dL_law_222 : decode cL_law 222 = .ok (.lshl, 1) := by decide +kernel
theorem dL_law_223 : decode cL_law 223 = .ok (.aload_n 0, 1) := by decide +kernel
theorem dL_law_224 : decode cL_law 224 = .ok (.iload 4, 2) := by decide +kernel
theorem dL_law_226 : decode cL_law 226 = .ok (.iconst 2, 1) := by decide +kernel
theorem dL_law_227 : decode cL_law 227 = .ok (.iadd, 1) := by decide +kernel
theorem dL_law_228 : decode cL_law 228 = .ok (.iaload, 1) := by decide +kernel
theorem dL_law_229 : decode cL_law 229 = .ok (.i2l, 1) := by decide +kernel
theorem dL_law_230 : decode cL_law 230 = .ok (.ldc2_w 59, 3) := by decide +kernel
theorem dL_law_233 : decode cL_law 233 = .ok (.land, 1) := by decide +kernel
theorem dL_law_234 : decode cL_law 234 = .ok (.lor, 1) := by decide +kernel
theorem dL_law_235 : decode cL_law 235 = .ok (.aload_n 0, 1) := by decide +kernel
theorem dL_law_236 : decode cL_law 236 = .ok (.iload 4, 2) := by decide +kernel
theorem dL_law_238 : decode cL_law 238 = .ok (.iconst 3, 1) := by decide +kernel
theorem dL_law_239 : decode cL_law 239 = .ok (.iadd, 1) := by decide +kernel
theorem dL_law_240 : decode cL_law 240 = .ok (.iaload, 1) := by decide +kernel
theorem dL_law_241 : decode cL_law 241 = .ok (.aload_n 3, 1) := by decide +kernel
theorem dL_law_242 : decode cL_law 242 = .ok (.invokestatic 61, 3) := by decide +kernel
theorem dL_law_245 : decode cL_law 245 = .ok (.istore 5, 2) := by decide +kernel
theorem dL_law_247 : decode cL_law 247 = .ok (.aload_n 2, 1) := by decide +kernel
theorem dL_law_248 : decode cL_law 248 = .ok (.aload_n 0, 1) := by decide +kernel
theorem dL_law_249 : decode cL_law 249 = .ok (.iload 4, 2) := by decide +kernel
theorem dL_law_251 : decode cL_law 251 = .ok (.iconst 1, 1) := by decide +kernel
theorem dL_law_252 : decode cL_law 252 = .ok (.iadd, 1) := by decide +kernel
theorem dL_law_253 : decode cL_law 253 = .ok (.iaload, 1) := by decide +kernel
theorem dL_law_254 : decode cL_law 254 = .ok (.i2l, 1) := by decide +kernel
theorem dL_law_255 : decode cL_law 255 = .ok (.bipush 32, 2) := by decide +kernel
theorem dL_law_257 : decode cL_law 257 = .ok (.lshl, 1) := by decide +kernel
theorem dL_law_258 : decode cL_law 258 = .ok (.aload_n 0, 1) := by decide +kernel
theorem dL_law_259 : decode cL_law 259 = .ok (.iload 4, 2) := by decide +kernel
theorem dL_law_261 : decode cL_law 261 = .ok (.iconst 2, 1) := by decide +kernel
theorem dL_law_262 : decode cL_law 262 = .ok (.iadd, 1) := by decide +kernel
theorem dL_law_263 : decode cL_law 263 = .ok (.iaload, 1) := by decide +kernel
theorem dL_law_264 : decode cL_law 264 = .ok (.i2l, 1) := by decide +kernel
theorem dL_law_265 : decode cL_law 265 = .ok (.ldc2_w 59, 3) := by decide +kernel
theorem dL_law_268 : decode cL_law 268 = .ok (.land, 1) := by decide +kernel
theorem dL_law_269 : decode cL_law 269 = .ok (.lor, 1) := by decide +kernel
theorem dL_law_270 : decode cL_law 270 = .ok (.aload_n 0, 1) := by decide +kernel
theorem dL_law_271 : decode cL_law 271 = .ok (.iload 4, 2) := by decide +kernel
theorem dL_law_273 : decode cL_law 273 = .ok (.iconst 3, 1) := by decide +kernel
theorem dL_law_274 : decode cL_law 274 = .ok (.iadd, 1) := by decide +kernel
theorem dL_law_275 : decode cL_law 275 = .ok (.iaload, 1) := by decide +kernel
theorem dL_law_276 : decode cL_law 276 = .ok (.invokevirtual 64, 3) := by decide +kernel
theorem dL_law_279 : decode cL_law 279 = .ok (.istore 6, 2) := by decide +kernel
theorem dL_law_281 : decode cL_law 281 = .ok (.aload_n 2, 1) := by decide +kernel
theorem dL_law_282 : decode cL_law 282 = .ok (.invokevirtual 56, 3) := by decide +kernel
theorem dL_law_285 : decode cL_law 285 = .ok (.iload 5, 2) := by decide +kernel
theorem dL_law_287 : decode cL_law 287 = .ok (.if_icmp .eq 5, 3) := by decide +kernel
theorem dL_law_290 : decode cL_law 290 = .ok (.iconst 0, 1) := by decide +kernel
theorem dL_law_291 : decode cL_law 291 = .ok (.ireturn, 1) := by decide +kernel
theorem dL_law_292 : decode cL_law 292 = .ok (.iload 5, 2) := by decide +kernel
theorem dL_law_294 : decode cL_law 294 = .ok (.ifCond .ne 15, 3) := by decide +kernel
theorem dL_law_297 : decode cL_law 297 = .ok (.aload_n 3, 1) := by decide +kernel
theorem dL_law_298 : decode cL_law 298 = .ok (.iconst 0, 1) := by decide +kernel
theorem dL_law_299 : decode cL_law 299 = .ok (.laload, 1) := by decide +kernel
theorem dL_law_300 : decode cL_law 300 = .ok (.iload 6, 2) := by decide +kernel
theorem dL_law_302 : decode cL_law 302 = .ok (.i2l, 1) := by decide +kernel
theorem dL_law_303 : decode cL_law 303 = .ok (.lcmp, 1) := by decide +kernel
theorem dL_law_304 : decode cL_law 304 = .ok (.ifCond .eq 5, 3) := by decide +kernel
theorem dL_law_307 : decode cL_law 307 = .ok (.iconst 0, 1) := by decide +kernel
theorem dL_law_308 : decode cL_law 308 = .ok (.ireturn, 1) := by decide +kernel
theorem dL_law_309 : decode cL_law 309 = .ok (.goto 428, 3) := by decide +kernel
theorem dL_law_312 : decode cL_law 312 = .ok (.aload_n 1, 1) := by decide +kernel
theorem dL_law_313 : decode cL_law 313 = .ok (.invokevirtual 65, 3) := by decide +kernel
theorem dL_law_316 : decode cL_law 316 = .ok (.aload_n 2, 1) := by decide +kernel
theorem dL_law_317 : decode cL_law 317 = .ok (.invokevirtual 68, 3) := by decide +kernel
theorem dL_law_320 : decode cL_law 320 = .ok (.if_icmp .eq 417, 3) := by decide +kernel
theorem dL_law_323 : decode cL_law 323 = .ok (.iconst 0, 1) := by decide +kernel
theorem dL_law_324 : decode cL_law 324 = .ok (.ireturn, 1) := by decide +kernel
theorem dL_law_325 : decode cL_law 325 = .ok (.aload_n 1, 1) := by decide +kernel
theorem dL_law_326 : decode cL_law 326 = .ok (.aload_n 3, 1) := by decide +kernel
theorem dL_law_327 : decode cL_law 327 = .ok (.invokestatic 69, 3) := by decide +kernel
theorem dL_law_330 : decode cL_law 330 = .ok (.istore 5, 2) := by decide +kernel
theorem dL_law_332 : decode cL_law 332 = .ok (.aload_n 2, 1) := by decide +kernel
theorem dL_law_333 : decode cL_law 333 = .ok (.invokevirtual 72, 3) := by decide +kernel
theorem dL_law_336 : decode cL_law 336 = .ok (.istore 6, 2) := by decide +kernel
theorem dL_law_338 : decode cL_law 338 = .ok (.aload_n 2, 1) := by decide +kernel
theorem dL_law_339 : decode cL_law 339 = .ok (.invokevirtual 56, 3) := by decide +kernel
theorem dL_law_342 : decode cL_law 342 = .ok (.iload 5, 2) := by decide +kernel
theorem dL_law_344 : decode cL_law 344 = .ok (.if_icmp .eq 5, 3) := by decide +kernel
theorem dL_law_347 : decode cL_law 347 = .ok (.iconst 0, 1) := by decide +kernel
theorem dL_law_348 : decode cL_law 348 = .ok (.ireturn, 1) := by decide +kernel
theorem dL_law_349 : decode cL_law 349 = .ok (.iload 5, 2) := by decide +kernel
theorem dL_law_351 : decode cL_law 351 = .ok (.ifCond .ne 15, 3) := by decide +kernel
theorem dL_law_354 : decode cL_law 354 = .ok (.aload_n 3, 1) := by decide +kernel
theorem dL_law_355 : decode cL_law 355 = .ok (.iconst 0, 1) := by decide +kernel
theorem dL_law_356 : decode cL_law 356 = .ok (.laload, 1) := by decide +kernel
theorem dL_law_357 : decode cL_law 357 = .ok (.iload 6, 2) := by decide +kernel
theorem dL_law_359 : decode cL_law 359 = .ok (.i2l, 1) := by decide +kernel
theorem dL_law_360 : decode cL_law 360 = .ok (.lcmp, 1) := by decide +kernel
theorem dL_law_361 : decode cL_law 361 = .ok (.ifCond .eq 5, 3) := by decide +kernel
theorem dL_law_364 : decode cL_law 364 = .ok (.iconst 0, 1) := by decide +kernel
theorem dL_law_365 : decode cL_law 365 = .ok (.ireturn, 1) := by decide +kernel
theorem dL_law_366 : decode cL_law 366 = .ok (.goto 371, 3) := by decide +kernel
theorem dL_law_369 : decode cL_law 369 = .ok (.aload_n 1, 1) := by decide +kernel
theorem dL_law_370 : decode cL_law 370 = .ok (.invokevirtual 73, 3) := by decide +kernel
theorem dL_law_373 : decode cL_law 373 = .ok (.aload_n 2, 1) := by decide +kernel
theorem dL_law_374 : decode cL_law 374 = .ok (.invokevirtual 76, 3) := by decide +kernel
theorem dL_law_377 : decode cL_law 377 = .ok (.if_icmp .eq 360, 3) := by decide +kernel
theorem dL_law_380 : decode cL_law 380 = .ok (.iconst 0, 1) := by decide +kernel
theorem dL_law_381 : decode cL_law 381 = .ok (.ireturn, 1) := by decide +kernel
theorem dL_law_382 : decode cL_law 382 = .ok (.aload_n 1, 1) := by decide +kernel
theorem dL_law_383 : decode cL_law 383 = .ok (.aload_n 0, 1) := by decide +kernel
theorem dL_law_384 : decode cL_law 384 = .ok (.iload 4, 2) := by decide +kernel
theorem dL_law_386 : decode cL_law 386 = .ok (.iconst 1, 1) := by decide +kernel
theorem dL_law_387 : decode cL_law 387 = .ok (.iadd, 1) := by decide +kernel
theorem dL_law_388 : decode cL_law 388 = .ok (.iaload, 1) := by decide +kernel
theorem dL_law_389 : decode cL_law 389 = .ok (.aload_n 0, 1) := by decide +kernel
theorem dL_law_390 : decode cL_law 390 = .ok (.iload 4, 2) := by decide +kernel
theorem dL_law_392 : decode cL_law 392 = .ok (.iconst 2, 1) := by decide +kernel
theorem dL_law_393 : decode cL_law 393 = .ok (.iadd, 1) := by decide +kernel
theorem dL_law_394 : decode cL_law 394 = .ok (.iaload, 1) := by decide +kernel
theorem dL_law_395 : decode cL_law 395 = .ok (.aload_n 3, 1) := by decide +kernel
theorem dL_law_396 : decode cL_law 396 = .ok (.invokestatic 77, 3) := by decide +kernel
theorem dL_law_399 : decode cL_law 399 = .ok (.istore 5, 2) := by decide +kernel
theorem dL_law_401 : decode cL_law 401 = .ok (.aload_n 2, 1) := by decide +kernel
theorem dL_law_402 : decode cL_law 402 = .ok (.aload_n 0, 1) := by decide +kernel
theorem dL_law_403 : decode cL_law 403 = .ok (.iload 4, 2) := by decide +kernel
theorem dL_law_405 : decode cL_law 405 = .ok (.iconst 1, 1) := by decide +kernel
theorem dL_law_406 : decode cL_law 406 = .ok (.iadd, 1) := by decide +kernel
theorem dL_law_407 : decode cL_law 407 = .ok (.iaload, 1) := by decide +kernel
theorem dL_law_408 : decode cL_law 408 = .ok (.aload_n 0, 1) := by decide +kernel
theorem dL_law_409 : decode cL_law 409 = .ok (.iload 4, 2) := by decide +kernel
theorem dL_law_411 : decode cL_law 411 = .ok (.iconst 2, 1) := by decide +kernel
theorem dL_law_412 : decode cL_law 412 = .ok (.iadd, 1) := by decide +kernel
theorem dL_law_413 : decode cL_law 413 = .ok (.iaload, 1) := by decide +kernel
theorem dL_law_414 : decode cL_law 414 = .ok (.invokevirtual 80, 3) := by decide +kernel
theorem dL_law_417 : decode cL_law 417 = .ok (.istore 6, 2) := by decide +kernel
theorem dL_law_419 : decode cL_law 419 = .ok (.aload_n 2, 1) := by decide +kernel
theorem dL_law_420 : decode cL_law 420 = .ok (.invokevirtual 56, 3) := by decide +kernel
theorem dL_law_423 : decode cL_law 423 = .ok (.iload 5, 2) := by decide +kernel
theorem dL_law_425 : decode cL_law 425 = .ok (.if_icmp .eq 5, 3) := by decide +kernel
theorem dL_law_428 : decode cL_law 428 = .ok (.iconst 0, 1) := by decide +kernel
theorem dL_law_429 : decode cL_law 429 = .ok (.ireturn, 1) := by decide +kernel
theorem dL_law_430 : decode cL_law 430 = .ok (.iload 5, 2) := by decide +kernel
theorem dL_law_432 : decode cL_law 432 = .ok (.ifCond .ne 15, 3) := by decide +kernel
theorem dL_law_435 : decode cL_law 435 = .ok (.aload_n 3, 1) := by decide +kernel
theorem dL_law_436 : decode cL_law 436 = .ok (.iconst 0, 1) := by decide +kernel
theorem dL_law_437 : decode cL_law 437 = .ok (.laload, 1) := by decide +kernel
theorem dL_law_438 : decode cL_law 438 = .ok (.iload 6, 2) := by decide +kernel
theorem dL_law_440 : decode cL_law 440 = .ok (.i2l, 1) := by decide +kernel
theorem dL_law_441 : decode cL_law 441 = .ok (.lcmp, 1) := by decide +kernel
theorem dL_law_442 : decode cL_law 442 = .ok (.ifCond .eq 5, 3) := by decide +kernel
theorem dL_law_445 : decode cL_law 445 = .ok (.iconst 0, 1) := by decide +kernel
theorem dL_law_446 : decode cL_law 446 = .ok (.ireturn, 1) := by decide +kernel
theorem dL_law_447 : decode cL_law 447 = .ok (.goto 290, 3) := by decide +kernel
theorem dL_law_450 : decode cL_law 450 = .ok (.aload_n 1, 1) := by decide +kernel
theorem dL_law_451 : decode cL_law 451 = .ok (.invokevirtual 81, 3) := by decide +kernel
theorem dL_law_454 : decode cL_law 454 = .ok (.aload_n 2, 1) := by decide +kernel
theorem dL_law_455 : decode cL_law 455 = .ok (.invokevirtual 84, 3) := by decide +kernel
theorem dL_law_458 : decode cL_law 458 = .ok (.if_icmp .eq 279, 3) := by decide +kernel
theorem dL_law_461 : decode cL_law 461 = .ok (.iconst 0, 1) := by decide +kernel
theorem dL_law_462 : decode cL_law 462 = .ok (.ireturn, 1) := by decide +kernel
theorem dL_law_463 : decode cL_law 463 = .ok (.aload_n 1, 1) := by decide +kernel
theorem dL_law_464 : decode cL_law 464 = .ok (.aload_n 0, 1) := by decide +kernel
theorem dL_law_465 : decode cL_law 465 = .ok (.iload 4, 2) := by decide +kernel
theorem dL_law_467 : decode cL_law 467 = .ok (.iconst 1, 1) := by decide +kernel
theorem dL_law_468 : decode cL_law 468 = .ok (.iadd, 1) := by decide +kernel
theorem dL_law_469 : decode cL_law 469 = .ok (.iaload, 1) := by decide +kernel
theorem dL_law_470 : decode cL_law 470 = .ok (.aload_n 0, 1) := by decide +kernel
theorem dL_law_471 : decode cL_law 471 = .ok (.iload 4, 2) := by decide +kernel
theorem dL_law_473 : decode cL_law 473 = .ok (.iconst 2, 1) := by decide +kernel
theorem dL_law_474 : decode cL_law 474 = .ok (.iadd, 1) := by decide +kernel
theorem dL_law_475 : decode cL_law 475 = .ok (.iaload, 1) := by decide +kernel
theorem dL_law_476 : decode cL_law 476 = .ok (.aload_n 3, 1) := by decide +kernel
theorem dL_law_477 : decode cL_law 477 = .ok (.invokestatic 85, 3) := by decide +kernel
theorem dL_law_480 : decode cL_law 480 = .ok (.istore 5, 2) := by decide +kernel
theorem dL_law_482 : decode cL_law 482 = .ok (.aload_n 2, 1) := by decide +kernel
theorem dL_law_483 : decode cL_law 483 = .ok (.aload_n 0, 1) := by decide +kernel
theorem dL_law_484 : decode cL_law 484 = .ok (.iload 4, 2) := by decide +kernel
theorem dL_law_486 : decode cL_law 486 = .ok (.iconst 1, 1) := by decide +kernel
theorem dL_law_487 : decode cL_law 487 = .ok (.iadd, 1) := by decide +kernel
theorem dL_law_488 : decode cL_law 488 = .ok (.iaload, 1) := by decide +kernel
theorem dL_law_489 : decode cL_law 489 = .ok (.aload_n 0, 1) := by decide +kernel
theorem dL_law_490 : decode cL_law 490 = .ok (.iload 4, 2) := by decide +kernel
theorem dL_law_492 : decode cL_law 492 = .ok (.iconst 2, 1) := by decide +kernel
theorem dL_law_493 : decode cL_law 493 = .ok (.iadd, 1) := by decide +kernel
theorem dL_law_494 : decode cL_law 494 = .ok (.iaload, 1) := by decide +kernel
theorem dL_law_495 : decode cL_law 495 = .ok (.invokevirtual 87, 3) := by decide +kernel
theorem dL_law_498 : decode cL_law 498 = .ok (.istore 6, 2) := by decide +kernel
theorem dL_law_500 : decode cL_law 500 = .ok (.aload_n 2, 1) := by decide +kernel
theorem dL_law_501 : decode cL_law 501 = .ok (.invokevirtual 56, 3) := by decide +kernel
theorem dL_law_504 : decode cL_law 504 = .ok (.iload 5, 2) := by decide +kernel
theorem dL_law_506 : decode cL_law 506 = .ok (.if_icmp .eq 5, 3) := by decide +kernel
theorem dL_law_509 : decode cL_law 509 = .ok (.iconst 0, 1) := by decide +kernel
theorem dL_law_510 : decode cL_law 510 = .ok (.ireturn, 1) := by decide +kernel
theorem dL_law_511 : decode cL_law 511 = .ok (.iload 5, 2) := by decide +kernel
theorem dL_law_513 : decode cL_law 513 = .ok (.ifCond .ne 15, 3) := by decide +kernel
theorem dL_law_516 : decode cL_law 516 = .ok (.aload_n 3, 1) := by decide +kernel
theorem dL_law_517 : decode cL_law 517 = .ok (.iconst 0, 1) := by decide +kernel
theorem dL_law_518 : decode cL_law 518 = .ok (.laload, 1) := by decide +kernel
theorem dL_law_519 : decode cL_law 519 = .ok (.iload 6, 2) := by decide +kernel
theorem dL_law_521 : decode cL_law 521 = .ok (.i2l, 1) := by decide +kernel
theorem dL_law_522 : decode cL_law 522 = .ok (.lcmp, 1) := by decide +kernel
theorem dL_law_523 : decode cL_law 523 = .ok (.ifCond .eq 5, 3) := by decide +kernel
theorem dL_law_526 : decode cL_law 526 = .ok (.iconst 0, 1) := by decide +kernel
theorem dL_law_527 : decode cL_law 527 = .ok (.ireturn, 1) := by decide +kernel
theorem dL_law_528 : decode cL_law 528 = .ok (.goto 209, 3) := by decide +kernel
theorem dL_law_531 : decode cL_law 531 = .ok (.aload_n 1, 1) := by decide +kernel
theorem dL_law_532 : decode cL_law 532 = .ok (.aload_n 3, 1) := by decide +kernel
theorem dL_law_533 : decode cL_law 533 = .ok (.invokestatic 88, 3) := by decide +kernel
theorem dL_law_536 : decode cL_law 536 = .ok (.istore 5, 2) := by decide +kernel
theorem dL_law_538 : decode cL_law 538 = .ok (.aload_n 2, 1) := by decide +kernel
theorem dL_law_539 : decode cL_law 539 = .ok (.invokevirtual 90, 3) := by decide +kernel
theorem dL_law_542 : decode cL_law 542 = .ok (.istore 6, 2) := by decide +kernel
theorem dL_law_544 : decode cL_law 544 = .ok (.aload_n 2, 1) := by decide +kernel
theorem dL_law_545 : decode cL_law 545 = .ok (.invokevirtual 56, 3) := by decide +kernel
theorem dL_law_548 : decode cL_law 548 = .ok (.iload 5, 2) := by decide +kernel
theorem dL_law_550 : decode cL_law 550 = .ok (.if_icmp .eq 5, 3) := by decide +kernel
theorem dL_law_553 : decode cL_law 553 = .ok (.iconst 0, 1) := by decide +kernel
theorem dL_law_554 : decode cL_law 554 = .ok (.ireturn, 1) := by decide +kernel
theorem dL_law_555 : decode cL_law 555 = .ok (.iload 5, 2) := by decide +kernel
theorem dL_law_557 : decode cL_law 557 = .ok (.ifCond .ne 15, 3) := by decide +kernel
theorem dL_law_560 : decode cL_law 560 = .ok (.aload_n 3, 1) := by decide +kernel
theorem dL_law_561 : decode cL_law 561 = .ok (.iconst 0, 1) := by decide +kernel
theorem dL_law_562 : decode cL_law 562 = .ok (.laload, 1) := by decide +kernel
theorem dL_law_563 : decode cL_law 563 = .ok (.iload 6, 2) := by decide +kernel
theorem dL_law_565 : decode cL_law 565 = .ok (.i2l, 1) := by decide +kernel
theorem dL_law_566 : decode cL_law 566 = .ok (.lcmp, 1) := by decide +kernel
theorem dL_law_567 : decode cL_law 567 = .ok (.ifCond .eq 5, 3) := by decide +kernel
theorem dL_law_570 : decode cL_law 570 = .ok (.iconst 0, 1) := by decide +kernel
theorem dL_law_571 : decode cL_law 571 = .ok (.ireturn, 1) := by decide +kernel
theorem dL_law_572 : decode cL_law 572 = .ok (.goto 165, 3) := by decide +kernel
theorem dL_law_575 : decode cL_law 575 = .ok (.aload_n 1, 1) := by decide +kernel
theorem dL_law_576 : decode cL_law 576 = .ok (.aload_n 0, 1) := by decide +kernel
theorem dL_law_577 : decode cL_law 577 = .ok (.iload 4, 2) := by decide +kernel
theorem dL_law_579 : decode cL_law 579 = .ok (.iconst 1, 1) := by decide +kernel
theorem dL_law_580 : decode cL_law 580 = .ok (.iadd, 1) := by decide +kernel
theorem dL_law_581 : decode cL_law 581 = .ok (.iaload, 1) := by decide +kernel
theorem dL_law_582 : decode cL_law 582 = .ok (.aload_n 3, 1) := by decide +kernel
theorem dL_law_583 : decode cL_law 583 = .ok (.invokestatic 91, 3) := by decide +kernel
theorem dL_law_586 : decode cL_law 586 = .ok (.istore 5, 2) := by decide +kernel
theorem dL_law_588 : decode cL_law 588 = .ok (.aload_n 2, 1) := by decide +kernel
theorem dL_law_589 : decode cL_law 589 = .ok (.aload_n 0, 1) := by decide +kernel
theorem dL_law_590 : decode cL_law 590 = .ok (.iload 4, 2) := by decide +kernel
theorem dL_law_592 : decode cL_law 592 = .ok (.iconst 1, 1) := by decide +kernel
theorem dL_law_593 : decode cL_law 593 = .ok (.iadd, 1) := by decide +kernel
theorem dL_law_594 : decode cL_law 594 = .ok (.iaload, 1) := by decide +kernel
theorem dL_law_595 : decode cL_law 595 = .ok (.invokevirtual 94, 3) := by decide +kernel
theorem dL_law_598 : decode cL_law 598 = .ok (.istore 6, 2) := by decide +kernel
theorem dL_law_600 : decode cL_law 600 = .ok (.aload_n 2, 1) := by decide +kernel
theorem dL_law_601 : decode cL_law 601 = .ok (.invokevirtual 56, 3) := by decide +kernel
theorem dL_law_604 : decode cL_law 604 = .ok (.iload 5, 2) := by decide +kernel
theorem dL_law_606 : decode cL_law 606 = .ok (.if_icmp .eq 5, 3) := by decide +kernel
theorem dL_law_609 : decode cL_law 609 = .ok (.iconst 0, 1) := by decide +kernel
theorem dL_law_610 : decode cL_law 610 = .ok (.ireturn, 1) := by decide +kernel
theorem dL_law_611 : decode cL_law 611 = .ok (.iload 5, 2) := by decide +kernel
theorem dL_law_613 : decode cL_law 613 = .ok (.ifCond .ne 15, 3) := by decide +kernel
theorem dL_law_616 : decode cL_law 616 = .ok (.aload_n 3, 1) := by decide +kernel
theorem dL_law_617 : decode cL_law 617 = .ok (.iconst 0, 1) := by decide +kernel
theorem dL_law_618 : decode cL_law 618 = .ok (.laload, 1) := by decide +kernel
theorem dL_law_619 : decode cL_law 619 = .ok (.iload 6, 2) := by decide +kernel
theorem dL_law_621 : decode cL_law 621 = .ok (.i2l, 1) := by decide +kernel
theorem dL_law_622 : decode cL_law 622 = .ok (.lcmp, 1) := by decide +kernel
theorem dL_law_623 : decode cL_law 623 = .ok (.ifCond .eq 5, 3) := by decide +kernel
theorem dL_law_626 : decode cL_law 626 = .ok (.iconst 0, 1) := by decide +kernel
theorem dL_law_627 : decode cL_law 627 = .ok (.ireturn, 1) := by decide +kernel
theorem dL_law_628 : decode cL_law 628 = .ok (.goto 109, 3) := by decide +kernel
theorem dL_law_631 : decode cL_law 631 = .ok (.aload_n 1, 1) := by decide +kernel
theorem dL_law_632 : decode cL_law 632 = .ok (.aload_n 0, 1) := by decide +kernel
theorem dL_law_633 : decode cL_law 633 = .ok (.iload 4, 2) := by decide +kernel
theorem dL_law_635 : decode cL_law 635 = .ok (.iconst 1, 1) := by decide +kernel
theorem dL_law_636 : decode cL_law 636 = .ok (.iadd, 1) := by decide +kernel
theorem dL_law_637 : decode cL_law 637 = .ok (.iaload, 1) := by decide +kernel
theorem dL_law_638 : decode cL_law 638 = .ok (.aload_n 3, 1) := by decide +kernel
theorem dL_law_639 : decode cL_law 639 = .ok (.invokestatic 95, 3) := by decide +kernel
theorem dL_law_642 : decode cL_law 642 = .ok (.istore 5, 2) := by decide +kernel
theorem dL_law_644 : decode cL_law 644 = .ok (.aload_n 2, 1) := by decide +kernel
theorem dL_law_645 : decode cL_law 645 = .ok (.aload_n 0, 1) := by decide +kernel
theorem dL_law_646 : decode cL_law 646 = .ok (.iload 4, 2) := by decide +kernel
theorem dL_law_648 : decode cL_law 648 = .ok (.iconst 1, 1) := by decide +kernel
theorem dL_law_649 : decode cL_law 649 = .ok (.iadd, 1) := by decide +kernel
theorem dL_law_650 : decode cL_law 650 = .ok (.iaload, 1) := by decide +kernel
theorem dL_law_651 : decode cL_law 651 = .ok (.invokevirtual 97, 3) := by decide +kernel
theorem dL_law_654 : decode cL_law 654 = .ok (.istore 6, 2) := by decide +kernel
theorem dL_law_656 : decode cL_law 656 = .ok (.aload_n 2, 1) := by decide +kernel
theorem dL_law_657 : decode cL_law 657 = .ok (.invokevirtual 56, 3) := by decide +kernel
theorem dL_law_660 : decode cL_law 660 = .ok (.iload 5, 2) := by decide +kernel
theorem dL_law_662 : decode cL_law 662 = .ok (.if_icmp .eq 5, 3) := by decide +kernel
theorem dL_law_665 : decode cL_law 665 = .ok (.iconst 0, 1) := by decide +kernel
theorem dL_law_666 : decode cL_law 666 = .ok (.ireturn, 1) := by decide +kernel
theorem dL_law_667 : decode cL_law 667 = .ok (.iload 5, 2) := by decide +kernel
theorem dL_law_669 : decode cL_law 669 = .ok (.ifCond .ne 15, 3) := by decide +kernel
theorem dL_law_672 : decode cL_law 672 = .ok (.aload_n 3, 1) := by decide +kernel
theorem dL_law_673 : decode cL_law 673 = .ok (.iconst 0, 1) := by decide +kernel
theorem dL_law_674 : decode cL_law 674 = .ok (.laload, 1) := by decide +kernel
theorem dL_law_675 : decode cL_law 675 = .ok (.iload 6, 2) := by decide +kernel
theorem dL_law_677 : decode cL_law 677 = .ok (.i2l, 1) := by decide +kernel
theorem dL_law_678 : decode cL_law 678 = .ok (.lcmp, 1) := by decide +kernel
theorem dL_law_679 : decode cL_law 679 = .ok (.ifCond .eq 5, 3) := by decide +kernel
theorem dL_law_682 : decode cL_law 682 = .ok (.iconst 0, 1) := by decide +kernel
theorem dL_law_683 : decode cL_law 683 = .ok (.ireturn, 1) := by decide +kernel
theorem dL_law_684 : decode cL_law 684 = .ok (.goto 53, 3) := by decide +kernel
theorem dL_law_687 : decode cL_law 687 = .ok (.aload_n 1, 1) := by decide +kernel
theorem dL_law_688 : decode cL_law 688 = .ok (.aload_n 0, 1) := by decide +kernel
theorem dL_law_689 : decode cL_law 689 = .ok (.iload 4, 2) := by decide +kernel
theorem dL_law_691 : decode cL_law 691 = .ok (.iconst 1, 1) := by decide +kernel
theorem dL_law_692 : decode cL_law 692 = .ok (.iadd, 1) := by decide +kernel
theorem dL_law_693 : decode cL_law 693 = .ok (.iaload, 1) := by decide +kernel
theorem dL_law_694 : decode cL_law 694 = .ok (.invokevirtual 98, 3) := by decide +kernel
theorem dL_law_697 : decode cL_law 697 = .ok (.aload_n 2, 1) := by decide +kernel
theorem dL_law_698 : decode cL_law 698 = .ok (.aload_n 0, 1) := by decide +kernel
theorem dL_law_699 : decode cL_law 699 = .ok (.iload 4, 2) := by decide +kernel
theorem dL_law_701 : decode cL_law 701 = .ok (.iconst 1, 1) := by decide +kernel
theorem dL_law_702 : decode cL_law 702 = .ok (.iadd, 1) := by decide +kernel
theorem dL_law_703 : decode cL_law 703 = .ok (.iaload, 1) := by decide +kernel
theorem dL_law_704 : decode cL_law 704 = .ok (.invokevirtual 102, 3) := by decide +kernel
theorem dL_law_707 : decode cL_law 707 = .ok (.if_icmp .eq 30, 3) := by decide +kernel
theorem dL_law_710 : decode cL_law 710 = .ok (.iconst 0, 1) := by decide +kernel
theorem dL_law_711 : decode cL_law 711 = .ok (.ireturn, 1) := by decide +kernel
theorem dL_law_712 : decode cL_law 712 = .ok (.aload_n 1, 1) := by decide +kernel
theorem dL_law_713 : decode cL_law 713 = .ok (.aload_n 0, 1) := by decide +kernel
theorem dL_law_714 : decode cL_law 714 = .ok (.iload 4, 2) := by decide +kernel
theorem dL_law_716 : decode cL_law 716 = .ok (.iconst 1, 1) := by decide +kernel
theorem dL_law_717 : decode cL_law 717 = .ok (.iadd, 1) := by decide +kernel
theorem dL_law_718 : decode cL_law 718 = .ok (.iaload, 1) := by decide +kernel
theorem dL_law_719 : decode cL_law 719 = .ok (.invokevirtual 103, 3) := by decide +kernel
theorem dL_law_722 : decode cL_law 722 = .ok (.aload_n 2, 1) := by decide +kernel
theorem dL_law_723 : decode cL_law 723 = .ok (.aload_n 0, 1) := by decide +kernel
theorem dL_law_724 : decode cL_law 724 = .ok (.iload 4, 2) := by decide +kernel
theorem dL_law_726 : decode cL_law 726 = .ok (.iconst 1, 1) := by decide +kernel
theorem dL_law_727 : decode cL_law 727 = .ok (.iadd, 1) := by decide +kernel
theorem dL_law_728 : decode cL_law 728 = .ok (.iaload, 1) := by decide +kernel
theorem dL_law_729 : decode cL_law 729 = .ok (.invokevirtual 106, 3) := by decide +kernel
theorem dL_law_732 : decode cL_law 732 = .ok (.if_icmp .eq 5, 3) := by decide +kernel
theorem dL_law_735 : decode cL_law 735 = .ok (.iconst 0, 1) := by decide +kernel
theorem dL_law_736 : decode cL_law 736 = .ok (.ireturn, 1) := by decide +kernel
theorem dL_law_737 : decode cL_law 737 = .ok (.iinc 4 5, 3) := by decide +kernel
theorem dL_law_740 : decode cL_law 740 = .ok (.goto (-717), 3) := by decide +kernel
theorem dL_law_743 : decode cL_law 743 = .ok (.iconst 1, 1) := by decide +kernel
theorem dL_law_744 : decode cL_law 744 = .ok (.ireturn, 1) := by decide +kernel
