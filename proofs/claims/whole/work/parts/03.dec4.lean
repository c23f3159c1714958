theorem dX4_init_0 : decode cX4_init 0 = .ok (.aload_n 0, 1) := by decide +kernel
theorem dX4_init_1 : decode cX4_init 1 = .ok (.invokespecial 3, 3) := by decide +kernel
theorem dX4_init_4 : decode cX4_init 4 = .ok (.aload_n 0, 1) := by decide +kernel
theorem dX4_init_5 : decode cX4_init 5 = .ok (.new 9, 3) := by decide +kernel
theorem dX4_init_8 : decode cX4_init 8 = .ok (.dup, 1) := by decide +kernel
theorem dX4_init_9 : decode cX4_init 9 = .ok (.invokespecial 11, 3) := by decide +kernel
theorem dX4_init_12 : decode cX4_init 12 = .ok (.putfield 12, 3) := by decide +kernel
theorem dX4_init_15 : decode cX4_init 15 = .ok (.aload_n 0, 1) := by decide +kernel
theorem dX4_init_16 : decode cX4_init 16 = .ok (.new 9, 3) := by decide +kernel
theorem dX4_init_19 : decode cX4_init 19 = .ok (.dup, 1) := by decide +kernel
theorem dX4_init_20 : decode cX4_init 20 = .ok (.invokespecial 11, 3) := by decide +kernel
theorem dX4_init_23 : decode cX4_init 23 = .ok (.putfield 16, 3) := by decide +kernel
theorem dX4_init_26 : decode cX4_init 26 = .ok (.aload_n 0, 1) := by decide +kernel
theorem dX4_init_27 : decode cX4_init 27 = .ok (.new 9, 3) := by decide +kernel
theorem dX4_init_30 : decode cX4_init 30 = .ok (.dup, 1) := by decide +kernel
theorem dX4_init_31 : decode cX4_init 31 = .ok (.invokespecial 11, 3) := by decide +kernel
theorem dX4_init_34 : decode cX4_init 34 = .ok (.putfield 19, 3) := by decide +kernel
theorem dX4_init_37 : decode cX4_init 37 = .ok (.aload_n 0, 1) := by decide +kernel
theorem dX4_init_38 : decode cX4_init 38 = .ok (.new 9, 3) := by decide +kernel
theorem dX4_init_41 : decode cX4_init 41 = .ok (.dup, 1) := by decide +kernel
theorem dX4_init_42 : decode cX4_init 42 = .ok (.invokespecial 11, 3) := by decide +kernel
theorem dX4_init_45 : decode cX4_init 45 = .ok (.putfield 22, 3) := by decide +kernel
theorem dX4_init_48 : decode cX4_init 48 = .ok (.aload_n 0, 1) := by decide +kernel
theorem dX4_init_49 : decode cX4_init 49 = .ok (.iconst 2, 1) := by decide +kernel
theorem dX4_init_50 : decode cX4_init 50 = .ok (.newarray .boolean, 2) := by decide +kernel
theorem dX4_init_52 : decode cX4_init 52 = .ok (.putfield 25, 3) := by decide +kernel
theorem dX4_init_55 : decode cX4_init 55 = .ok (.aload_n 0, 1) := by decide +kernel
theorem dX4_init_56 : decode cX4_init 56 = .ok (.new 29, 3) := by decide +kernel
theorem dX4_init_59 : decode cX4_init 59 = .ok (.dup, 1) := by decide +kernel
theorem dX4_init_60 : decode cX4_init 60 = .ok (.invokespecial 31, 3) := by decide +kernel
theorem dX4_init_63 : decode cX4_init 63 = .ok (.putfield 32, 3) := by decide +kernel
theorem dX4_init_66 : decode cX4_init 66 = .ok (.aload_n 0, 1) := by decide +kernel
theorem dX4_init_67 : decode cX4_init 67 = .ok (.new 36, 3) := by decide +kernel
theorem dX4_init_70 : decode cX4_init 70 = .ok (.dup, 1) := by decide +kernel
theorem dX4_init_71 : decode cX4_init 71 = .ok (.invokespecial 38, 3) := by decide +kernel
theorem dX4_init_74 : decode cX4_init 74 = .ok (.putfield 39, 3) := by decide +kernel
theorem dX4_init_77 : decode cX4_init 77 = .ok (.aload_n 0, 1) := by decide +kernel
theorem dX4_init_78 : decode cX4_init 78 = .ok (.new 43, 3) := by decide +kernel
theorem dX4_init_81 : decode cX4_init 81 = .ok (.dup, 1) := by decide +kernel
theorem dX4_init_82 : decode cX4_init 82 = .ok (.invokespecial 45, 3) := by decide +kernel
theorem dX4_init_85 : decode cX4_init 85 = .ok (.putfield 46, 3) := by decide +kernel
theorem dX4_init_88 : decode cX4_init 88 = .ok (.aload_n 0, 1) := by decide +kernel
theorem dX4_init_89 : decode cX4_init 89 = .ok (.bipush 10, 2) := by decide +kernel
theorem dX4_init_91 : decode cX4_init 91 = .ok (.bipush 41, 2) := by decide +kernel
theorem dX4_init_93 : decode cX4_init 93 = .ok (.multianewarray 50 2, 4) := by decide +kernel
theorem dX4_init_97 : decode cX4_init 97 = .ok (.putfield 52, 3) := by decide +kernel
theorem dX4_init_100 : decode cX4_init 100 = .ok (.aload_n 0, 1) := by decide +kernel
theorem dX4_init_101 : decode cX4_init 101 = .ok (.iconst 0, 1) := by decide +kernel
theorem dX4_init_102 : decode cX4_init 102 = .ok (.putfield 55, 3) := by decide +kernel
theorem dX4_init_105 : decode cX4_init 105 = .ok (.return_, 1) := by decide +kernel
theorem dX4_feed_0 : decode cX4_feed 0 = .ok (.iload_n 1, 1) := by decide +kernel
theorem dX4_feed_1 : decode cX4_feed 1 = .ok (.iconst 0, 1) := by decide +kernel
theorem dX4_feed_2 : decode cX4_feed 2 = .ok (.bipush 127, 2) := by decide +kernel
theorem dX4_feed_4 : decode cX4_feed 4 = .ok (.invokestatic 59, 3) := by decide +kernel
theorem dX4_feed_7 : decode cX4_feed 7 = .ok (.ifCond .ne 5, 3) := by decide +kernel
theorem dX4_feed_10 : decode cX4_feed 10 = .ok (.iconst (-1), 1) := by decide +kernel
theorem dX4_feed_11 : decode cX4_feed 11 = .ok (.ireturn, 1) := by decide +kernel
theorem dX4_feed_12 : decode cX4_feed 12 = .ok (.aload_n 0, 1) := by decide +kernel
theorem dX4_feed_13 : decode cX4_feed 13 = .ok (.getfield 32, 3) := by decide +kernel
theorem dX4_feed_16 : decode cX4_feed 16 = .ok (.iload_n 1, 1) := by decide +kernel
theorem dX4_feed_17 : decode cX4_feed 17 = .ok (.invokevirtual 63, 3) := by decide +kernel
theorem dX4_feed_20 : decode cX4_feed 20 = .ok (.ifCond .eq 13, 3) := by decide +kernel
theorem dX4_feed_23 : decode cX4_feed 23 = .ok (.aload_n 0, 1) := by decide +kernel
theorem dX4_feed_24 : decode cX4_feed 24 = .ok (.getfield 32, 3) := by decide +kernel
theorem dX4_feed_27 : decode cX4_feed 27 = .ok (.getfield 67, 3) := by decide +kernel
theorem dX4_feed_30 : decode cX4_feed 30 = .ok (.goto 5, 3) := by decide +kernel
theorem dX4_feed_33 : decode cX4_feed 33 = .ok (.bipush (-3), 2) := by decide +kernel
theorem dX4_feed_35 : decode cX4_feed 35 = .ok (.ireturn, 1) := by decide +kernel
theorem dX4_end_0 : decode cX4_end 0 = .ok (.aload_n 0, 1) := by decide +kernel
theorem dX4_end_1 : decode cX4_end 1 = .ok (.getfield 32, 3) := by decide +kernel
theorem dX4_end_4 : decode cX4_end 4 = .ok (.getfield 67, 3) := by decide +kernel
theorem dX4_end_7 : decode cX4_end 7 = .ok (.istore_n 2, 1) := by decide +kernel
theorem dX4_end_8 : decode cX4_end 8 = .ok (.iload_n 1, 1) := by decide +kernel
theorem dX4_end_9 : decode cX4_end 9 = .ok (.iconst 0, 1) := by decide +kernel
theorem dX4_end_10 : decode cX4_end 10 = .ok (.iload_n 2, 1) := by decide +kernel
theorem dX4_end_11 : decode cX4_end 11 = .ok (.invokestatic 59, 3) := by decide +kernel
theorem dX4_end_14 : decode cX4_end 14 = .ok (.ifCond .ne 5, 3) := by decide +kernel
theorem dX4_end_17 : decode cX4_end 17 = .ok (.iconst (-1), 1) := by decide +kernel
theorem dX4_end_18 : decode cX4_end 18 = .ok (.ireturn, 1) := by decide +kernel
theorem dX4_end_19 : decode cX4_end 19 = .ok (.aload_n 0, 1) := by decide +kernel
theorem dX4_end_20 : decode cX4_end 20 = .ok (.getfield 32, 3) := by decide +kernel
theorem dX4_end_23 : decode cX4_end 23 = .ok (.iload_n 1, 1) := by decide +kernel
theorem dX4_end_24 : decode cX4_end 24 = .ok (.putfield 67, 3) := by decide +kernel
theorem dX4_end_27 : decode cX4_end 27 = .ok (.iload_n 2, 1) := by decide +kernel
theorem dX4_end_28 : decode cX4_end 28 = .ok (.ireturn, 1) := by decide +kernel
theorem dX4_text_0 : decode cX4_text 0 = .ok (.aload_n 0, 1) := by decide +kernel
theorem dX4_text_1 : decode cX4_text 1 = .ok (.getfield 32, 3) := by decide +kernel
theorem dX4_text_4 : decode cX4_text 4 = .ok (.aload_n 0, 1) := by decide +kernel
theorem dX4_text_5 : decode cX4_text 5 = .ok (.getfield 16, 3) := by decide +kernel
theorem dX4_text_8 : decode cX4_text 8 = .ok (.invokevirtual 70, 3) := by decide +kernel
theorem dX4_text_11 : decode cX4_text 11 = .ok (.istore_n 1, 1) := by decide +kernel
theorem dX4_text_12 : decode cX4_text 12 = .ok (.aload_n 0, 1) := by decide +kernel
theorem dX4_text_13 : decode cX4_text 13 = .ok (.getfield 32, 3) := by decide +kernel
theorem dX4_text_16 : decode cX4_text 16 = .ok (.iconst 0, 1) := by decide +kernel
theorem dX4_text_17 : decode cX4_text 17 = .ok (.putfield 67, 3) := by decide +kernel
theorem dX4_text_20 : decode cX4_text 20 = .ok (.aload_n 0, 1) := by decide +kernel
theorem dX4_text_21 : decode cX4_text 21 = .ok (.getfield 32, 3) := by decide +kernel
theorem dX4_text_24 : decode cX4_text 24 = .ok (.getfield 74, 3) := by decide +kernel
theorem dX4_text_27 : decode cX4_text 27 = .ok (.ifCond .eq 14, 3) := by decide +kernel
theorem dX4_text_30 : decode cX4_text 30 = .ok (.bipush (-10), 2) := by decide +kernel
theorem dX4_text_32 : decode cX4_text 32 = .ok (.aload_n 0, 1) := by decide +kernel
theorem dX4_text_33 : decode cX4_text 33 = .ok (.getfield 32, 3) := by decide +kernel
theorem dX4_text_36 : decode cX4_text 36 = .ok (.getfield 77, 3) := by decide +kernel
theorem dX4_text_39 : decode cX4_text 39 = .ok (.isub, 1) := by decide +kernel
theorem dX4_text_40 : decode cX4_text 40 = .ok (.ireturn, 1) := by decide +kernel
theorem dX4_text_41 : decode cX4_text 41 = .ok (.aload_n 0, 1) := by decide +kernel
theorem dX4_text_42 : decode cX4_text 42 = .ok (.getfield 12, 3) := by decide +kernel
theorem dX4_text_45 : decode cX4_text 45 = .ok (.aload_n 0, 1) := by decide +kernel
theorem dX4_text_46 : decode cX4_text 46 = .ok (.getfield 16, 3) := by decide +kernel
theorem dX4_text_49 : decode cX4_text 49 = .ok (.invokevirtual 80, 3) := by decide +kernel
theorem dX4_text_52 : decode cX4_text 52 = .ok (.aload_n 0, 1) := by decide +kernel
theorem dX4_text_53 : decode cX4_text 53 = .ok (.getfield 39, 3) := by decide +kernel
theorem dX4_text_56 : decode cX4_text 56 = .ok (.iconst 0, 1) := by decide +kernel
theorem dX4_text_57 : decode cX4_text 57 = .ok (.putfield 84, 3) := by decide +kernel
theorem dX4_text_60 : decode cX4_text 60 = .ok (.aload_n 0, 1) := by decide +kernel
theorem dX4_text_61 : decode cX4_text 61 = .ok (.getfield 25, 3) := by decide +kernel
theorem dX4_text_64 : decode cX4_text 64 = .ok (.iconst 0, 1) := by decide +kernel
theorem dX4_text_65 : decode cX4_text 65 = .ok (.iconst 0, 1) := by decide +kernel
theorem dX4_text_66 : decode cX4_text 66 = .ok (.bastore, 1) := by decide +kernel
theorem dX4_text_67 : decode cX4_text 67 = .ok (.aload_n 0, 1) := by decide +kernel
theorem dX4_text_68 : decode cX4_text 68 = .ok (.getfield 25, 3) := by decide +kernel
theorem dX4_text_71 : decode cX4_text 71 = .ok (.iconst 1, 1) := by decide +kernel
theorem dX4_text_72 : decode cX4_text 72 = .ok (.iconst 0, 1) := by decide +kernel
theorem dX4_text_73 : decode cX4_text 73 = .ok (.bastore, 1) := by decide +kernel
theorem dX4_text_74 : decode cX4_text 74 = .ok (.iload_n 1, 1) := by decide +kernel
theorem dX4_text_75 : decode cX4_text 75 = .ok (.ireturn, 1) := by decide +kernel
theorem dX4_fault_0 : decode cX4_fault 0 = .ok (.aload_n 0, 1) := by decide +kernel
theorem dX4_fault_1 : decode cX4_fault 1 = .ok (.getfield 32, 3) := by decide +kernel
theorem dX4_fault_4 : decode cX4_fault 4 = .ok (.getfield 74, 3) := by decide +kernel
theorem dX4_fault_7 : decode cX4_fault 7 = .ok (.ireturn, 1) := by decide +kernel
theorem dX4_rule_0 : decode cX4_rule 0 = .ok (.iload_n 1, 1) := by decide +kernel
theorem dX4_rule_1 : decode cX4_rule 1 = .ok (.tableswitch 87 0 5 #[39, 47, 55, 63, 71, 79], 39) := by decide +kernel
theorem dX4_rule_40 : decode cX4_rule 40 = .ok (.aload_n 0, 1) := by decide +kernel
theorem dX4_rule_41 : decode cX4_rule 41 = .ok (.getfield 12, 3) := by decide +kernel
theorem dX4_rule_44 : decode cX4_rule 44 = .ok (.getfield 87, 3) := by decide +kernel
theorem dX4_rule_47 : decode cX4_rule 47 = .ok (.ireturn, 1) := by decide +kernel
theorem dX4_rule_48 : decode cX4_rule 48 = .ok (.aload_n 0, 1) := by decide +kernel
theorem dX4_rule_49 : decode cX4_rule 49 = .ok (.getfield 12, 3) := by decide +kernel
theorem dX4_rule_52 : decode cX4_rule 52 = .ok (.getfield 90, 3) := by decide +kernel
theorem dX4_rule_55 : decode cX4_rule 55 = .ok (.ireturn, 1) := by decide +kernel
theorem dX4_rule_56 : decode cX4_rule 56 = .ok (.aload_n 0, 1) := by decide +kernel
theorem dX4_rule_57 : decode cX4_rule 57 = .ok (.getfield 12, 3) := by decide +kernel
theorem dX4_rule_60 : decode cX4_rule 60 = .ok (.getfield 93, 3) := by decide +kernel
theorem dX4_rule_63 : decode cX4_rule 63 = .ok (.ireturn, 1) := by decide +kernel
theorem dX4_rule_64 : decode cX4_rule 64 = .ok (.aload_n 0, 1) := by decide +kernel
theorem dX4_rule_65 : decode cX4_rule 65 = .ok (.getfield 12, 3) := by decide +kernel
theorem dX4_rule_68 : decode cX4_rule 68 = .ok (.getfield 96, 3) := by decide +kernel
theorem dX4_rule_71 : decode cX4_rule 71 = .ok (.ireturn, 1) := by decide +kernel
theorem dX4_rule_72 : decode cX4_rule 72 = .ok (.aload_n 0, 1) := by decide +kernel
theorem dX4_rule_73 : decode cX4_rule 73 = .ok (.getfield 12, 3) := by decide +kernel
theorem dX4_rule_76 : decode cX4_rule 76 = .ok (.invokevirtual 99, 3) := by decide +kernel
theorem dX4_rule_79 : decode cX4_rule 79 = .ok (.ireturn, 1) := by decide +kernel
theorem dX4_rule_80 : decode cX4_rule 80 = .ok (.aload_n 0, 1) := by decide +kernel
theorem dX4_rule_81 : decode cX4_rule 81 = .ok (.getfield 12, 3) := by decide +kernel
theorem dX4_rule_84 : decode cX4_rule 84 = .ok (.invokevirtual 103, 3) := by decide +kernel
theorem dX4_rule_87 : decode cX4_rule 87 = .ok (.ireturn, 1) := by decide +kernel
theorem dX4_rule_88 : decode cX4_rule 88 = .ok (.iconst (-1), 1) := by decide +kernel
theorem dX4_rule_89 : decode cX4_rule 89 = .ok (.ireturn, 1) := by decide +kernel
theorem dX4_bead_0 : decode cX4_bead 0 = .ok (.aload_n 0, 1) := by decide +kernel
theorem dX4_bead_1 : decode cX4_bead 1 = .ok (.getfield 12, 3) := by decide +kernel
theorem dX4_bead_4 : decode cX4_bead 4 = .ok (.iload_n 1, 1) := by decide +kernel
theorem dX4_bead_5 : decode cX4_bead 5 = .ok (.invokevirtual 106, 3) := by decide +kernel
theorem dX4_bead_8 : decode cX4_bead 8 = .ok (.ifCond .ne 5, 3) := by decide +kernel
theorem dX4_bead_11 : decode cX4_bead 11 = .ok (.iconst (-1), 1) := by decide +kernel
theorem dX4_bead_12 : decode cX4_bead 12 = .ok (.ireturn, 1) := by decide +kernel
theorem dX4_bead_13 : decode cX4_bead 13 = .ok (.iload_n 2, 1) := by decide +kernel
theorem dX4_bead_14 : decode cX4_bead 14 = .ok (.tableswitch 96 0 7 #[46, 46, 46, 46, 46, 57, 70, 83], 46) := by decide +kernel
theorem dX4_bead_60 : decode cX4_bead 60 = .ok (.aload_n 0, 1) := by decide +kernel
theorem dX4_bead_61 : decode cX4_bead 61 = .ok (.getfield 12, 3) := by decide +kernel
theorem dX4_bead_64 : decode cX4_bead 64 = .ok (.iload_n 2, 1) := by decide +kernel
theorem dX4_bead_65 : decode cX4_bead 65 = .ok (.invokevirtual 109, 3) := by decide +kernel
theorem dX4_bead_68 : decode cX4_bead 68 = .ok (.iload_n 1, 1) := by decide +kernel
theorem dX4_bead_69 : decode cX4_bead 69 = .ok (.iaload, 1) := by decide +kernel
theorem dX4_bead_70 : decode cX4_bead 70 = .ok (.ireturn, 1) := by decide +kernel
theorem dX4_bead_71 : decode cX4_bead 71 = .ok (.bipush 100, 2) := by decide +kernel
theorem dX4_bead_73 : decode cX4_bead 73 = .ok (.aload_n 0, 1) := by decide +kernel
theorem dX4_bead_74 : decode cX4_bead 74 = .ok (.getfield 12, 3) := by decide +kernel
theorem dX4_bead_77 : decode cX4_bead 77 = .ok (.getfield 113, 3) := by decide +kernel
theorem dX4_bead_80 : decode cX4_bead 80 = .ok (.iload_n 1, 1) := by decide +kernel
theorem dX4_bead_81 : decode cX4_bead 81 = .ok (.iaload, 1) := by decide +kernel
theorem dX4_bead_82 : decode cX4_bead 82 = .ok (.iadd, 1) := by decide +kernel
theorem dX4_bead_83 : decode cX4_bead 83 = .ok (.ireturn, 1) := by decide +kernel
theorem dX4_bead_84 : decode cX4_bead 84 = .ok (.sipush 1000, 3) := by decide +kernel
theorem dX4_bead_87 : decode cX4_bead 87 = .ok (.aload_n 0, 1) := by decide +kernel
theorem dX4_bead_88 : decode cX4_bead 88 = .ok (.getfield 12, 3) := by decide +kernel
theorem dX4_bead_91 : decode cX4_bead 91 = .ok (.iload_n 1, 1) := by decide +kernel
theorem dX4_bead_92 : decode cX4_bead 92 = .ok (.invokevirtual 117, 3) := by decide +kernel
theorem dX4_bead_95 : decode cX4_bead 95 = .ok (.iadd, 1) := by decide +kernel
theorem dX4_bead_96 : decode cX4_bead 96 = .ok (.ireturn, 1) := by decide +kernel
theorem dX4_bead_97 : decode cX4_bead 97 = .ok (.sipush 10000, 3) := by decide +kernel
theorem dX4_bead_100 : decode cX4_bead 100 = .ok (.aload_n 0, 1) := by decide +kernel
theorem dX4_bead_101 : decode cX4_bead 101 = .ok (.getfield 12, 3) := by decide +kernel
theorem dX4_bead_104 : decode cX4_bead 104 = .ok (.iload_n 1, 1) := by decide +kernel
theorem dX4_bead_105 : decode cX4_bead 105 = .ok (.invokevirtual 121, 3) := by decide +kernel
theorem dX4_bead_108 : decode cX4_bead 108 = .ok (.iadd, 1) := by decide +kernel
theorem dX4_bead_109 : decode cX4_bead 109 = .ok (.ireturn, 1) := by decide +kernel
theorem dX4_bead_110 : decode cX4_bead 110 = .ok (.iconst (-1), 1) := by decide +kernel
theorem dX4_bead_111 : decode cX4_bead 111 = .ok (.ireturn, 1) := by decide +kernel
theorem dX4_knock_0 : decode cX4_knock 0 = .ok (.iload_n 1, 1) := by decide +kernel
theorem dX4_knock_1 : decode cX4_knock 1 = .ok (.iconst 0, 1) := by decide +kernel
theorem dX4_knock_2 : decode cX4_knock 2 = .ok (.aload_n 0, 1) := by decide +kernel
theorem dX4_knock_3 : decode cX4_knock 3 = .ok (.getfield 12, 3) := by decide +kernel
theorem dX4_knock_6 : decode cX4_knock 6 = .ok (.getfield 90, 3) := by decide +kernel
theorem dX4_knock_9 : decode cX4_knock 9 = .ok (.iconst 1, 1) := by decide +kernel
theorem dX4_knock_10 : decode cX4_knock 10 = .ok (.isub, 1) := by decide +kernel
theorem dX4_knock_11 : decode cX4_knock 11 = .ok (.invokestatic 59, 3) := by decide +kernel
theorem dX4_knock_14 : decode cX4_knock 14 = .ok (.ifCond .eq 12, 3) := by decide +kernel
theorem dX4_knock_17 : decode cX4_knock 17 = .ok (.iload_n 2, 1) := by decide +kernel
theorem dX4_knock_18 : decode cX4_knock 18 = .ok (.iconst 0, 1) := by decide +kernel
theorem dX4_knock_19 : decode cX4_knock 19 = .ok (.iconst 1, 1) := by decide +kernel
theorem dX4_knock_20 : decode cX4_knock 20 = .ok (.invokestatic 59, 3) := by decide +kernel
theorem dX4_knock_23 : decode cX4_knock 23 = .ok (.ifCond .ne 5, 3) := by decide +kernel
theorem dX4_knock_26 : decode cX4_knock 26 = .ok (.iconst (-1), 1) := by decide +kernel
theorem dX4_knock_27 : decode cX4_knock 27 = .ok (.ireturn, 1) := by decide +kernel
theorem dX4_knock_28 : decode cX4_knock 28 = .ok (.iload_n 2, 1) := by decide +kernel
theorem dX4_knock_29 : decode cX4_knock 29 = .ok (.ifCond .ne 15, 3) := by decide +kernel
theorem dX4_knock_32 : decode cX4_knock 32 = .ok (.aload_n 0, 1) := by decide +kernel
theorem dX4_knock_33 : decode cX4_knock 33 = .ok (.getfield 12, 3) := by decide +kernel
theorem dX4_knock_36 : decode cX4_knock 36 = .ok (.getfield 124, 3) := by decide +kernel
theorem dX4_knock_39 : decode cX4_knock 39 = .ok (.iload_n 1, 1) := by decide +kernel
theorem dX4_knock_40 : decode cX4_knock 40 = .ok (.iaload, 1) := by decide +kernel
theorem dX4_knock_41 : decode cX4_knock 41 = .ok (.goto 15, 3) := by decide +kernel
theorem dX4_knock_44 : decode cX4_knock 44 = .ok (.bipush 9, 2) := by decide +kernel
theorem dX4_knock_46 : decode cX4_knock 46 = .ok (.aload_n 0, 1) := by decide +kernel
theorem dX4_knock_47 : decode cX4_knock 47 = .ok (.getfield 12, 3) := by decide +kernel
theorem dX4_knock_50 : decode cX4_knock 50 = .ok (.getfield 127, 3) := by decide +kernel
theorem dX4_knock_53 : decode cX4_knock 53 = .ok (.iload_n 1, 1) := by decide +kernel
theorem dX4_knock_54 : decode cX4_knock 54 = .ok (.iaload, 1) := by decide +kernel
theorem dX4_knock_55 : decode cX4_knock 55 = .ok (.iadd, 1) := by decide +kernel
theorem dX4_knock_56 : decode cX4_knock 56 = .ok (.ireturn, 1) := by decide +kernel
theorem dX4_alter_0 : decode cX4_alter 0 = .ok (.aload_n 0, 1) := by decide +kernel
theorem dX4_alter_1 : decode cX4_alter 1 = .ok (.getfield 12, 3) := by decide +kernel
theorem dX4_alter_4 : decode cX4_alter 4 = .ok (.iload_n 1, 1) := by decide +kernel
theorem dX4_alter_5 : decode cX4_alter 5 = .ok (.invokevirtual 106, 3) := by decide +kernel
theorem dX4_alter_8 : decode cX4_alter 8 = .ok (.ifCond .eq 29, 3) := by decide +kernel
theorem dX4_alter_11 : decode cX4_alter 11 = .ok (.iload_n 2, 1) := by decide +kernel
theorem dX4_alter_12 : decode cX4_alter 12 = .ok (.iconst 0, 1) := by decide +kernel
theorem dX4_alter_13 : decode cX4_alter 13 = .ok (.iconst 4, 1) := by decide +kernel
theorem dX4_alter_14 : decode cX4_alter 14 = .ok (.invokestatic 59, 3) := by decide +kernel
theorem dX4_alter_17 : decode cX4_alter 17 = .ok (.ifCond .eq 20, 3) := by decide +kernel
theorem dX4_alter_20 : decode cX4_alter 20 = .ok (.iload_n 3, 1) := by decide +kernel
theorem dX4_alter_21 : decode cX4_alter 21 = .ok (.getstatic 130, 3) := by decide +kernel
theorem dX4_alter_24 : decode cX4_alter 24 = .ok (.iload_n 2, 1) := by decide +kernel
theorem dX4_alter_25 : decode cX4_alter 25 = .ok (.iaload, 1) := by decide +kernel
theorem dX4_alter_26 : decode cX4_alter 26 = .ok (.getstatic 133, 3) := by decide +kernel
theorem dX4_alter_29 : decode cX4_alter 29 = .ok (.iload_n 2, 1) := by decide +kernel
theorem dX4_alter_30 : decode cX4_alter 30 = .ok (.iaload, 1) := by decide +kernel
theorem dX4_alter_31 : decode cX4_alter 31 = .ok (.invokestatic 59, 3) := by decide +kernel
theorem dX4_alter_34 : decode cX4_alter 34 = .ok (.ifCond .ne 5, 3) := by decide +kernel
theorem dX4_alter_37 : decode cX4_alter 37 = .ok (.iconst (-1), 1) := by decide +kernel
theorem dX4_alter_38 : decode cX4_alter 38 = .ok (.ireturn, 1) := by decide +kernel
theorem dX4_alter_39 : decode cX4_alter 39 = .ok (.aload_n 0, 1) := by decide +kernel
theorem dX4_alter_40 : decode cX4_alter 40 = .ok (.getfield 12, 3) := by decide +kernel
theorem dX4_alter_43 : decode cX4_alter 43 = .ok (.iload_n 2, 1) := by decide +kernel
theorem dX4_alter_44 : decode cX4_alter 44 = .ok (.invokevirtual 109, 3) := by decide +kernel
theorem dX4_alter_47 : decode cX4_alter 47 = .ok (.astore 4, 2) := by decide +kernel
theorem dX4_alter_49 : decode cX4_alter 49 = .ok (.aload 4, 2) := by decide +kernel
theorem dX4_alter_51 : decode cX4_alter 51 = .ok (.iload_n 1, 1) := by decide +kernel
theorem dX4_alter_52 : decode cX4_alter 52 = .ok (.iaload, 1) := by decide +kernel
theorem dX4_alter_53 : decode cX4_alter 53 = .ok (.istore 5, 2) := by decide +kernel
theorem dX4_alter_55 : decode cX4_alter 55 = .ok (.aload 4, 2) := by decide +kernel
theorem dX4_alter_57 : decode cX4_alter 57 = .ok (.iload_n 1, 1) := by decide +kernel
theorem dX4_alter_58 : decode cX4_alter 58 = .ok (.iload_n 3, 1) := by decide +kernel
theorem dX4_alter_59 : decode cX4_alter 59 = .ok (.iastore, 1) := by decide +kernel
theorem dX4_alter_60 : decode cX4_alter 60 = .ok (.iload 5, 2) := by decide +kernel
theorem dX4_alter_62 : decode cX4_alter 62 = .ok (.ireturn, 1) := by decide +kernel
theorem dX4_drag_0 : decode cX4_drag 0 = .ok (.iload_n 1, 1) := by decide +kernel
theorem dX4_drag_1 : decode cX4_drag 1 = .ok (.iconst 0, 1) := by decide +kernel
theorem dX4_drag_2 : decode cX4_drag 2 = .ok (.iconst 3, 1) := by decide +kernel
theorem dX4_drag_3 : decode cX4_drag 3 = .ok (.invokestatic 59, 3) := by decide +kernel
theorem dX4_drag_6 : decode cX4_drag 6 = .ok (.ifCond .ne 5, 3) := by decide +kernel
theorem dX4_drag_9 : decode cX4_drag 9 = .ok (.iconst (-1), 1) := by decide +kernel
theorem dX4_drag_10 : decode cX4_drag 10 = .ok (.ireturn, 1) := by decide +kernel
theorem dX4_drag_11 : decode cX4_drag 11 = .ok (.aload_n 0, 1) := by decide +kernel
theorem dX4_drag_12 : decode cX4_drag 12 = .ok (.getfield 12, 3) := by decide +kernel
theorem dX4_drag_15 : decode cX4_drag 15 = .ok (.getfield 96, 3) := by decide +kernel
theorem dX4_drag_18 : decode cX4_drag 18 = .ok (.istore_n 2, 1) := by decide +kernel
theorem dX4_drag_19 : decode cX4_drag 19 = .ok (.aload_n 0, 1) := by decide +kernel
theorem dX4_drag_20 : decode cX4_drag 20 = .ok (.getfield 12, 3) := by decide +kernel
theorem dX4_drag_23 : decode cX4_drag 23 = .ok (.iload_n 1, 1) := by decide +kernel
theorem dX4_drag_24 : decode cX4_drag 24 = .ok (.putfield 96, 3) := by decide +kernel
theorem dX4_drag_27 : decode cX4_drag 27 = .ok (.iload_n 2, 1) := by decide +kernel
theorem dX4_drag_28 : decode cX4_drag 28 = .ok (.ireturn, 1) := by decide +kernel
theorem dX4_bind_0 : decode cX4_bind 0 = .ok (.iload_n 1, 1) := by decide +kernel
theorem dX4_bind_1 : decode cX4_bind 1 = .ok (.getstatic 130, 3) := by decide +kernel
theorem dX4_bind_4 : decode cX4_bind 4 = .ok (.iconst 0, 1) := by decide +kernel
theorem dX4_bind_5 : decode cX4_bind 5 = .ok (.iaload, 1) := by decide +kernel
theorem dX4_bind_6 : decode cX4_bind 6 = .ok (.getstatic 133, 3) := by decide +kernel
theorem dX4_bind_9 : decode cX4_bind 9 = .ok (.iconst 0, 1) := by decide +kernel
theorem dX4_bind_10 : decode cX4_bind 10 = .ok (.iaload, 1) := by decide +kernel
theorem dX4_bind_11 : decode cX4_bind 11 = .ok (.invokestatic 59, 3) := by decide +kernel
theorem dX4_bind_14 : decode cX4_bind 14 = .ok (.ifCond .eq 55, 3) := by decide +kernel
theorem dX4_bind_17 : decode cX4_bind 17 = .ok (.iload_n 2, 1) := by decide +kernel
theorem dX4_bind_18 : decode cX4_bind 18 = .ok (.getstatic 130, 3) := by decide +kernel
theorem dX4_bind_21 : decode cX4_bind 21 = .ok (.iconst 1, 1) := by decide +kernel
theorem dX4_bind_22 : decode cX4_bind 22 = .ok (.iaload, 1) := by decide +kernel
theorem dX4_bind_23 : decode cX4_bind 23 = .ok (.getstatic 133, 3) := by decide +kernel
theorem dX4_bind_26 : decode cX4_bind 26 = .ok (.iconst 1, 1) := by decide +kernel
theorem dX4_bind_27 : decode cX4_bind 27 = .ok (.iaload, 1) := by decide +kernel
theorem dX4_bind_28 : decode cX4_bind 28 = .ok (.invokestatic 59, 3) := by decide +kernel
theorem dX4_bind_31 : decode cX4_bind 31 = .ok (.ifCond .eq 38, 3) := by decide +kernel
theorem dX4_bind_34 : decode cX4_bind 34 = .ok (.iload_n 3, 1) := by decide +kernel
theorem dX4_bind_35 : decode cX4_bind 35 = .ok (.getstatic 130, 3) := by decide +kernel
theorem dX4_bind_38 : decode cX4_bind 38 = .ok (.iconst 2, 1) := by decide +kernel
theorem dX4_bind_39 : decode cX4_bind 39 = .ok (.iaload, 1) := by decide +kernel
theorem dX4_bind_40 : decode cX4_bind 40 = .ok (.getstatic 133, 3) := by decide +kernel
theorem dX4_bind_43 : decode cX4_bind 43 = .ok (.iconst 2, 1) := by decide +kernel
theorem dX4_bind_44 : decode cX4_bind 44 = .ok (.iaload, 1) := by decide +kernel
theorem dX4_bind_45 : decode cX4_bind 45 = .ok (.invokestatic 59, 3) := by decide +kernel
theorem dX4_bind_48 : decode cX4_bind 48 = .ok (.ifCond .eq 21, 3) := by decide +kernel
theorem dX4_bind_51 : decode cX4_bind 51 = .ok (.iload 4, 2) := by decide +kernel
theorem dX4_bind_53 : decode cX4_bind 53 = .ok (.getstatic 130, 3) := by decide +kernel
theorem dX4_bind_56 : decode cX4_bind 56 = .ok (.iconst 3, 1) := by decide +kernel
theorem dX4_bind_57 : decode cX4_bind 57 = .ok (.iaload, 1) := by decide +kernel
theorem dX4_bind_58 : decode cX4_bind 58 = .ok (.getstatic 133, 3) := by decide +kernel
theorem dX4_bind_61 : decode cX4_bind 61 = .ok (.iconst 3, 1) := by decide +kernel
theorem dX4_bind_62 : decode cX4_bind 62 = .ok (.iaload, 1) := by decide +kernel
theorem dX4_bind_63 : decode cX4_bind 63 = .ok (.invokestatic 59, 3) := by decide +kernel
theorem dX4_bind_66 : decode cX4_bind 66 = .ok (.ifCond .ne 5, 3) := by decide +kernel
theorem dX4_bind_69 : decode cX4_bind 69 = .ok (.iconst (-1), 1) := by decide +kernel
theorem dX4_bind_70 : decode cX4_bind 70 = .ok (.ireturn, 1) := by decide +kernel
theorem dX4_bind_71 : decode cX4_bind 71 = .ok (.aload_n 0, 1) := by decide +kernel
theorem dX4_bind_72 : decode cX4_bind 72 = .ok (.getfield 12, 3) := by decide +kernel
theorem dX4_bind_75 : decode cX4_bind 75 = .ok (.iload_n 1, 1) := by decide +kernel
theorem dX4_bind_76 : decode cX4_bind 76 = .ok (.iload_n 2, 1) := by decide +kernel
theorem dX4_bind_77 : decode cX4_bind 77 = .ok (.iload_n 3, 1) := by decide +kernel
theorem dX4_bind_78 : decode cX4_bind 78 = .ok (.iload 4, 2) := by decide +kernel
theorem dX4_bind_80 : decode cX4_bind 80 = .ok (.invokevirtual 136, 3) := by decide +kernel
theorem dX4_bind_83 : decode cX4_bind 83 = .ok (.ifCond .eq 13, 3) := by decide +kernel
theorem dX4_bind_86 : decode cX4_bind 86 = .ok (.aload_n 0, 1) := by decide +kernel
theorem dX4_bind_87 : decode cX4_bind 87 = .ok (.getfield 12, 3) := by decide +kernel
theorem dX4_bind_90 : decode cX4_bind 90 = .ok (.getfield 87, 3) := by decide +kernel
theorem dX4_bind_93 : decode cX4_bind 93 = .ok (.goto 5, 3) := by decide +kernel
theorem dX4_bind_96 : decode cX4_bind 96 = .ok (.bipush (-3), 2) := by decide +kernel
theorem dX4_bind_98 : decode cX4_bind 98 = .ok (.ireturn, 1) := by decide +kernel
theorem dX4_cut_0 : decode cX4_cut 0 = .ok (.aload_n 0, 1) := by decide +kernel
theorem dX4_cut_1 : decode cX4_cut 1 = .ok (.getfield 12, 3) := by decide +kernel
theorem dX4_cut_4 : decode cX4_cut 4 = .ok (.getfield 87, 3) := by decide +kernel
theorem dX4_cut_7 : decode cX4_cut 7 = .ok (.istore_n 2, 1) := by decide +kernel
theorem dX4_cut_8 : decode cX4_cut 8 = .ok (.iload_n 1, 1) := by decide +kernel
theorem dX4_cut_9 : decode cX4_cut 9 = .ok (.iconst 0, 1) := by decide +kernel
theorem dX4_cut_10 : decode cX4_cut 10 = .ok (.iload_n 2, 1) := by decide +kernel
theorem dX4_cut_11 : decode cX4_cut 11 = .ok (.invokestatic 59, 3) := by decide +kernel
theorem dX4_cut_14 : decode cX4_cut 14 = .ok (.ifCond .ne 5, 3) := by decide +kernel
theorem dX4_cut_17 : decode cX4_cut 17 = .ok (.iconst (-1), 1) := by decide +kernel
theorem dX4_cut_18 : decode cX4_cut 18 = .ok (.ireturn, 1) := by decide +kernel
theorem dX4_cut_19 : decode cX4_cut 19 = .ok (.aload_n 0, 1) := by decide +kernel
theorem dX4_cut_20 : decode cX4_cut 20 = .ok (.getfield 12, 3) := by decide +kernel
theorem dX4_cut_23 : decode cX4_cut 23 = .ok (.iload_n 1, 1) := by decide +kernel
theorem dX4_cut_24 : decode cX4_cut 24 = .ok (.putfield 87, 3) := by decide +kernel
theorem dX4_cut_27 : decode cX4_cut 27 = .ok (.iload_n 2, 1) := by decide +kernel
theorem dX4_cut_28 : decode cX4_cut 28 = .ok (.ireturn, 1) := by decide +kernel
theorem dX4_hit_0 : decode cX4_hit 0 = .ok (.aload_n 0, 1) := by decide +kernel
theorem dX4_hit_1 : decode cX4_hit 1 = .ok (.getfield 12, 3) := by decide +kernel
theorem dX4_hit_4 : decode cX4_hit 4 = .ok (.iload_n 1, 1) := by decide +kernel
theorem dX4_hit_5 : decode cX4_hit 5 = .ok (.invokevirtual 106, 3) := by decide +kernel
theorem dX4_hit_8 : decode cX4_hit 8 = .ok (.ifCond .eq 13, 3) := by decide +kernel
theorem dX4_hit_11 : decode cX4_hit 11 = .ok (.iload_n 2, 1) := by decide +kernel
theorem dX4_hit_12 : decode cX4_hit 12 = .ok (.iconst 0, 1) := by decide +kernel
theorem dX4_hit_13 : decode cX4_hit 13 = .ok (.bipush 18, 2) := by decide +kernel
theorem dX4_hit_15 : decode cX4_hit 15 = .ok (.invokestatic 59, 3) := by decide +kernel
theorem dX4_hit_18 : decode cX4_hit 18 = .ok (.ifCond .ne 5, 3) := by decide +kernel
theorem dX4_hit_21 : decode cX4_hit 21 = .ok (.iconst (-1), 1) := by decide +kernel
theorem dX4_hit_22 : decode cX4_hit 22 = .ok (.ireturn, 1) := by decide +kernel
theorem dX4_hit_23 : decode cX4_hit 23 = .ok (.aload_n 0, 1) := by decide +kernel
theorem dX4_hit_24 : decode cX4_hit 24 = .ok (.getfield 12, 3) := by decide +kernel
theorem dX4_hit_27 : decode cX4_hit 27 = .ok (.iload_n 1, 1) := by decide +kernel
theorem dX4_hit_28 : decode cX4_hit 28 = .ok (.iload_n 2, 1) := by decide +kernel
theorem dX4_hit_29 : decode cX4_hit 29 = .ok (.bipush 9, 2) := by decide +kernel
theorem dX4_hit_31 : decode cX4_hit 31 = .ok (.isub, 1) := by decide +kernel
theorem dX4_hit_32 : decode cX4_hit 32 = .ok (.invokevirtual 140, 3) := by decide +kernel
theorem dX4_hit_35 : decode cX4_hit 35 = .ok (.bipush 100, 2) := by decide +kernel
theorem dX4_hit_37 : decode cX4_hit 37 = .ok (.aload_n 0, 1) := by decide +kernel
theorem dX4_hit_38 : decode cX4_hit 38 = .ok (.getfield 12, 3) := by decide +kernel
theorem dX4_hit_41 : decode cX4_hit 41 = .ok (.getfield 113, 3) := by decide +kernel
theorem dX4_hit_44 : decode cX4_hit 44 = .ok (.iload_n 1, 1) := by decide +kernel
theorem dX4_hit_45 : decode cX4_hit 45 = .ok (.iaload, 1) := by decide +kernel
theorem dX4_hit_46 : decode cX4_hit 46 = .ok (.iadd, 1) := by decide +kernel
theorem dX4_hit_47 : decode cX4_hit 47 = .ok (.ireturn, 1) := by decide +kernel
theorem dX4_add_0 : decode cX4_add 0 = .ok (.iload_n 1, 1) := by decide +kernel
theorem dX4_add_1 : decode cX4_add 1 = .ok (.iconst 0, 1) := by decide +kernel
theorem dX4_add_2 : decode cX4_add 2 = .ok (.iconst 3, 1) := by decide +kernel
theorem dX4_add_3 : decode cX4_add 3 = .ok (.invokestatic 59, 3) := by decide +kernel
theorem dX4_add_6 : decode cX4_add 6 = .ok (.ifCond .eq 13, 3) := by decide +kernel
theorem dX4_add_9 : decode cX4_add 9 = .ok (.iload_n 2, 1) := by decide +kernel
theorem dX4_add_10 : decode cX4_add 10 = .ok (.iconst 0, 1) := by decide +kernel
theorem dX4_add_11 : decode cX4_add 11 = .ok (.bipush 18, 2) := by decide +kernel
theorem dX4_add_13 : decode cX4_add 13 = .ok (.invokestatic 59, 3) := by decide +kernel
theorem dX4_add_16 : decode cX4_add 16 = .ok (.ifCond .ne 5, 3) := by decide +kernel
theorem dX4_add_19 : decode cX4_add 19 = .ok (.iconst (-1), 1) := by decide +kernel
theorem dX4_add_20 : decode cX4_add 20 = .ok (.ireturn, 1) := by decide +kernel
theorem dX4_add_21 : decode cX4_add 21 = .ok (.aload_n 0, 1) := by decide +kernel
theorem dX4_add_22 : decode cX4_add 22 = .ok (.getfield 12, 3) := by decide +kernel
theorem dX4_add_25 : decode cX4_add 25 = .ok (.iload_n 1, 1) := by decide +kernel
theorem dX4_add_26 : decode cX4_add 26 = .ok (.iload_n 2, 1) := by decide +kernel
theorem dX4_add_27 : decode cX4_add 27 = .ok (.bipush 9, 2) := by decide +kernel
theorem dX4_add_29 : decode cX4_add 29 = .ok (.isub, 1) := by decide +kernel
theorem dX4_add_30 : decode cX4_add 30 = .ok (.invokevirtual 144, 3) := by decide +kernel
theorem dX4_add_33 : decode cX4_add 33 = .ok (.ifCond .eq 13, 3) := by decide +kernel
theorem dX4_add_36 : decode cX4_add 36 = .ok (.aload_n 0, 1) := by decide +kernel
theorem dX4_add_37 : decode cX4_add 37 = .ok (.getfield 12, 3) := by decide +kernel
theorem dX4_add_40 : decode cX4_add 40 = .ok (.getfield 90, 3) := by decide +kernel
theorem dX4_add_43 : decode cX4_add 43 = .ok (.goto 5, 3) := by decide +kernel
theorem dX4_add_46 : decode cX4_add 46 = .ok (.bipush (-3), 2) := by decide +kernel
theorem dX4_add_48 : decode cX4_add 48 = .ok (.ireturn, 1) := by decide +kernel
theorem dX4_drop_0 : decode cX4_drop 0 = .ok (.aload_n 0, 1) := by decide +kernel
theorem dX4_drop_1 : decode cX4_drop 1 = .ok (.getfield 12, 3) := by decide +kernel
theorem dX4_drop_4 : decode cX4_drop 4 = .ok (.getfield 90, 3) := by decide +kernel
theorem dX4_drop_7 : decode cX4_drop 7 = .ok (.istore_n 2, 1) := by decide +kernel
theorem dX4_drop_8 : decode cX4_drop 8 = .ok (.iload_n 1, 1) := by decide +kernel
theorem dX4_drop_9 : decode cX4_drop 9 = .ok (.iconst 0, 1) := by decide +kernel
theorem dX4_drop_10 : decode cX4_drop 10 = .ok (.iload_n 2, 1) := by decide +kernel
theorem dX4_drop_11 : decode cX4_drop 11 = .ok (.invokestatic 59, 3) := by decide +kernel
theorem dX4_drop_14 : decode cX4_drop 14 = .ok (.ifCond .ne 5, 3) := by decide +kernel
theorem dX4_drop_17 : decode cX4_drop 17 = .ok (.iconst (-1), 1) := by decide +kernel
theorem dX4_drop_18 : decode cX4_drop 18 = .ok (.ireturn, 1) := by decide +kernel
theorem dX4_drop_19 : decode cX4_drop 19 = .ok (.aload_n 0, 1) := by decide +kernel
theorem dX4_drop_20 : decode cX4_drop 20 = .ok (.getfield 12, 3) := by decide +kernel
theorem dX4_drop_23 : decode cX4_drop 23 = .ok (.iload_n 1, 1) := by decide +kernel
theorem dX4_drop_24 : decode cX4_drop 24 = .ok (.putfield 90, 3) := by decide +kernel
theorem dX4_drop_27 : decode cX4_drop 27 = .ok (.iload_n 2, 1) := by decide +kernel
theorem dX4_drop_28 : decode cX4_drop 28 = .ok (.ireturn, 1) := by decide +kernel
theorem dX4_calm_0 : decode cX4_calm 0 = .ok (.aload_n 0, 1) := by decide +kernel
theorem dX4_calm_1 : decode cX4_calm 1 = .ok (.getfield 12, 3) := by decide +kernel
theorem dX4_calm_4 : decode cX4_calm 4 = .ok (.getfield 87, 3) := by decide +kernel
theorem dX4_calm_7 : decode cX4_calm 7 = .ok (.aload_n 0, 1) := by decide +kernel
theorem dX4_calm_8 : decode cX4_calm 8 = .ok (.getfield 12, 3) := by decide +kernel
theorem dX4_calm_11 : decode cX4_calm 11 = .ok (.invokevirtual 99, 3) := by decide +kernel
theorem dX4_calm_14 : decode cX4_calm 14 = .ok (.invokestatic 148, 3) := by decide +kernel
theorem dX4_calm_17 : decode cX4_calm 17 = .ok (.isub, 1) := by decide +kernel
theorem dX4_calm_18 : decode cX4_calm 18 = .ok (.istore_n 1, 1) := by decide +kernel
theorem dX4_calm_19 : decode cX4_calm 19 = .ok (.iconst 0, 1) := by decide +kernel
theorem dX4_calm_20 : decode cX4_calm 20 = .ok (.istore_n 2, 1) := by decide +kernel
theorem dX4_calm_21 : decode cX4_calm 21 = .ok (.iload_n 2, 1) := by decide +kernel
theorem dX4_calm_22 : decode cX4_calm 22 = .ok (.aload_n 0, 1) := by decide +kernel
theorem dX4_calm_23 : decode cX4_calm 23 = .ok (.getfield 12, 3) := by decide +kernel
theorem dX4_calm_26 : decode cX4_calm 26 = .ok (.getfield 87, 3) := by decide +kernel
theorem dX4_calm_29 : decode cX4_calm 29 = .ok (.if_icmp .ge 19, 3) := by decide +kernel
theorem dX4_calm_32 : decode cX4_calm 32 = .ok (.aload_n 0, 1) := by decide +kernel
theorem dX4_calm_33 : decode cX4_calm 33 = .ok (.getfield 12, 3) := by decide +kernel
theorem dX4_calm_36 : decode cX4_calm 36 = .ok (.getfield 113, 3) := by decide +kernel
theorem dX4_calm_39 : decode cX4_calm 39 = .ok (.iload_n 2, 1) := by decide +kernel
theorem dX4_calm_40 : decode cX4_calm 40 = .ok (.iconst 0, 1) := by decide +kernel
theorem dX4_calm_41 : decode cX4_calm 41 = .ok (.iastore, 1) := by decide +kernel
theorem dX4_calm_42 : decode cX4_calm 42 = .ok (.iinc 2 1, 3) := by decide +kernel
theorem dX4_calm_45 : decode cX4_calm 45 = .ok (.goto (-24), 3) := by decide +kernel
theorem dX4_calm_48 : decode cX4_calm 48 = .ok (.iload_n 1, 1) := by decide +kernel
theorem dX4_calm_49 : decode cX4_calm 49 = .ok (.ireturn, 1) := by decide +kernel
theorem dX4_ticks_0 : decode cX4_ticks 0 = .ok (.iload_n 1, 1) := by decide +kernel
theorem dX4_ticks_1 : decode cX4_ticks 1 = .ok (.iconst 0, 1) := by decide +kernel
theorem dX4_ticks_2 : decode cX4_ticks 2 = .ok (.bipush 100, 2) := by decide +kernel
theorem dX4_ticks_4 : decode cX4_ticks 4 = .ok (.invokestatic 59, 3) := by decide +kernel
theorem dX4_ticks_7 : decode cX4_ticks 7 = .ok (.ifCond .ne 5, 3) := by decide +kernel
theorem dX4_ticks_10 : decode cX4_ticks 10 = .ok (.iconst (-1), 1) := by decide +kernel
theorem dX4_ticks_11 : decode cX4_ticks 11 = .ok (.ireturn, 1) := by decide +kernel
theorem dX4_ticks_12 : decode cX4_ticks 12 = .ok (.aload_n 0, 1) := by decide +kernel
theorem dX4_ticks_13 : decode cX4_ticks 13 = .ok (.getfield 12, 3) := by decide +kernel
theorem dX4_ticks_16 : decode cX4_ticks 16 = .ok (.getfield 93, 3) := by decide +kernel
theorem dX4_ticks_19 : decode cX4_ticks 19 = .ok (.iload_n 1, 1) := by decide +kernel
theorem dX4_ticks_20 : decode cX4_ticks 20 = .ok (.iadd, 1) := by decide +kernel
theorem dX4_ticks_21 : decode cX4_ticks 21 = .ok (.sipush 9999, 3) := by decide +kernel
theorem dX4_ticks_24 : decode cX4_ticks 24 = .ok (.if_icmp .le 6, 3) := by decide +kernel
theorem dX4_ticks_27 : decode cX4_ticks 27 = .ok (.bipush (-3), 2) := by decide +kernel
theorem dX4_ticks_29 : decode cX4_ticks 29 = .ok (.ireturn, 1) := by decide +kernel
theorem dX4_ticks_30 : decode cX4_ticks 30 = .ok (.aload_n 0, 1) := by decide +kernel
theorem dX4_ticks_31 : decode cX4_ticks 31 = .ok (.getfield 12, 3) := by decide +kernel
theorem dX4_ticks_34 : decode cX4_ticks 34 = .ok (.iconst 0, 1) := by decide +kernel
theorem dX4_ticks_35 : decode cX4_ticks 35 = .ok (.putfield 153, 3) := by decide +kernel
theorem dX4_ticks_38 : decode cX4_ticks 38 = .ok (.aload_n 0, 1) := by decide +kernel
theorem dX4_ticks_39 : decode cX4_ticks 39 = .ok (.getfield 12, 3) := by decide +kernel
theorem dX4_ticks_42 : decode cX4_ticks 42 = .ok (.iload_n 1, 1) := by decide +kernel
theorem dX4_ticks_43 : decode cX4_ticks 43 = .ok (.invokevirtual 156, 3) := by decide +kernel
theorem dX4_ticks_46 : decode cX4_ticks 46 = .ok (.aload_n 0, 1) := by decide +kernel
theorem dX4_ticks_47 : decode cX4_ticks 47 = .ok (.getfield 12, 3) := by decide +kernel
theorem dX4_ticks_50 : decode cX4_ticks 50 = .ok (.getfield 153, 3) := by decide +kernel
theorem dX4_ticks_53 : decode cX4_ticks 53 = .ok (.ireturn, 1) := by decide +kernel
theorem dX4_runs_0 : decode cX4_runs 0 = .ok (.iload_n 1, 1) := by decide +kernel
theorem dX4_runs_1 : decode cX4_runs 1 = .ok (.iconst 0, 1) := by decide +kernel
theorem dX4_runs_2 : decode cX4_runs 2 = .ok (.sipush 200, 3) := by decide +kernel
theorem dX4_runs_5 : decode cX4_runs 5 = .ok (.invokestatic 59, 3) := by decide +kernel
theorem dX4_runs_8 : decode cX4_runs 8 = .ok (.ifCond .eq 12, 3) := by decide +kernel
theorem dX4_runs_11 : decode cX4_runs 11 = .ok (.iload_n 2, 1) := by decide +kernel
theorem dX4_runs_12 : decode cX4_runs 12 = .ok (.iconst 0, 1) := by decide +kernel
theorem dX4_runs_13 : decode cX4_runs 13 = .ok (.iconst 3, 1) := by decide +kernel
theorem dX4_runs_14 : decode cX4_runs 14 = .ok (.invokestatic 59, 3) := by decide +kernel
theorem dX4_runs_17 : decode cX4_runs 17 = .ok (.ifCond .ne 5, 3) := by decide +kernel
theorem dX4_runs_20 : decode cX4_runs 20 = .ok (.iconst (-1), 1) := by decide +kernel
theorem dX4_runs_21 : decode cX4_runs 21 = .ok (.ireturn, 1) := by decide +kernel
theorem dX4_runs_22 : decode cX4_runs 22 = .ok (.aload_n 0, 1) := by decide +kernel
theorem dX4_runs_23 : decode cX4_runs 23 = .ok (.getfield 16, 3) := by decide +kernel
theorem dX4_runs_26 : decode cX4_runs 26 = .ok (.aload_n 0, 1) := by decide +kernel
theorem dX4_runs_27 : decode cX4_runs 27 = .ok (.getfield 12, 3) := by decide +kernel
theorem dX4_runs_30 : decode cX4_runs 30 = .ok (.invokevirtual 80, 3) := by decide +kernel
theorem dX4_runs_33 : decode cX4_runs 33 = .ok (.aload_n 0, 1) := by decide +kernel
theorem dX4_runs_34 : decode cX4_runs 34 = .ok (.getfield 16, 3) := by decide +kernel
theorem dX4_runs_37 : decode cX4_runs 37 = .ok (.iload_n 1, 1) := by decide +kernel
theorem dX4_runs_38 : decode cX4_runs 38 = .ok (.sipush 301, 3) := by decide +kernel
theorem dX4_runs_41 : decode cX4_runs 41 = .ok (.invokevirtual 160, 3) := by decide +kernel
theorem dX4_runs_44 : decode cX4_runs 44 = .ok (.istore_n 3, 1) := by decide +kernel
theorem dX4_runs_45 : decode cX4_runs 45 = .ok (.iload_n 2, 1) := by decide +kernel
theorem dX4_runs_46 : decode cX4_runs 46 = .ok (.tableswitch 44 0 2 #[26, 34, 36], 26) := by decide +kernel
theorem dX4_runs_72 : decode cX4_runs 72 = .ok (.aload_n 0, 1) := by decide +kernel
theorem dX4_runs_73 : decode cX4_runs 73 = .ok (.getfield 16, 3) := by decide +kernel
theorem dX4_runs_76 : decode cX4_runs 76 = .ok (.getfield 153, 3) := by decide +kernel
theorem dX4_runs_79 : decode cX4_runs 79 = .ok (.ireturn, 1) := by decide +kernel
theorem dX4_runs_80 : decode cX4_runs 80 = .ok (.iload_n 3, 1) := by decide +kernel
theorem dX4_runs_81 : decode cX4_runs 81 = .ok (.ireturn, 1) := by decide +kernel
theorem dX4_runs_82 : decode cX4_runs 82 = .ok (.aload_n 0, 1) := by decide +kernel
theorem dX4_runs_83 : decode cX4_runs 83 = .ok (.getfield 16, 3) := by decide +kernel
theorem dX4_runs_86 : decode cX4_runs 86 = .ok (.invokevirtual 103, 3) := by decide +kernel
theorem dX4_runs_89 : decode cX4_runs 89 = .ok (.ireturn, 1) := by decide +kernel
theorem dX4_runs_90 : decode cX4_runs 90 = .ok (.aload_n 0, 1) := by decide +kernel
theorem dX4_runs_91 : decode cX4_runs 91 = .ok (.getfield 16, 3) := by decide +kernel
theorem dX4_runs_94 : decode cX4_runs 94 = .ok (.getfield 164, 3) := by decide +kernel
theorem dX4_runs_97 : decode cX4_runs 97 = .ok (.ireturn, 1) := by decide +kernel
theorem dX4_ahead_0 : decode cX4_ahead 0 = .ok (.aload_n 0, 1) := by decide +kernel
theorem dX4_ahead_1 : decode cX4_ahead 1 = .ok (.getfield 12, 3) := by decide +kernel
theorem dX4_ahead_4 : decode cX4_ahead 4 = .ok (.iload_n 1, 1) := by decide +kernel
theorem dX4_ahead_5 : decode cX4_ahead 5 = .ok (.invokevirtual 106, 3) := by decide +kernel
theorem dX4_ahead_8 : decode cX4_ahead 8 = .ok (.ifCond .eq 23, 3) := by decide +kernel
theorem dX4_ahead_11 : decode cX4_ahead 11 = .ok (.iload_n 2, 1) := by decide +kernel
theorem dX4_ahead_12 : decode cX4_ahead 12 = .ok (.iconst 0, 1) := by decide +kernel
theorem dX4_ahead_13 : decode cX4_ahead 13 = .ok (.sipush 200, 3) := by decide +kernel
theorem dX4_ahead_16 : decode cX4_ahead 16 = .ok (.invokestatic 59, 3) := by decide +kernel
theorem dX4_ahead_19 : decode cX4_ahead 19 = .ok (.ifCond .eq 12, 3) := by decide +kernel
theorem dX4_ahead_22 : decode cX4_ahead 22 = .ok (.iload_n 3, 1) := by decide +kernel
theorem dX4_ahead_23 : decode cX4_ahead 23 = .ok (.iconst 0, 1) := by decide +kernel
theorem dX4_ahead_24 : decode cX4_ahead 24 = .ok (.iconst 1, 1) := by decide +kernel
theorem dX4_ahead_25 : decode cX4_ahead 25 = .ok (.invokestatic 59, 3) := by decide +kernel
theorem dX4_ahead_28 : decode cX4_ahead 28 = .ok (.ifCond .ne 5, 3) := by decide +kernel
theorem dX4_ahead_31 : decode cX4_ahead 31 = .ok (.iconst (-1), 1) := by decide +kernel
theorem dX4_ahead_32 : decode cX4_ahead 32 = .ok (.ireturn, 1) := by decide +kernel
theorem dX4_ahead_33 : decode cX4_ahead 33 = .ok (.aload_n 0, 1) := by decide +kernel
theorem dX4_ahead_34 : decode cX4_ahead 34 = .ok (.getfield 16, 3) := by decide +kernel
theorem dX4_ahead_37 : decode cX4_ahead 37 = .ok (.aload_n 0, 1) := by decide +kernel
theorem dX4_ahead_38 : decode cX4_ahead 38 = .ok (.getfield 12, 3) := by decide +kernel
theorem dX4_ahead_41 : decode cX4_ahead 41 = .ok (.invokevirtual 80, 3) := by decide +kernel
theorem dX4_ahead_44 : decode cX4_ahead 44 = .ok (.aload_n 0, 1) := by decide +kernel
theorem dX4_ahead_45 : decode cX4_ahead 45 = .ok (.getfield 16, 3) := by decide +kernel
theorem dX4_ahead_48 : decode cX4_ahead 48 = .ok (.iload_n 2, 1) := by decide +kernel
theorem dX4_ahead_49 : decode cX4_ahead 49 = .ok (.invokevirtual 156, 3) := by decide +kernel
theorem dX4_ahead_52 : decode cX4_ahead 52 = .ok (.iload_n 3, 1) := by decide +kernel
theorem dX4_ahead_53 : decode cX4_ahead 53 = .ok (.ifCond .ne 15, 3) := by decide +kernel
theorem dX4_ahead_56 : decode cX4_ahead 56 = .ok (.aload_n 0, 1) := by decide +kernel
theorem dX4_ahead_57 : decode cX4_ahead 57 = .ok (.getfield 16, 3) := by decide +kernel
theorem dX4_ahead_60 : decode cX4_ahead 60 = .ok (.getfield 167, 3) := by decide +kernel
theorem dX4_ahead_63 : decode cX4_ahead 63 = .ok (.iload_n 1, 1) := by decide +kernel
theorem dX4_ahead_64 : decode cX4_ahead 64 = .ok (.iaload, 1) := by decide +kernel
theorem dX4_ahead_65 : decode cX4_ahead 65 = .ok (.goto 15, 3) := by decide +kernel
theorem dX4_ahead_68 : decode cX4_ahead 68 = .ok (.bipush 100, 2) := by decide +kernel
theorem dX4_ahead_70 : decode cX4_ahead 70 = .ok (.aload_n 0, 1) := by decide +kernel
theorem dX4_ahead_71 : decode cX4_ahead 71 = .ok (.getfield 16, 3) := by decide +kernel
theorem dX4_ahead_74 : decode cX4_ahead 74 = .ok (.getfield 113, 3) := by decide +kernel
theorem dX4_ahead_77 : decode cX4_ahead 77 = .ok (.iload_n 1, 1) := by decide +kernel
theorem dX4_ahead_78 : decode cX4_ahead 78 = .ok (.iaload, 1) := by decide +kernel
theorem dX4_ahead_79 : decode cX4_ahead 79 = .ok (.iadd, 1) := by decide +kernel
theorem dX4_ahead_80 : decode cX4_ahead 80 = .ok (.ireturn, 1) := by decide +kernel
theorem dX4_when_0 : decode cX4_when 0 = .ok (.aload_n 0, 1) := by decide +kernel
theorem dX4_when_1 : decode cX4_when 1 = .ok (.getfield 12, 3) := by decide +kernel
theorem dX4_when_4 : decode cX4_when 4 = .ok (.iload_n 1, 1) := by decide +kernel
theorem dX4_when_5 : decode cX4_when 5 = .ok (.invokevirtual 106, 3) := by decide +kernel
theorem dX4_when_8 : decode cX4_when 8 = .ok (.ifCond .eq 14, 3) := by decide +kernel
theorem dX4_when_11 : decode cX4_when 11 = .ok (.iload_n 2, 1) := by decide +kernel
theorem dX4_when_12 : decode cX4_when 12 = .ok (.iconst 0, 1) := by decide +kernel
theorem dX4_when_13 : decode cX4_when 13 = .ok (.sipush 300, 3) := by decide +kernel
theorem dX4_when_16 : decode cX4_when 16 = .ok (.invokestatic 59, 3) := by decide +kernel
theorem dX4_when_19 : decode cX4_when 19 = .ok (.ifCond .ne 5, 3) := by decide +kernel
theorem dX4_when_22 : decode cX4_when 22 = .ok (.iconst (-1), 1) := by decide +kernel
theorem dX4_when_23 : decode cX4_when 23 = .ok (.ireturn, 1) := by decide +kernel
theorem dX4_when_24 : decode cX4_when 24 = .ok (.iload_n 2, 1) := by decide +kernel
theorem dX4_when_25 : decode cX4_when 25 = .ok (.aload_n 0, 1) := by decide +kernel
theorem dX4_when_26 : decode cX4_when 26 = .ok (.getfield 12, 3) := by decide +kernel
theorem dX4_when_29 : decode cX4_when 29 = .ok (.getfield 167, 3) := by decide +kernel
theorem dX4_when_32 : decode cX4_when 32 = .ok (.iload_n 1, 1) := by decide +kernel
theorem dX4_when_33 : decode cX4_when 33 = .ok (.iaload, 1) := by decide +kernel
theorem dX4_when_34 : decode cX4_when 34 = .ok (.invokestatic 170, 3) := by decide +kernel
theorem dX4_when_37 : decode cX4_when 37 = .ok (.istore_n 3, 1) := by decide +kernel
theorem dX4_when_38 : decode cX4_when 38 = .ok (.aload_n 0, 1) := by decide +kernel
theorem dX4_when_39 : decode cX4_when 39 = .ok (.getfield 16, 3) := by decide +kernel
theorem dX4_when_42 : decode cX4_when 42 = .ok (.aload_n 0, 1) := by decide +kernel
theorem dX4_when_43 : decode cX4_when 43 = .ok (.getfield 12, 3) := by decide +kernel
theorem dX4_when_46 : decode cX4_when 46 = .ok (.invokevirtual 80, 3) := by decide +kernel
theorem dX4_when_49 : decode cX4_when 49 = .ok (.iconst 0, 1) := by decide +kernel
theorem dX4_when_50 : decode cX4_when 50 = .ok (.istore 4, 2) := by decide +kernel
theorem dX4_when_52 : decode cX4_when 52 = .ok (.iload 4, 2) := by decide +kernel
theorem dX4_when_54 : decode cX4_when 54 = .ok (.sipush 200, 3) := by decide +kernel
theorem dX4_when_57 : decode cX4_when 57 = .ok (.if_icmp .gt 45, 3) := by decide +kernel
theorem dX4_when_60 : decode cX4_when 60 = .ok (.iload_n 2, 1) := by decide +kernel
theorem dX4_when_61 : decode cX4_when 61 = .ok (.aload_n 0, 1) := by decide +kernel
theorem dX4_when_62 : decode cX4_when 62 = .ok (.getfield 16, 3) := by decide +kernel
theorem dX4_when_65 : decode cX4_when 65 = .ok (.getfield 167, 3) := by decide +kernel
theorem dX4_when_68 : decode cX4_when 68 = .ok (.iload_n 1, 1) := by decide +kernel
theorem dX4_when_69 : decode cX4_when 69 = .ok (.iaload, 1) := by decide +kernel
theorem dX4_when_70 : decode cX4_when 70 = .ok (.invokestatic 170, 3) := by decide +kernel
theorem dX4_when_73 : decode cX4_when 73 = .ok (.istore 5, 2) := by decide +kernel
theorem dX4_when_75 : decode cX4_when 75 = .ok (.iload 5, 2) := by decide +kernel
theorem dX4_when_77 : decode cX4_when 77 = .ok (.ifCond .eq 9, 3) := by decide +kernel
theorem dX4_when_80 : decode cX4_when 80 = .ok (.iload 5, 2) := by decide +kernel
theorem dX4_when_82 : decode cX4_when 82 = .ok (.iload_n 3, 1) := by decide +kernel
theorem dX4_when_83 : decode cX4_when 83 = .ok (.if_icmp .eq 6, 3) := by decide +kernel
theorem dX4_when_86 : decode cX4_when 86 = .ok (.iload 4, 2) := by decide +kernel
theorem dX4_when_88 : decode cX4_when 88 = .ok (.ireturn, 1) := by decide +kernel
theorem dX4_when_89 : decode cX4_when 89 = .ok (.aload_n 0, 1) := by decide +kernel
theorem dX4_when_90 : decode cX4_when 90 = .ok (.getfield 16, 3) := by decide +kernel
theorem dX4_when_93 : decode cX4_when 93 = .ok (.invokevirtual 173, 3) := by decide +kernel
theorem dX4_when_96 : decode cX4_when 96 = .ok (.iinc 4 1, 3) := by decide +kernel
theorem dX4_when_99 : decode cX4_when 99 = .ok (.goto (-47), 3) := by decide +kernel
theorem dX4_when_102 : decode cX4_when 102 = .ok (.bipush (-4), 2) := by decide +kernel
theorem dX4_when_104 : decode cX4_when 104 = .ok (.ireturn, 1) := by decide +kernel
theorem dX4_rests_0 : decode cX4_rests 0 = .ok (.aload_n 0, 1) := by decide +kernel
theorem dX4_rests_1 : decode cX4_rests 1 = .ok (.getfield 16, 3) := by decide +kernel
theorem dX4_rests_4 : decode cX4_rests 4 = .ok (.aload_n 0, 1) := by decide +kernel
theorem dX4_rests_5 : decode cX4_rests 5 = .ok (.getfield 12, 3) := by decide +kernel
theorem dX4_rests_8 : decode cX4_rests 8 = .ok (.invokevirtual 80, 3) := by decide +kernel
theorem dX4_rests_11 : decode cX4_rests 11 = .ok (.iconst 0, 1) := by decide +kernel
theorem dX4_rests_12 : decode cX4_rests 12 = .ok (.istore_n 1, 1) := by decide +kernel
theorem dX4_rests_13 : decode cX4_rests 13 = .ok (.iload_n 1, 1) := by decide +kernel
theorem dX4_rests_14 : decode cX4_rests 14 = .ok (.sipush 200, 3) := by decide +kernel
theorem dX4_rests_17 : decode cX4_rests 17 = .ok (.if_icmp .gt 28, 3) := by decide +kernel
theorem dX4_rests_20 : decode cX4_rests 20 = .ok (.aload_n 0, 1) := by decide +kernel
theorem dX4_rests_21 : decode cX4_rests 21 = .ok (.getfield 16, 3) := by decide +kernel
theorem dX4_rests_24 : decode cX4_rests 24 = .ok (.invokevirtual 176, 3) := by decide +kernel
theorem dX4_rests_27 : decode cX4_rests 27 = .ok (.aload_n 0, 1) := by decide +kernel
theorem dX4_rests_28 : decode cX4_rests 28 = .ok (.getfield 16, 3) := by decide +kernel
theorem dX4_rests_31 : decode cX4_rests 31 = .ok (.getfield 179, 3) := by decide +kernel
theorem dX4_rests_34 : decode cX4_rests 34 = .ok (.ifCond .ne 5, 3) := by decide +kernel
theorem dX4_rests_37 : decode cX4_rests 37 = .ok (.iload_n 1, 1) := by decide +kernel
theorem dX4_rests_38 : decode cX4_rests 38 = .ok (.ireturn, 1) := by decide +kernel
theorem dX4_rests_39 : decode cX4_rests 39 = .ok (.iinc 1 1, 3) := by decide +kernel
theorem dX4_rests_42 : decode cX4_rests 42 = .ok (.goto (-29), 3) := by decide +kernel
theorem dX4_rests_45 : decode cX4_rests 45 = .ok (.bipush (-4), 2) := by decide +kernel
theorem dX4_rests_47 : decode cX4_rests 47 = .ok (.ireturn, 1) := by decide +kernel
theorem dX4_stiff_0 : decode cX4_stiff 0 = .ok (.aload_n 0, 1) := by decide +kernel
theorem dX4_stiff_1 : decode cX4_stiff 1 = .ok (.iconst 2, 1) := by decide +kernel
theorem dX4_stiff_2 : decode cX4_stiff 2 = .ok (.iload_n 1, 1) := by decide +kernel
theorem dX4_stiff_3 : decode cX4_stiff 3 = .ok (.iload_n 2, 1) := by decide +kernel
theorem dX4_stiff_4 : decode cX4_stiff 4 = .ok (.iload_n 3, 1) := by decide +kernel
theorem dX4_stiff_5 : decode cX4_stiff 5 = .ok (.invokevirtual 183, 3) := by decide +kernel
theorem dX4_stiff_8 : decode cX4_stiff 8 = .ok (.ireturn, 1) := by decide +kernel
theorem dX4_rest_0 : decode cX4_rest 0 = .ok (.aload_n 0, 1) := by decide +kernel
theorem dX4_rest_1 : decode cX4_rest 1 = .ok (.iconst 1, 1) := by decide +kernel
theorem dX4_rest_2 : decode cX4_rest 2 = .ok (.iload_n 1, 1) := by decide +kernel
theorem dX4_rest_3 : decode cX4_rest 3 = .ok (.iload_n 2, 1) := by decide +kernel
theorem dX4_rest_4 : decode cX4_rest 4 = .ok (.iload_n 3, 1) := by decide +kernel
theorem dX4_rest_5 : decode cX4_rest 5 = .ok (.invokevirtual 183, 3) := by decide +kernel
theorem dX4_rest_8 : decode cX4_rest 8 = .ok (.ireturn, 1) := by decide +kernel
theorem dX4_kind_0 : decode cX4_kind 0 = .ok (.aload_n 0, 1) := by decide +kernel
theorem dX4_kind_1 : decode cX4_kind 1 = .ok (.iconst 0, 1) := by decide +kernel
theorem dX4_kind_2 : decode cX4_kind 2 = .ok (.iload_n 1, 1) := by decide +kernel
theorem dX4_kind_3 : decode cX4_kind 3 = .ok (.iload_n 2, 1) := by decide +kernel
theorem dX4_kind_4 : decode cX4_kind 4 = .ok (.iload_n 3, 1) := by decide +kernel
theorem dX4_kind_5 : decode cX4_kind 5 = .ok (.invokevirtual 183, 3) := by decide +kernel
theorem dX4_kind_8 : decode cX4_kind 8 = .ok (.ireturn, 1) := by decide +kernel
theorem dX4_mass_0 : decode cX4_mass 0 = .ok (.aload_n 0, 1) := by decide +kernel
theorem dX4_mass_1 : decode cX4_mass 1 = .ok (.iconst 3, 1) := by decide +kernel
theorem dX4_mass_2 : decode cX4_mass 2 = .ok (.iload_n 1, 1) := by decide +kernel
theorem dX4_mass_3 : decode cX4_mass 3 = .ok (.iload_n 2, 1) := by decide +kernel
theorem dX4_mass_4 : decode cX4_mass 4 = .ok (.iload_n 3, 1) := by decide +kernel
theorem dX4_mass_5 : decode cX4_mass 5 = .ok (.invokevirtual 183, 3) := by decide +kernel
theorem dX4_mass_8 : decode cX4_mass 8 = .ok (.ireturn, 1) := by decide +kernel
theorem dX4_swap_0 : decode cX4_swap 0 = .ok (.iload_n 1, 1) := by decide +kernel
theorem dX4_swap_1 : decode cX4_swap 1 = .ok (.iconst 0, 1) := by decide +kernel
theorem dX4_swap_2 : decode cX4_swap 2 = .ok (.bipush 100, 2) := by decide +kernel
theorem dX4_swap_4 : decode cX4_swap 4 = .ok (.invokestatic 59, 3) := by decide +kernel
theorem dX4_swap_7 : decode cX4_swap 7 = .ok (.ifCond .eq 12, 3) := by decide +kernel
theorem dX4_swap_10 : decode cX4_swap 10 = .ok (.iload_n 2, 1) := by decide +kernel
theorem dX4_swap_11 : decode cX4_swap 11 = .ok (.iconst 0, 1) := by decide +kernel
theorem dX4_swap_12 : decode cX4_swap 12 = .ok (.iconst 1, 1) := by decide +kernel
theorem dX4_swap_13 : decode cX4_swap 13 = .ok (.invokestatic 59, 3) := by decide +kernel
theorem dX4_swap_16 : decode cX4_swap 16 = .ok (.ifCond .ne 5, 3) := by decide +kernel
theorem dX4_swap_19 : decode cX4_swap 19 = .ok (.iconst (-1), 1) := by decide +kernel
theorem dX4_swap_20 : decode cX4_swap 20 = .ok (.ireturn, 1) := by decide +kernel
theorem dX4_swap_21 : decode cX4_swap 21 = .ok (.aload_n 0, 1) := by decide +kernel
theorem dX4_swap_22 : decode cX4_swap 22 = .ok (.iload_n 1, 1) := by decide +kernel
theorem dX4_swap_23 : decode cX4_swap 23 = .ok (.invokevirtual 187, 3) := by decide +kernel
theorem dX4_swap_26 : decode cX4_swap 26 = .ok (.istore_n 3, 1) := by decide +kernel
theorem dX4_swap_27 : decode cX4_swap 27 = .ok (.bipush (-4), 2) := by decide +kernel
theorem dX4_swap_29 : decode cX4_swap 29 = .ok (.istore 4, 2) := by decide +kernel
theorem dX4_swap_31 : decode cX4_swap 31 = .ok (.iconst 0, 1) := by decide +kernel
theorem dX4_swap_32 : decode cX4_swap 32 = .ok (.istore 5, 2) := by decide +kernel
theorem dX4_swap_34 : decode cX4_swap 34 = .ok (.iload 5, 2) := by decide +kernel
theorem dX4_swap_36 : decode cX4_swap 36 = .ok (.aload_n 0, 1) := by decide +kernel
theorem dX4_swap_37 : decode cX4_swap 37 = .ok (.getfield 12, 3) := by decide +kernel
theorem dX4_swap_40 : decode cX4_swap 40 = .ok (.getfield 90, 3) := by decide +kernel
theorem dX4_swap_43 : decode cX4_swap 43 = .ok (.if_icmp .ge 85, 3) := by decide +kernel
theorem dX4_swap_46 : decode cX4_swap 46 = .ok (.iload 5, 2) := by decide +kernel
theorem dX4_swap_48 : decode cX4_swap 48 = .ok (.iconst 1, 1) := by decide +kernel
theorem dX4_swap_49 : decode cX4_swap 49 = .ok (.iadd, 1) := by decide +kernel
theorem dX4_swap_50 : decode cX4_swap 50 = .ok (.istore 6, 2) := by decide +kernel
theorem dX4_swap_52 : decode cX4_swap 52 = .ok (.iload 6, 2) := by decide +kernel
theorem dX4_swap_54 : decode cX4_swap 54 = .ok (.aload_n 0, 1) := by decide +kernel
theorem dX4_swap_55 : decode cX4_swap 55 = .ok (.getfield 12, 3) := by decide +kernel
theorem dX4_swap_58 : decode cX4_swap 58 = .ok (.getfield 90, 3) := by decide +kernel
theorem dX4_swap_61 : decode cX4_swap 61 = .ok (.if_icmp .ge 61, 3) := by decide +kernel
theorem dX4_swap_64 : decode cX4_swap 64 = .ok (.aload_n 0, 1) := by decide +kernel
theorem dX4_swap_65 : decode cX4_swap 65 = .ok (.getfield 16, 3) := by decide +kernel
theorem dX4_swap_68 : decode cX4_swap 68 = .ok (.aload_n 0, 1) := by decide +kernel
theorem dX4_swap_69 : decode cX4_swap 69 = .ok (.getfield 12, 3) := by decide +kernel
theorem dX4_swap_72 : decode cX4_swap 72 = .ok (.invokevirtual 80, 3) := by decide +kernel
theorem dX4_swap_75 : decode cX4_swap 75 = .ok (.aload_n 0, 1) := by decide +kernel
theorem dX4_swap_76 : decode cX4_swap 76 = .ok (.getfield 16, 3) := by decide +kernel
theorem dX4_swap_79 : decode cX4_swap 79 = .ok (.iload 5, 2) := by decide +kernel
theorem dX4_swap_81 : decode cX4_swap 81 = .ok (.iload 6, 2) := by decide +kernel
theorem dX4_swap_83 : decode cX4_swap 83 = .ok (.invokevirtual 190, 3) := by decide +kernel
theorem dX4_swap_86 : decode cX4_swap 86 = .ok (.aload_n 0, 1) := by decide +kernel
theorem dX4_swap_87 : decode cX4_swap 87 = .ok (.getfield 16, 3) := by decide +kernel
theorem dX4_swap_90 : decode cX4_swap 90 = .ok (.iload_n 1, 1) := by decide +kernel
theorem dX4_swap_91 : decode cX4_swap 91 = .ok (.iload_n 3, 1) := by decide +kernel
theorem dX4_swap_92 : decode cX4_swap 92 = .ok (.invokevirtual 160, 3) := by decide +kernel
theorem dX4_swap_95 : decode cX4_swap 95 = .ok (.istore 7, 2) := by decide +kernel
theorem dX4_swap_97 : decode cX4_swap 97 = .ok (.iload 7, 2) := by decide +kernel
theorem dX4_swap_99 : decode cX4_swap 99 = .ok (.iload_n 3, 1) := by decide +kernel
theorem dX4_swap_100 : decode cX4_swap 100 = .ok (.if_icmp .ge 16, 3) := by decide +kernel
theorem dX4_swap_103 : decode cX4_swap 103 = .ok (.iload 7, 2) := by decide +kernel
theorem dX4_swap_105 : decode cX4_swap 105 = .ok (.istore_n 3, 1) := by decide +kernel
theorem dX4_swap_106 : decode cX4_swap 106 = .ok (.bipush 100, 2) := by decide +kernel
theorem dX4_swap_108 : decode cX4_swap 108 = .ok (.iload 5, 2) := by decide +kernel
theorem dX4_swap_110 : decode cX4_swap 110 = .ok (.imul, 1) := by decide +kernel
theorem dX4_swap_111 : decode cX4_swap 111 = .ok (.iload 6, 2) := by decide +kernel
theorem dX4_swap_113 : decode cX4_swap 113 = .ok (.iadd, 1) := by decide +kernel
theorem dX4_swap_114 : decode cX4_swap 114 = .ok (.istore 4, 2) := by decide +kernel
theorem dX4_swap_116 : decode cX4_swap 116 = .ok (.iinc 6 1, 3) := by decide +kernel
theorem dX4_swap_119 : decode cX4_swap 119 = .ok (.goto (-67), 3) := by decide +kernel
theorem dX4_swap_122 : decode cX4_swap 122 = .ok (.iinc 5 1, 3) := by decide +kernel
theorem dX4_swap_125 : decode cX4_swap 125 = .ok (.goto (-91), 3) := by decide +kernel
theorem dX4_swap_128 : decode cX4_swap 128 = .ok (.iload 4, 2) := by decide +kernel
theorem dX4_swap_130 : decode cX4_swap 130 = .ok (.bipush (-4), 2) := by decide +kernel
theorem dX4_swap_132 : decode cX4_swap 132 = .ok (.if_icmp .eq 7, 3) := by decide +kernel
theorem dX4_swap_135 : decode cX4_swap 135 = .ok (.iload_n 2, 1) := by decide +kernel
theorem dX4_swap_136 : decode cX4_swap 136 = .ok (.ifCond .ne 8, 3) := by decide +kernel
theorem dX4_swap_139 : decode cX4_swap 139 = .ok (.iload 4, 2) := by decide +kernel
theorem dX4_swap_141 : decode cX4_swap 141 = .ok (.goto 4, 3) := by decide +kernel
theorem dX4_swap_144 : decode cX4_swap 144 = .ok (.iload_n 3, 1) := by decide +kernel
theorem dX4_swap_145 : decode cX4_swap 145 = .ok (.ireturn, 1) := by decide +kernel
theorem dX4_miss_0 : decode cX4_miss 0 = .ok (.iload_n 1, 1) := by decide +kernel
theorem dX4_miss_1 : decode cX4_miss 1 = .ok (.iconst 0, 1) := by decide +kernel
theorem dX4_miss_2 : decode cX4_miss 2 = .ok (.bipush 100, 2) := by decide +kernel
theorem dX4_miss_4 : decode cX4_miss 4 = .ok (.invokestatic 59, 3) := by decide +kernel
theorem dX4_miss_7 : decode cX4_miss 7 = .ok (.ifCond .eq 12, 3) := by decide +kernel
theorem dX4_miss_10 : decode cX4_miss 10 = .ok (.iload_n 2, 1) := by decide +kernel
theorem dX4_miss_11 : decode cX4_miss 11 = .ok (.iconst 0, 1) := by decide +kernel
theorem dX4_miss_12 : decode cX4_miss 12 = .ok (.iconst 1, 1) := by decide +kernel
theorem dX4_miss_13 : decode cX4_miss 13 = .ok (.invokestatic 59, 3) := by decide +kernel
theorem dX4_miss_16 : decode cX4_miss 16 = .ok (.ifCond .ne 5, 3) := by decide +kernel
theorem dX4_miss_19 : decode cX4_miss 19 = .ok (.iconst (-1), 1) := by decide +kernel
theorem dX4_miss_20 : decode cX4_miss 20 = .ok (.ireturn, 1) := by decide +kernel
theorem dX4_miss_21 : decode cX4_miss 21 = .ok (.aload_n 0, 1) := by decide +kernel
theorem dX4_miss_22 : decode cX4_miss 22 = .ok (.iload_n 1, 1) := by decide +kernel
theorem dX4_miss_23 : decode cX4_miss 23 = .ok (.invokevirtual 187, 3) := by decide +kernel
theorem dX4_miss_26 : decode cX4_miss 26 = .ok (.istore_n 3, 1) := by decide +kernel
theorem dX4_miss_27 : decode cX4_miss 27 = .ok (.bipush (-4), 2) := by decide +kernel
theorem dX4_miss_29 : decode cX4_miss 29 = .ok (.istore 4, 2) := by decide +kernel
theorem dX4_miss_31 : decode cX4_miss 31 = .ok (.iconst 0, 1) := by decide +kernel
theorem dX4_miss_32 : decode cX4_miss 32 = .ok (.istore 5, 2) := by decide +kernel
theorem dX4_miss_34 : decode cX4_miss 34 = .ok (.iload 5, 2) := by decide +kernel
theorem dX4_miss_36 : decode cX4_miss 36 = .ok (.aload_n 0, 1) := by decide +kernel
theorem dX4_miss_37 : decode cX4_miss 37 = .ok (.getfield 12, 3) := by decide +kernel
theorem dX4_miss_40 : decode cX4_miss 40 = .ok (.getfield 90, 3) := by decide +kernel
theorem dX4_miss_43 : decode cX4_miss 43 = .ok (.if_icmp .ge 55, 3) := by decide +kernel
theorem dX4_miss_46 : decode cX4_miss 46 = .ok (.aload_n 0, 1) := by decide +kernel
theorem dX4_miss_47 : decode cX4_miss 47 = .ok (.getfield 16, 3) := by decide +kernel
theorem dX4_miss_50 : decode cX4_miss 50 = .ok (.aload_n 0, 1) := by decide +kernel
theorem dX4_miss_51 : decode cX4_miss 51 = .ok (.getfield 12, 3) := by decide +kernel
theorem dX4_miss_54 : decode cX4_miss 54 = .ok (.invokevirtual 80, 3) := by decide +kernel
theorem dX4_miss_57 : decode cX4_miss 57 = .ok (.aload_n 0, 1) := by decide +kernel
theorem dX4_miss_58 : decode cX4_miss 58 = .ok (.getfield 16, 3) := by decide +kernel
theorem dX4_miss_61 : decode cX4_miss 61 = .ok (.getfield 127, 3) := by decide +kernel
theorem dX4_miss_64 : decode cX4_miss 64 = .ok (.iload 5, 2) := by decide +kernel
theorem dX4_miss_66 : decode cX4_miss 66 = .ok (.iconst 0, 1) := by decide +kernel
theorem dX4_miss_67 : decode cX4_miss 67 = .ok (.iastore, 1) := by decide +kernel
theorem dX4_miss_68 : decode cX4_miss 68 = .ok (.aload_n 0, 1) := by decide +kernel
theorem dX4_miss_69 : decode cX4_miss 69 = .ok (.getfield 16, 3) := by decide +kernel
theorem dX4_miss_72 : decode cX4_miss 72 = .ok (.iload_n 1, 1) := by decide +kernel
theorem dX4_miss_73 : decode cX4_miss 73 = .ok (.iload_n 3, 1) := by decide +kernel
theorem dX4_miss_74 : decode cX4_miss 74 = .ok (.invokevirtual 160, 3) := by decide +kernel
theorem dX4_miss_77 : decode cX4_miss 77 = .ok (.istore 6, 2) := by decide +kernel
theorem dX4_miss_79 : decode cX4_miss 79 = .ok (.iload 6, 2) := by decide +kernel
theorem dX4_miss_81 : decode cX4_miss 81 = .ok (.iload_n 3, 1) := by decide +kernel
theorem dX4_miss_82 : decode cX4_miss 82 = .ok (.if_icmp .ge 10, 3) := by decide +kernel
theorem dX4_miss_85 : decode cX4_miss 85 = .ok (.iload 6, 2) := by decide +kernel
theorem dX4_miss_87 : decode cX4_miss 87 = .ok (.istore_n 3, 1) := by decide +kernel
theorem dX4_miss_88 : decode cX4_miss 88 = .ok (.iload 5, 2) := by decide +kernel
theorem dX4_miss_90 : decode cX4_miss 90 = .ok (.istore 4, 2) := by decide +kernel
theorem dX4_miss_92 : decode cX4_miss 92 = .ok (.iinc 5 1, 3) := by decide +kernel
theorem dX4_miss_95 : decode cX4_miss 95 = .ok (.goto (-61), 3) := by decide +kernel
theorem dX4_miss_98 : decode cX4_miss 98 = .ok (.iload 4, 2) := by decide +kernel
theorem dX4_miss_100 : decode cX4_miss 100 = .ok (.bipush (-4), 2) := by decide +kernel
theorem dX4_miss_102 : decode cX4_miss 102 = .ok (.if_icmp .eq 7, 3) := by decide +kernel
theorem dX4_miss_105 : decode cX4_miss 105 = .ok (.iload_n 2, 1) := by decide +kernel
theorem dX4_miss_106 : decode cX4_miss 106 = .ok (.ifCond .ne 8, 3) := by decide +kernel
theorem dX4_miss_109 : decode cX4_miss 109 = .ok (.iload 4, 2) := by decide +kernel
theorem dX4_miss_111 : decode cX4_miss 111 = .ok (.goto 4, 3) := by decide +kernel
theorem dX4_miss_114 : decode cX4_miss 114 = .ok (.iload_n 3, 1) := by decide +kernel
theorem dX4_miss_115 : decode cX4_miss 115 = .ok (.ireturn, 1) := by decide +kernel
theorem dX4_swingAsItIs_0 : decode cX4_swingAsItIs 0 = .ok (.aload_n 0, 1) := by decide +kernel
theorem dX4_swingAsItIs_1 : decode cX4_swingAsItIs 1 = .ok (.getfield 16, 3) := by decide +kernel
theorem dX4_swingAsItIs_4 : decode cX4_swingAsItIs 4 = .ok (.aload_n 0, 1) := by decide +kernel
theorem dX4_swingAsItIs_5 : decode cX4_swingAsItIs 5 = .ok (.getfield 12, 3) := by decide +kernel
theorem dX4_swingAsItIs_8 : decode cX4_swingAsItIs 8 = .ok (.invokevirtual 80, 3) := by decide +kernel
theorem dX4_swingAsItIs_11 : decode cX4_swingAsItIs 11 = .ok (.aload_n 0, 1) := by decide +kernel
theorem dX4_swingAsItIs_12 : decode cX4_swingAsItIs 12 = .ok (.getfield 16, 3) := by decide +kernel
theorem dX4_swingAsItIs_15 : decode cX4_swingAsItIs 15 = .ok (.iload_n 1, 1) := by decide +kernel
theorem dX4_swingAsItIs_16 : decode cX4_swingAsItIs 16 = .ok (.sipush 301, 3) := by decide +kernel
theorem dX4_swingAsItIs_19 : decode cX4_swingAsItIs 19 = .ok (.invokevirtual 160, 3) := by decide +kernel
theorem dX4_swingAsItIs_22 : decode cX4_swingAsItIs 22 = .ok (.ireturn, 1) := by decide +kernel
theorem dX4_steadiest_0 : decode cX4_steadiest 0 = .ok (.aload_n 0, 1) := by decide +kernel
theorem dX4_steadiest_1 : decode cX4_steadiest 1 = .ok (.getfield 12, 3) := by decide +kernel
theorem dX4_steadiest_4 : decode cX4_steadiest 4 = .ok (.iload_n 2, 1) := by decide +kernel
theorem dX4_steadiest_5 : decode cX4_steadiest 5 = .ok (.invokevirtual 106, 3) := by decide +kernel
theorem dX4_steadiest_8 : decode cX4_steadiest 8 = .ok (.ifCond .eq 23, 3) := by decide +kernel
theorem dX4_steadiest_11 : decode cX4_steadiest 11 = .ok (.iload_n 3, 1) := by decide +kernel
theorem dX4_steadiest_12 : decode cX4_steadiest 12 = .ok (.iconst 0, 1) := by decide +kernel
theorem dX4_steadiest_13 : decode cX4_steadiest 13 = .ok (.bipush 100, 2) := by decide +kernel
theorem dX4_steadiest_15 : decode cX4_steadiest 15 = .ok (.invokestatic 59, 3) := by decide +kernel
theorem dX4_steadiest_18 : decode cX4_steadiest 18 = .ok (.ifCond .eq 13, 3) := by decide +kernel
theorem dX4_steadiest_21 : decode cX4_steadiest 21 = .ok (.iload 4, 2) := by decide +kernel
theorem dX4_steadiest_23 : decode cX4_steadiest 23 = .ok (.iconst 0, 1) := by decide +kernel
theorem dX4_steadiest_24 : decode cX4_steadiest 24 = .ok (.iconst 1, 1) := by decide +kernel
theorem dX4_steadiest_25 : decode cX4_steadiest 25 = .ok (.invokestatic 59, 3) := by decide +kernel
theorem dX4_steadiest_28 : decode cX4_steadiest 28 = .ok (.ifCond .ne 5, 3) := by decide +kernel
theorem dX4_steadiest_31 : decode cX4_steadiest 31 = .ok (.iconst (-1), 1) := by decide +kernel
theorem dX4_steadiest_32 : decode cX4_steadiest 32 = .ok (.ireturn, 1) := by decide +kernel
theorem dX4_steadiest_33 : decode cX4_steadiest 33 = .ok (.sipush 301, 3) := by decide +kernel
theorem dX4_steadiest_36 : decode cX4_steadiest 36 = .ok (.istore 5, 2) := by decide +kernel
theorem dX4_steadiest_38 : decode cX4_steadiest 38 = .ok (.getstatic 130, 3) := by decide +kernel
theorem dX4_steadiest_41 : decode cX4_steadiest 41 = .ok (.iload_n 1, 1) := by decide +kernel
theorem dX4_steadiest_42 : decode cX4_steadiest 42 = .ok (.iaload, 1) := by decide +kernel
theorem dX4_steadiest_43 : decode cX4_steadiest 43 = .ok (.istore 6, 2) := by decide +kernel
theorem dX4_steadiest_45 : decode cX4_steadiest 45 = .ok (.getstatic 130, 3) := by decide +kernel
theorem dX4_steadiest_48 : decode cX4_steadiest 48 = .ok (.iload_n 1, 1) := by decide +kernel
theorem dX4_steadiest_49 : decode cX4_steadiest 49 = .ok (.iaload, 1) := by decide +kernel
theorem dX4_steadiest_50 : decode cX4_steadiest 50 = .ok (.istore 7, 2) := by decide +kernel
theorem dX4_steadiest_52 : decode cX4_steadiest 52 = .ok (.iload 7, 2) := by decide +kernel
theorem dX4_steadiest_54 : decode cX4_steadiest 54 = .ok (.getstatic 133, 3) := by decide +kernel
theorem dX4_steadiest_57 : decode cX4_steadiest 57 = .ok (.iload_n 1, 1) := by decide +kernel
theorem dX4_steadiest_58 : decode cX4_steadiest 58 = .ok (.iaload, 1) := by decide +kernel
theorem dX4_steadiest_59 : decode cX4_steadiest 59 = .ok (.if_icmp .gt 44, 3) := by decide +kernel
theorem dX4_steadiest_62 : decode cX4_steadiest 62 = .ok (.aload_n 0, 1) := by decide +kernel
theorem dX4_steadiest_63 : decode cX4_steadiest 63 = .ok (.iload_n 1, 1) := by decide +kernel
theorem dX4_steadiest_64 : decode cX4_steadiest 64 = .ok (.iload_n 2, 1) := by decide +kernel
theorem dX4_steadiest_65 : decode cX4_steadiest 65 = .ok (.iload 7, 2) := by decide +kernel
theorem dX4_steadiest_67 : decode cX4_steadiest 67 = .ok (.invokevirtual 193, 3) := by decide +kernel
theorem dX4_steadiest_70 : decode cX4_steadiest 70 = .ok (.aload_n 0, 1) := by decide +kernel
theorem dX4_steadiest_71 : decode cX4_steadiest 71 = .ok (.getfield 16, 3) := by decide +kernel
theorem dX4_steadiest_74 : decode cX4_steadiest 74 = .ok (.iload_n 3, 1) := by decide +kernel
theorem dX4_steadiest_75 : decode cX4_steadiest 75 = .ok (.iload 5, 2) := by decide +kernel
theorem dX4_steadiest_77 : decode cX4_steadiest 77 = .ok (.invokevirtual 160, 3) := by decide +kernel
theorem dX4_steadiest_80 : decode cX4_steadiest 80 = .ok (.istore 8, 2) := by decide +kernel
theorem dX4_steadiest_82 : decode cX4_steadiest 82 = .ok (.iload 8, 2) := by decide +kernel
theorem dX4_steadiest_84 : decode cX4_steadiest 84 = .ok (.iload 5, 2) := by decide +kernel
theorem dX4_steadiest_86 : decode cX4_steadiest 86 = .ok (.if_icmp .ge 11, 3) := by decide +kernel
theorem dX4_steadiest_89 : decode cX4_steadiest 89 = .ok (.iload 8, 2) := by decide +kernel
theorem dX4_steadiest_91 : decode cX4_steadiest 91 = .ok (.istore 5, 2) := by decide +kernel
theorem dX4_steadiest_93 : decode cX4_steadiest 93 = .ok (.iload 7, 2) := by decide +kernel
theorem dX4_steadiest_95 : decode cX4_steadiest 95 = .ok (.istore 6, 2) := by decide +kernel
theorem dX4_steadiest_97 : decode cX4_steadiest 97 = .ok (.iinc 7 1, 3) := by decide +kernel
theorem dX4_steadiest_100 : decode cX4_steadiest 100 = .ok (.goto (-48), 3) := by decide +kernel
theorem dX4_steadiest_103 : decode cX4_steadiest 103 = .ok (.iload 4, 2) := by decide +kernel
theorem dX4_steadiest_105 : decode cX4_steadiest 105 = .ok (.ifCond .ne 8, 3) := by decide +kernel
theorem dX4_steadiest_108 : decode cX4_steadiest 108 = .ok (.iload 6, 2) := by decide +kernel
theorem dX4_steadiest_110 : decode cX4_steadiest 110 = .ok (.goto 5, 3) := by decide +kernel
theorem dX4_steadiest_113 : decode cX4_steadiest 113 = .ok (.iload 5, 2) := by decide +kernel
theorem dX4_steadiest_115 : decode cX4_steadiest 115 = .ok (.ireturn, 1) := by decide +kernel
theorem dX4_tryWith_0 : decode cX4_tryWith 0 = .ok (.aload_n 0, 1) := by decide +kernel
theorem dX4_tryWith_1 : decode cX4_tryWith 1 = .ok (.getfield 16, 3) := by decide +kernel
theorem dX4_tryWith_4 : decode cX4_tryWith 4 = .ok (.aload_n 0, 1) := by decide +kernel
theorem dX4_tryWith_5 : decode cX4_tryWith 5 = .ok (.getfield 12, 3) := by decide +kernel
theorem dX4_tryWith_8 : decode cX4_tryWith 8 = .ok (.invokevirtual 80, 3) := by decide +kernel
theorem dX4_tryWith_11 : decode cX4_tryWith 11 = .ok (.aload_n 0, 1) := by decide +kernel
theorem dX4_tryWith_12 : decode cX4_tryWith 12 = .ok (.getfield 16, 3) := by decide +kernel
theorem dX4_tryWith_15 : decode cX4_tryWith 15 = .ok (.iload_n 1, 1) := by decide +kernel
theorem dX4_tryWith_16 : decode cX4_tryWith 16 = .ok (.invokevirtual 109, 3) := by decide +kernel
theorem dX4_tryWith_19 : decode cX4_tryWith 19 = .ok (.iload_n 2, 1) := by decide +kernel
theorem dX4_tryWith_20 : decode cX4_tryWith 20 = .ok (.iload_n 3, 1) := by decide +kernel
theorem dX4_tryWith_21 : decode cX4_tryWith 21 = .ok (.iastore, 1) := by decide +kernel
theorem dX4_tryWith_22 : decode cX4_tryWith 22 = .ok (.return_, 1) := by decide +kernel
theorem dX4_luck_0 : decode cX4_luck 0 = .ok (.iload_n 1, 1) := by decide +kernel
theorem dX4_luck_1 : decode cX4_luck 1 = .ok (.iconst 0, 1) := by decide +kernel
theorem dX4_luck_2 : decode cX4_luck 2 = .ok (.bipush 10, 2) := by decide +kernel
theorem dX4_luck_4 : decode cX4_luck 4 = .ok (.invokestatic 59, 3) := by decide +kernel
theorem dX4_luck_7 : decode cX4_luck 7 = .ok (.ifCond .eq 34, 3) := by decide +kernel
theorem dX4_luck_10 : decode cX4_luck 10 = .ok (.iload_n 2, 1) := by decide +kernel
theorem dX4_luck_11 : decode cX4_luck 11 = .ok (.iconst 0, 1) := by decide +kernel
theorem dX4_luck_12 : decode cX4_luck 12 = .ok (.sipush 300, 3) := by decide +kernel
theorem dX4_luck_15 : decode cX4_luck 15 = .ok (.invokestatic 59, 3) := by decide +kernel
theorem dX4_luck_18 : decode cX4_luck 18 = .ok (.ifCond .eq 23, 3) := by decide +kernel
theorem dX4_luck_21 : decode cX4_luck 21 = .ok (.iload_n 3, 1) := by decide +kernel
theorem dX4_luck_22 : decode cX4_luck 22 = .ok (.iconst 0, 1) := by decide +kernel
theorem dX4_luck_23 : decode cX4_luck 23 = .ok (.bipush 8, 2) := by decide +kernel
theorem dX4_luck_25 : decode cX4_luck 25 = .ok (.invokestatic 59, 3) := by decide +kernel
theorem dX4_luck_28 : decode cX4_luck 28 = .ok (.ifCond .eq 13, 3) := by decide +kernel
theorem dX4_luck_31 : decode cX4_luck 31 = .ok (.iload 4, 2) := by decide +kernel
theorem dX4_luck_33 : decode cX4_luck 33 = .ok (.iconst 0, 1) := by decide +kernel
theorem dX4_luck_34 : decode cX4_luck 34 = .ok (.iconst 1, 1) := by decide +kernel
theorem dX4_luck_35 : decode cX4_luck 35 = .ok (.invokestatic 59, 3) := by decide +kernel
theorem dX4_luck_38 : decode cX4_luck 38 = .ok (.ifCond .ne 7, 3) := by decide +kernel
theorem dX4_luck_41 : decode cX4_luck 41 = .ok (.ldc2_w 197, 3) := by decide +kernel
theorem dX4_luck_44 : decode cX4_luck 44 = .ok (.lreturn, 1) := by decide +kernel
theorem dX4_luck_45 : decode cX4_luck 45 = .ok (.aload_n 0, 1) := by decide +kernel
theorem dX4_luck_46 : decode cX4_luck 46 = .ok (.getfield 12, 3) := by decide +kernel
theorem dX4_luck_49 : decode cX4_luck 49 = .ok (.getfield 87, 3) := by decide +kernel
theorem dX4_luck_52 : decode cX4_luck 52 = .ok (.ifCond .ne 7, 3) := by decide +kernel
theorem dX4_luck_55 : decode cX4_luck 55 = .ok (.ldc2_w 199, 3) := by decide +kernel
theorem dX4_luck_58 : decode cX4_luck 58 = .ok (.lreturn, 1) := by decide +kernel
theorem dX4_luck_59 : decode cX4_luck 59 = .ok (.lconst 0, 1) := by decide +kernel
theorem dX4_luck_60 : decode cX4_luck 60 = .ok (.lstore 5, 2) := by decide +kernel
theorem dX4_luck_62 : decode cX4_luck 62 = .ok (.iconst 0, 1) := by decide +kernel
theorem dX4_luck_63 : decode cX4_luck 63 = .ok (.istore 7, 2) := by decide +kernel
theorem dX4_luck_65 : decode cX4_luck 65 = .ok (.iload 7, 2) := by decide +kernel
theorem dX4_luck_67 : decode cX4_luck 67 = .ok (.iconst 1, 1) := by decide +kernel
theorem dX4_luck_68 : decode cX4_luck 68 = .ok (.iload_n 3, 1) := by decide +kernel
theorem dX4_luck_69 : decode cX4_luck 69 = .ok (.ishl, 1) := by decide +kernel
theorem dX4_luck_70 : decode cX4_luck 70 = .ok (.if_icmp .ge 39, 3) := by decide +kernel
theorem dX4_luck_73 : decode cX4_luck 73 = .ok (.aload_n 0, 1) := by decide +kernel
theorem dX4_luck_74 : decode cX4_luck 74 = .ok (.iload 7, 2) := by decide +kernel
theorem dX4_luck_76 : decode cX4_luck 76 = .ok (.iload_n 3, 1) := by decide +kernel
theorem dX4_luck_77 : decode cX4_luck 77 = .ok (.invokevirtual 201, 3) := by decide +kernel
theorem dX4_luck_80 : decode cX4_luck 80 = .ok (.aload_n 0, 1) := by decide +kernel
theorem dX4_luck_81 : decode cX4_luck 81 = .ok (.getfield 16, 3) := by decide +kernel
theorem dX4_luck_84 : decode cX4_luck 84 = .ok (.invokevirtual 103, 3) := by decide +kernel
theorem dX4_luck_87 : decode cX4_luck 87 = .ok (.iload_n 2, 1) := by decide +kernel
theorem dX4_luck_88 : decode cX4_luck 88 = .ok (.if_icmp .lt 15, 3) := by decide +kernel
theorem dX4_luck_91 : decode cX4_luck 91 = .ok (.lload 5, 2) := by decide +kernel
theorem dX4_luck_93 : decode cX4_luck 93 = .ok (.iload 7, 2) := by decide +kernel
theorem dX4_luck_95 : decode cX4_luck 95 = .ok (.iload_n 1, 1) := by decide +kernel
theorem dX4_luck_96 : decode cX4_luck 96 = .ok (.iload_n 3, 1) := by decide +kernel
theorem dX4_luck_97 : decode cX4_luck 97 = .ok (.invokestatic 204, 3) := by decide +kernel
theorem dX4_luck_100 : decode cX4_luck 100 = .ok (.ladd, 1) := by decide +kernel
theorem dX4_luck_101 : decode cX4_luck 101 = .ok (.lstore 5, 2) := by decide +kernel
theorem dX4_luck_103 : decode cX4_luck 103 = .ok (.iinc 7 1, 3) := by decide +kernel
theorem dX4_luck_106 : decode cX4_luck 106 = .ok (.goto (-41), 3) := by decide +kernel
theorem dX4_luck_109 : decode cX4_luck 109 = .ok (.lload 5, 2) := by decide +kernel
theorem dX4_luck_111 : decode cX4_luck 111 = .ok (.bipush 10, 2) := by decide +kernel
theorem dX4_luck_113 : decode cX4_luck 113 = .ok (.iload_n 3, 1) := by decide +kernel
theorem dX4_luck_114 : decode cX4_luck 114 = .ok (.invokestatic 208, 3) := by decide +kernel
theorem dX4_luck_117 : decode cX4_luck 117 = .ok (.iload 4, 2) := by decide +kernel
theorem dX4_luck_119 : decode cX4_luck 119 = .ok (.invokestatic 212, 3) := by decide +kernel
theorem dX4_luck_122 : decode cX4_luck 122 = .ok (.lreturn, 1) := by decide +kernel
theorem dX4_mean_0 : decode cX4_mean 0 = .ok (.iload_n 1, 1) := by decide +kernel
theorem dX4_mean_1 : decode cX4_mean 1 = .ok (.iconst 0, 1) := by decide +kernel
theorem dX4_mean_2 : decode cX4_mean 2 = .ok (.bipush 10, 2) := by decide +kernel
theorem dX4_mean_4 : decode cX4_mean 4 = .ok (.invokestatic 59, 3) := by decide +kernel
theorem dX4_mean_7 : decode cX4_mean 7 = .ok (.ifCond .eq 22, 3) := by decide +kernel
theorem dX4_mean_10 : decode cX4_mean 10 = .ok (.iload_n 2, 1) := by decide +kernel
theorem dX4_mean_11 : decode cX4_mean 11 = .ok (.iconst 0, 1) := by decide +kernel
theorem dX4_mean_12 : decode cX4_mean 12 = .ok (.bipush 8, 2) := by decide +kernel
theorem dX4_mean_14 : decode cX4_mean 14 = .ok (.invokestatic 59, 3) := by decide +kernel
theorem dX4_mean_17 : decode cX4_mean 17 = .ok (.ifCond .eq 12, 3) := by decide +kernel
theorem dX4_mean_20 : decode cX4_mean 20 = .ok (.iload_n 3, 1) := by decide +kernel
theorem dX4_mean_21 : decode cX4_mean 21 = .ok (.iconst 0, 1) := by decide +kernel
theorem dX4_mean_22 : decode cX4_mean 22 = .ok (.iconst 1, 1) := by decide +kernel
theorem dX4_mean_23 : decode cX4_mean 23 = .ok (.invokestatic 59, 3) := by decide +kernel
theorem dX4_mean_26 : decode cX4_mean 26 = .ok (.ifCond .ne 7, 3) := by decide +kernel
theorem dX4_mean_29 : decode cX4_mean 29 = .ok (.ldc2_w 197, 3) := by decide +kernel
theorem dX4_mean_32 : decode cX4_mean 32 = .ok (.lreturn, 1) := by decide +kernel
theorem dX4_mean_33 : decode cX4_mean 33 = .ok (.lconst 0, 1) := by decide +kernel
theorem dX4_mean_34 : decode cX4_mean 34 = .ok (.lstore 4, 2) := by decide +kernel
theorem dX4_mean_36 : decode cX4_mean 36 = .ok (.iconst 0, 1) := by decide +kernel
theorem dX4_mean_37 : decode cX4_mean 37 = .ok (.istore 6, 2) := by decide +kernel
theorem dX4_mean_39 : decode cX4_mean 39 = .ok (.iload 6, 2) := by decide +kernel
theorem dX4_mean_41 : decode cX4_mean 41 = .ok (.iconst 1, 1) := by decide +kernel
theorem dX4_mean_42 : decode cX4_mean 42 = .ok (.iload_n 2, 1) := by decide +kernel
theorem dX4_mean_43 : decode cX4_mean 43 = .ok (.ishl, 1) := by decide +kernel
theorem dX4_mean_44 : decode cX4_mean 44 = .ok (.if_icmp .ge 48, 3) := by decide +kernel
theorem dX4_mean_47 : decode cX4_mean 47 = .ok (.aload_n 0, 1) := by decide +kernel
theorem dX4_mean_48 : decode cX4_mean 48 = .ok (.iload 6, 2) := by decide +kernel
theorem dX4_mean_50 : decode cX4_mean 50 = .ok (.iload_n 2, 1) := by decide +kernel
theorem dX4_mean_51 : decode cX4_mean 51 = .ok (.invokevirtual 201, 3) := by decide +kernel
theorem dX4_mean_54 : decode cX4_mean 54 = .ok (.lload 4, 2) := by decide +kernel
theorem dX4_mean_56 : decode cX4_mean 56 = .ok (.iload 6, 2) := by decide +kernel
theorem dX4_mean_58 : decode cX4_mean 58 = .ok (.iload_n 1, 1) := by decide +kernel
theorem dX4_mean_59 : decode cX4_mean 59 = .ok (.iload_n 2, 1) := by decide +kernel
theorem dX4_mean_60 : decode cX4_mean 60 = .ok (.invokestatic 204, 3) := by decide +kernel
theorem dX4_mean_63 : decode cX4_mean 63 = .ok (.aload_n 0, 1) := by decide +kernel
theorem dX4_mean_64 : decode cX4_mean 64 = .ok (.getfield 16, 3) := by decide +kernel
theorem dX4_mean_67 : decode cX4_mean 67 = .ok (.invokevirtual 103, 3) := by decide +kernel
theorem dX4_mean_70 : decode cX4_mean 70 = .ok (.aload_n 0, 1) := by decide +kernel
theorem dX4_mean_71 : decode cX4_mean 71 = .ok (.getfield 12, 3) := by decide +kernel
theorem dX4_mean_74 : decode cX4_mean 74 = .ok (.invokevirtual 103, 3) := by decide +kernel
theorem dX4_mean_77 : decode cX4_mean 77 = .ok (.isub, 1) := by decide +kernel
theorem dX4_mean_78 : decode cX4_mean 78 = .ok (.invokestatic 216, 3) := by decide +kernel
theorem dX4_mean_81 : decode cX4_mean 81 = .ok (.i2l, 1) := by decide +kernel
theorem dX4_mean_82 : decode cX4_mean 82 = .ok (.lmul, 1) := by decide +kernel
theorem dX4_mean_83 : decode cX4_mean 83 = .ok (.ladd, 1) := by decide +kernel
theorem dX4_mean_84 : decode cX4_mean 84 = .ok (.lstore 4, 2) := by decide +kernel
theorem dX4_mean_86 : decode cX4_mean 86 = .ok (.iinc 6 1, 3) := by decide +kernel
theorem dX4_mean_89 : decode cX4_mean 89 = .ok (.goto (-50), 3) := by decide +kernel
theorem dX4_mean_92 : decode cX4_mean 92 = .ok (.lload 4, 2) := by decide +kernel
theorem dX4_mean_94 : decode cX4_mean 94 = .ok (.bipush 10, 2) := by decide +kernel
theorem dX4_mean_96 : decode cX4_mean 96 = .ok (.iload_n 2, 1) := by decide +kernel
theorem dX4_mean_97 : decode cX4_mean 97 = .ok (.invokestatic 208, 3) := by decide +kernel
theorem dX4_mean_100 : decode cX4_mean 100 = .ok (.iload_n 3, 1) := by decide +kernel
theorem dX4_mean_101 : decode cX4_mean 101 = .ok (.invokestatic 212, 3) := by decide +kernel
theorem dX4_mean_104 : decode cX4_mean 104 = .ok (.lreturn, 1) := by decide +kernel
theorem dX4_runMissing_0 : decode cX4_runMissing 0 = .ok (.aload_n 0, 1) := by decide +kernel
theorem dX4_runMissing_1 : decode cX4_runMissing 1 = .ok (.getfield 16, 3) := by decide +kernel
theorem dX4_runMissing_4 : decode cX4_runMissing 4 = .ok (.aload_n 0, 1) := by decide +kernel
theorem dX4_runMissing_5 : decode cX4_runMissing 5 = .ok (.getfield 12, 3) := by decide +kernel
theorem dX4_runMissing_8 : decode cX4_runMissing 8 = .ok (.invokevirtual 80, 3) := by decide +kernel
theorem dX4_runMissing_11 : decode cX4_runMissing 11 = .ok (.iconst 0, 1) := by decide +kernel
theorem dX4_runMissing_12 : decode cX4_runMissing 12 = .ok (.istore_n 3, 1) := by decide +kernel
theorem dX4_runMissing_13 : decode cX4_runMissing 13 = .ok (.iload_n 3, 1) := by decide +kernel
theorem dX4_runMissing_14 : decode cX4_runMissing 14 = .ok (.iload_n 2, 1) := by decide +kernel
theorem dX4_runMissing_15 : decode cX4_runMissing 15 = .ok (.if_icmp .ge 31, 3) := by decide +kernel
theorem dX4_runMissing_18 : decode cX4_runMissing 18 = .ok (.iload_n 1, 1) := by decide +kernel
theorem dX4_runMissing_19 : decode cX4_runMissing 19 = .ok (.iload_n 3, 1) := by decide +kernel
theorem dX4_runMissing_20 : decode cX4_runMissing 20 = .ok (.ishr, 1) := by decide +kernel
theorem dX4_runMissing_21 : decode cX4_runMissing 21 = .ok (.iconst 1, 1) := by decide +kernel
theorem dX4_runMissing_22 : decode cX4_runMissing 22 = .ok (.iand, 1) := by decide +kernel
theorem dX4_runMissing_23 : decode cX4_runMissing 23 = .ok (.ifCond .ne 10, 3) := by decide +kernel
theorem dX4_runMissing_26 : decode cX4_runMissing 26 = .ok (.aload_n 0, 1) := by decide +kernel
theorem dX4_runMissing_27 : decode cX4_runMissing 27 = .ok (.getfield 16, 3) := by decide +kernel
theorem dX4_runMissing_30 : decode cX4_runMissing 30 = .ok (.invokevirtual 221, 3) := by decide +kernel
theorem dX4_runMissing_33 : decode cX4_runMissing 33 = .ok (.aload_n 0, 1) := by decide +kernel
theorem dX4_runMissing_34 : decode cX4_runMissing 34 = .ok (.getfield 16, 3) := by decide +kernel
theorem dX4_runMissing_37 : decode cX4_runMissing 37 = .ok (.invokevirtual 176, 3) := by decide +kernel
theorem dX4_runMissing_40 : decode cX4_runMissing 40 = .ok (.iinc 3 1, 3) := by decide +kernel
theorem dX4_runMissing_43 : decode cX4_runMissing 43 = .ok (.goto (-30), 3) := by decide +kernel
theorem dX4_runMissing_46 : decode cX4_runMissing 46 = .ok (.return_, 1) := by decide +kernel
theorem dX4_weightOf_0 : decode cX4_weightOf 0 = .ok (.iload_n 0, 1) := by decide +kernel
theorem dX4_weightOf_1 : decode cX4_weightOf 1 = .ok (.invokestatic 148, 3) := by decide +kernel
theorem dX4_weightOf_4 : decode cX4_weightOf 4 = .ok (.istore_n 3, 1) := by decide +kernel
theorem dX4_weightOf_5 : decode cX4_weightOf 5 = .ok (.iload_n 1, 1) := by decide +kernel
theorem dX4_weightOf_6 : decode cX4_weightOf 6 = .ok (.iload_n 3, 1) := by decide +kernel
theorem dX4_weightOf_7 : decode cX4_weightOf 7 = .ok (.invokestatic 208, 3) := by decide +kernel
theorem dX4_weightOf_10 : decode cX4_weightOf 10 = .ok (.bipush 10, 2) := by decide +kernel
theorem dX4_weightOf_12 : decode cX4_weightOf 12 = .ok (.iload_n 1, 1) := by decide +kernel
theorem dX4_weightOf_13 : decode cX4_weightOf 13 = .ok (.isub, 1) := by decide +kernel
theorem dX4_weightOf_14 : decode cX4_weightOf 14 = .ok (.iload_n 2, 1) := by decide +kernel
theorem dX4_weightOf_15 : decode cX4_weightOf 15 = .ok (.iload_n 3, 1) := by decide +kernel
theorem dX4_weightOf_16 : decode cX4_weightOf 16 = .ok (.isub, 1) := by decide +kernel
theorem dX4_weightOf_17 : decode cX4_weightOf 17 = .ok (.invokestatic 208, 3) := by decide +kernel
theorem dX4_weightOf_20 : decode cX4_weightOf 20 = .ok (.lmul, 1) := by decide +kernel
theorem dX4_weightOf_21 : decode cX4_weightOf 21 = .ok (.lreturn, 1) := by decide +kernel
theorem dX4_power_0 : decode cX4_power 0 = .ok (.lconst 1, 1) := by decide +kernel
theorem dX4_power_1 : decode cX4_power 1 = .ok (.lstore_n 2, 1) := by decide +kernel
theorem dX4_power_2 : decode cX4_power 2 = .ok (.iconst 0, 1) := by decide +kernel
theorem dX4_power_3 : decode cX4_power 3 = .ok (.istore 4, 2) := by decide +kernel
theorem dX4_power_5 : decode cX4_power 5 = .ok (.iload 4, 2) := by decide +kernel
theorem dX4_power_7 : decode cX4_power 7 = .ok (.iload_n 1, 1) := by decide +kernel
theorem dX4_power_8 : decode cX4_power 8 = .ok (.if_icmp .ge 14, 3) := by decide +kernel
theorem dX4_power_11 : decode cX4_power 11 = .ok (.lload_n 2, 1) := by decide +kernel
theorem dX4_power_12 : decode cX4_power 12 = .ok (.iload_n 0, 1) := by decide +kernel
theorem dX4_power_13 : decode cX4_power 13 = .ok (.i2l, 1) := by decide +kernel
theorem dX4_power_14 : decode cX4_power 14 = .ok (.lmul, 1) := by decide +kernel
theorem dX4_power_15 : decode cX4_power 15 = .ok (.lstore_n 2, 1) := by decide +kernel
theorem dX4_power_16 : decode cX4_power 16 = .ok (.iinc 4 1, 3) := by decide +kernel
theorem dX4_power_19 : decode cX4_power 19 = .ok (.goto (-14), 3) := by decide +kernel
theorem dX4_power_22 : decode cX4_power 22 = .ok (.lload_n 2, 1) := by decide +kernel
theorem dX4_power_23 : decode cX4_power 23 = .ok (.lreturn, 1) := by decide +kernel
theorem dX4_partOfFraction_0 : decode cX4_partOfFraction 0 = .ok (.lload_n 0, 1) := by decide +kernel
theorem dX4_partOfFraction_1 : decode cX4_partOfFraction 1 = .ok (.lload_n 2, 1) := by decide +kernel
theorem dX4_partOfFraction_2 : decode cX4_partOfFraction 2 = .ok (.invokestatic 224, 3) := by decide +kernel
theorem dX4_partOfFraction_5 : decode cX4_partOfFraction 5 = .ok (.lstore 5, 2) := by decide +kernel
theorem dX4_partOfFraction_7 : decode cX4_partOfFraction 7 = .ok (.lload 5, 2) := by decide +kernel
theorem dX4_partOfFraction_9 : decode cX4_partOfFraction 9 = .ok (.lconst 0, 1) := by decide +kernel
theorem dX4_partOfFraction_10 : decode cX4_partOfFraction 10 = .ok (.lcmp, 1) := by decide +kernel
theorem dX4_partOfFraction_11 : decode cX4_partOfFraction 11 = .ok (.ifCond .gt 14, 3) := by decide +kernel
theorem dX4_partOfFraction_14 : decode cX4_partOfFraction 14 = .ok (.iload 4, 2) := by decide +kernel
theorem dX4_partOfFraction_16 : decode cX4_partOfFraction 16 = .ok (.ifCond .ne 7, 3) := by decide +kernel
theorem dX4_partOfFraction_19 : decode cX4_partOfFraction 19 = .ok (.lload_n 0, 1) := by decide +kernel
theorem dX4_partOfFraction_20 : decode cX4_partOfFraction 20 = .ok (.goto 4, 3) := by decide +kernel
theorem dX4_partOfFraction_23 : decode cX4_partOfFraction 23 = .ok (.lload_n 2, 1) := by decide +kernel
theorem dX4_partOfFraction_24 : decode cX4_partOfFraction 24 = .ok (.lreturn, 1) := by decide +kernel
theorem dX4_partOfFraction_25 : decode cX4_partOfFraction 25 = .ok (.iload 4, 2) := by decide +kernel
theorem dX4_partOfFraction_27 : decode cX4_partOfFraction 27 = .ok (.ifCond .ne 7, 3) := by decide +kernel
theorem dX4_partOfFraction_30 : decode cX4_partOfFraction 30 = .ok (.lload_n 0, 1) := by decide +kernel
theorem dX4_partOfFraction_31 : decode cX4_partOfFraction 31 = .ok (.goto 4, 3) := by decide +kernel
theorem dX4_partOfFraction_34 : decode cX4_partOfFraction 34 = .ok (.lload_n 2, 1) := by decide +kernel
theorem dX4_partOfFraction_35 : decode cX4_partOfFraction 35 = .ok (.lload 5, 2) := by decide +kernel
theorem dX4_partOfFraction_37 : decode cX4_partOfFraction 37 = .ok (.ldiv, 1) := by decide +kernel
theorem dX4_partOfFraction_38 : decode cX4_partOfFraction 38 = .ok (.lreturn, 1) := by decide +kernel
theorem dX4_commonDivisor_0 : decode cX4_commonDivisor 0 = .ok (.lload_n 0, 1) := by decide +kernel
theorem dX4_commonDivisor_1 : decode cX4_commonDivisor 1 = .ok (.lstore 4, 2) := by decide +kernel
theorem dX4_commonDivisor_3 : decode cX4_commonDivisor 3 = .ok (.lload_n 2, 1) := by decide +kernel
theorem dX4_commonDivisor_4 : decode cX4_commonDivisor 4 = .ok (.lstore 6, 2) := by decide +kernel
theorem dX4_commonDivisor_6 : decode cX4_commonDivisor 6 = .ok (.iconst 0, 1) := by decide +kernel
theorem dX4_commonDivisor_7 : decode cX4_commonDivisor 7 = .ok (.istore 8, 2) := by decide +kernel
theorem dX4_commonDivisor_9 : decode cX4_commonDivisor 9 = .ok (.iload 8, 2) := by decide +kernel
theorem dX4_commonDivisor_11 : decode cX4_commonDivisor 11 = .ok (.bipush 100, 2) := by decide +kernel
theorem dX4_commonDivisor_13 : decode cX4_commonDivisor 13 = .ok (.if_icmp .ge 31, 3) := by decide +kernel
theorem dX4_commonDivisor_16 : decode cX4_commonDivisor 16 = .ok (.lload 6, 2) := by decide +kernel
theorem dX4_commonDivisor_18 : decode cX4_commonDivisor 18 = .ok (.lconst 0, 1) := by decide +kernel
theorem dX4_commonDivisor_19 : decode cX4_commonDivisor 19 = .ok (.lcmp, 1) := by decide +kernel
theorem dX4_commonDivisor_20 : decode cX4_commonDivisor 20 = .ok (.ifCond .eq 24, 3) := by decide +kernel
theorem dX4_commonDivisor_23 : decode cX4_commonDivisor 23 = .ok (.lload 4, 2) := by decide +kernel
theorem dX4_commonDivisor_25 : decode cX4_commonDivisor 25 = .ok (.lload 6, 2) := by decide +kernel
theorem dX4_commonDivisor_27 : decode cX4_commonDivisor 27 = .ok (.lrem, 1) := by decide +kernel
theorem dX4_commonDivisor_28 : decode cX4_commonDivisor 28 = .ok (.lstore 9, 2) := by decide +kernel
theorem dX4_commonDivisor_30 : decode cX4_commonDivisor 30 = .ok (.lload 6, 2) := by decide +kernel
theorem dX4_commonDivisor_32 : decode cX4_commonDivisor 32 = .ok (.lstore 4, 2) := by decide +kernel
theorem dX4_commonDivisor_34 : decode cX4_commonDivisor 34 = .ok (.lload 9, 2) := by decide +kernel
theorem dX4_commonDivisor_36 : decode cX4_commonDivisor 36 = .ok (.lstore 6, 2) := by decide +kernel
theorem dX4_commonDivisor_38 : decode cX4_commonDivisor 38 = .ok (.iinc 8 1, 3) := by decide +kernel
theorem dX4_commonDivisor_41 : decode cX4_commonDivisor 41 = .ok (.goto (-32), 3) := by decide +kernel
theorem dX4_commonDivisor_44 : decode cX4_commonDivisor 44 = .ok (.lload 4, 2) := by decide +kernel
theorem dX4_commonDivisor_46 : decode cX4_commonDivisor 46 = .ok (.lreturn, 1) := by decide +kernel
theorem dX4_see_0 : decode cX4_see 0 = .ok (.iload_n 1, 1) := by decide +kernel
theorem dX4_see_1 : decode cX4_see 1 = .ok (.iconst 0, 1) := by decide +kernel
theorem dX4_see_2 : decode cX4_see 2 = .ok (.bipush 40, 2) := by decide +kernel
theorem dX4_see_4 : decode cX4_see 4 = .ok (.invokestatic 59, 3) := by decide +kernel
theorem dX4_see_7 : decode cX4_see 7 = .ok (.ifCond .eq 25, 3) := by decide +kernel
theorem dX4_see_10 : decode cX4_see 10 = .ok (.aload_n 0, 1) := by decide +kernel
theorem dX4_see_11 : decode cX4_see 11 = .ok (.getfield 12, 3) := by decide +kernel
theorem dX4_see_14 : decode cX4_see 14 = .ok (.iload_n 2, 1) := by decide +kernel
theorem dX4_see_15 : decode cX4_see 15 = .ok (.invokevirtual 106, 3) := by decide +kernel
theorem dX4_see_18 : decode cX4_see 18 = .ok (.ifCond .eq 14, 3) := by decide +kernel
theorem dX4_see_21 : decode cX4_see 21 = .ok (.iload_n 3, 1) := by decide +kernel
theorem dX4_see_22 : decode cX4_see 22 = .ok (.iconst 0, 1) := by decide +kernel
theorem dX4_see_23 : decode cX4_see 23 = .ok (.sipush 300, 3) := by decide +kernel
theorem dX4_see_26 : decode cX4_see 26 = .ok (.invokestatic 59, 3) := by decide +kernel
theorem dX4_see_29 : decode cX4_see 29 = .ok (.ifCond .ne 5, 3) := by decide +kernel
theorem dX4_see_32 : decode cX4_see 32 = .ok (.iconst (-1), 1) := by decide +kernel
theorem dX4_see_33 : decode cX4_see 33 = .ok (.ireturn, 1) := by decide +kernel
theorem dX4_see_34 : decode cX4_see 34 = .ok (.aload_n 0, 1) := by decide +kernel
theorem dX4_see_35 : decode cX4_see 35 = .ok (.getfield 39, 3) := by decide +kernel
theorem dX4_see_38 : decode cX4_see 38 = .ok (.iload_n 1, 1) := by decide +kernel
theorem dX4_see_39 : decode cX4_see 39 = .ok (.iload_n 2, 1) := by decide +kernel
theorem dX4_see_40 : decode cX4_see 40 = .ok (.iload_n 3, 1) := by decide +kernel
theorem dX4_see_41 : decode cX4_see 41 = .ok (.invokevirtual 228, 3) := by decide +kernel
theorem dX4_see_44 : decode cX4_see 44 = .ok (.ifCond .eq 13, 3) := by decide +kernel
theorem dX4_see_47 : decode cX4_see 47 = .ok (.aload_n 0, 1) := by decide +kernel
theorem dX4_see_48 : decode cX4_see 48 = .ok (.getfield 39, 3) := by decide +kernel
theorem dX4_see_51 : decode cX4_see 51 = .ok (.getfield 84, 3) := by decide +kernel
theorem dX4_see_54 : decode cX4_see 54 = .ok (.goto 5, 3) := by decide +kernel
theorem dX4_see_57 : decode cX4_see 57 = .ok (.bipush (-3), 2) := by decide +kernel
theorem dX4_see_59 : decode cX4_see 59 = .ok (.ireturn, 1) := by decide +kernel
theorem dX4_forget_0 : decode cX4_forget 0 = .ok (.aload_n 0, 1) := by decide +kernel
theorem dX4_forget_1 : decode cX4_forget 1 = .ok (.getfield 39, 3) := by decide +kernel
theorem dX4_forget_4 : decode cX4_forget 4 = .ok (.getfield 84, 3) := by decide +kernel
theorem dX4_forget_7 : decode cX4_forget 7 = .ok (.istore_n 2, 1) := by decide +kernel
theorem dX4_forget_8 : decode cX4_forget 8 = .ok (.iload_n 1, 1) := by decide +kernel
theorem dX4_forget_9 : decode cX4_forget 9 = .ok (.iconst 0, 1) := by decide +kernel
theorem dX4_forget_10 : decode cX4_forget 10 = .ok (.iload_n 2, 1) := by decide +kernel
theorem dX4_forget_11 : decode cX4_forget 11 = .ok (.invokestatic 59, 3) := by decide +kernel
theorem dX4_forget_14 : decode cX4_forget 14 = .ok (.ifCond .ne 5, 3) := by decide +kernel
theorem dX4_forget_17 : decode cX4_forget 17 = .ok (.iconst (-1), 1) := by decide +kernel
theorem dX4_forget_18 : decode cX4_forget 18 = .ok (.ireturn, 1) := by decide +kernel
theorem dX4_forget_19 : decode cX4_forget 19 = .ok (.aload_n 0, 1) := by decide +kernel
theorem dX4_forget_20 : decode cX4_forget 20 = .ok (.getfield 39, 3) := by decide +kernel
theorem dX4_forget_23 : decode cX4_forget 23 = .ok (.iload_n 1, 1) := by decide +kernel
theorem dX4_forget_24 : decode cX4_forget 24 = .ok (.putfield 84, 3) := by decide +kernel
theorem dX4_forget_27 : decode cX4_forget 27 = .ok (.iload_n 2, 1) := by decide +kernel
theorem dX4_forget_28 : decode cX4_forget 28 = .ok (.ireturn, 1) := by decide +kernel
theorem dX4_kinds_0 : decode cX4_kinds 0 = .ok (.aload_n 0, 1) := by decide +kernel
theorem dX4_kinds_1 : decode cX4_kinds 1 = .ok (.getfield 12, 3) := by decide +kernel
theorem dX4_kinds_4 : decode cX4_kinds 4 = .ok (.iload_n 1, 1) := by decide +kernel
theorem dX4_kinds_5 : decode cX4_kinds 5 = .ok (.invokevirtual 106, 3) := by decide +kernel
theorem dX4_kinds_8 : decode cX4_kinds 8 = .ok (.ifCond .eq 12, 3) := by decide +kernel
theorem dX4_kinds_11 : decode cX4_kinds 11 = .ok (.aload_n 0, 1) := by decide +kernel
theorem dX4_kinds_12 : decode cX4_kinds 12 = .ok (.iconst 0, 1) := by decide +kernel
theorem dX4_kinds_13 : decode cX4_kinds 13 = .ok (.iload_n 1, 1) := by decide +kernel
theorem dX4_kinds_14 : decode cX4_kinds 14 = .ok (.invokevirtual 231, 3) := by decide +kernel
theorem dX4_kinds_17 : decode cX4_kinds 17 = .ok (.goto 4, 3) := by decide +kernel
theorem dX4_kinds_20 : decode cX4_kinds 20 = .ok (.iconst (-1), 1) := by decide +kernel
theorem dX4_kinds_21 : decode cX4_kinds 21 = .ok (.ireturn, 1) := by decide +kernel
theorem dX4_stiffs_0 : decode cX4_stiffs 0 = .ok (.aload_n 0, 1) := by decide +kernel
theorem dX4_stiffs_1 : decode cX4_stiffs 1 = .ok (.getfield 12, 3) := by decide +kernel
theorem dX4_stiffs_4 : decode cX4_stiffs 4 = .ok (.iload_n 1, 1) := by decide +kernel
theorem dX4_stiffs_5 : decode cX4_stiffs 5 = .ok (.invokevirtual 106, 3) := by decide +kernel
theorem dX4_stiffs_8 : decode cX4_stiffs 8 = .ok (.ifCond .eq 12, 3) := by decide +kernel
theorem dX4_stiffs_11 : decode cX4_stiffs 11 = .ok (.aload_n 0, 1) := by decide +kernel
theorem dX4_stiffs_12 : decode cX4_stiffs 12 = .ok (.iconst 2, 1) := by decide +kernel
theorem dX4_stiffs_13 : decode cX4_stiffs 13 = .ok (.iload_n 1, 1) := by decide +kernel
theorem dX4_stiffs_14 : decode cX4_stiffs 14 = .ok (.invokevirtual 231, 3) := by decide +kernel
theorem dX4_stiffs_17 : decode cX4_stiffs 17 = .ok (.goto 4, 3) := by decide +kernel
theorem dX4_stiffs_20 : decode cX4_stiffs 20 = .ok (.iconst (-1), 1) := by decide +kernel
theorem dX4_stiffs_21 : decode cX4_stiffs 21 = .ok (.ireturn, 1) := by decide +kernel
theorem dX4_ask_0 : decode cX4_ask 0 = .ok (.aload_n 0, 1) := by decide +kernel
theorem dX4_ask_1 : decode cX4_ask 1 = .ok (.getfield 12, 3) := by decide +kernel
theorem dX4_ask_4 : decode cX4_ask 4 = .ok (.iload_n 1, 1) := by decide +kernel
theorem dX4_ask_5 : decode cX4_ask 5 = .ok (.invokevirtual 106, 3) := by decide +kernel
theorem dX4_ask_8 : decode cX4_ask 8 = .ok (.ifCond .eq 12, 3) := by decide +kernel
theorem dX4_ask_11 : decode cX4_ask 11 = .ok (.iload_n 2, 1) := by decide +kernel
theorem dX4_ask_12 : decode cX4_ask 12 = .ok (.iconst 0, 1) := by decide +kernel
theorem dX4_ask_13 : decode cX4_ask 13 = .ok (.iconst 1, 1) := by decide +kernel
theorem dX4_ask_14 : decode cX4_ask 14 = .ok (.invokestatic 59, 3) := by decide +kernel
theorem dX4_ask_17 : decode cX4_ask 17 = .ok (.ifCond .ne 5, 3) := by decide +kernel
theorem dX4_ask_20 : decode cX4_ask 20 = .ok (.iconst (-1), 1) := by decide +kernel
theorem dX4_ask_21 : decode cX4_ask 21 = .ok (.ireturn, 1) := by decide +kernel
theorem dX4_ask_22 : decode cX4_ask 22 = .ok (.aload_n 0, 1) := by decide +kernel
theorem dX4_ask_23 : decode cX4_ask 23 = .ok (.iconst 2, 1) := by decide +kernel
theorem dX4_ask_24 : decode cX4_ask 24 = .ok (.iload_n 1, 1) := by decide +kernel
theorem dX4_ask_25 : decode cX4_ask 25 = .ok (.invokevirtual 231, 3) := by decide +kernel
theorem dX4_ask_28 : decode cX4_ask 28 = .ok (.istore_n 3, 1) := by decide +kernel
theorem dX4_ask_29 : decode cX4_ask 29 = .ok (.aload_n 0, 1) := by decide +kernel
theorem dX4_ask_30 : decode cX4_ask 30 = .ok (.iload_n 1, 1) := by decide +kernel
theorem dX4_ask_31 : decode cX4_ask 31 = .ok (.iload_n 3, 1) := by decide +kernel
theorem dX4_ask_32 : decode cX4_ask 32 = .ok (.invokevirtual 234, 3) := by decide +kernel
theorem dX4_ask_35 : decode cX4_ask 35 = .ok (.iload_n 3, 1) := by decide +kernel
theorem dX4_ask_36 : decode cX4_ask 36 = .ok (.invokestatic 148, 3) := by decide +kernel
theorem dX4_ask_39 : decode cX4_ask 39 = .ok (.istore 4, 2) := by decide +kernel
theorem dX4_ask_41 : decode cX4_ask 41 = .ok (.bipush (-4), 2) := by decide +kernel
theorem dX4_ask_43 : decode cX4_ask 43 = .ok (.istore 5, 2) := by decide +kernel
theorem dX4_ask_45 : decode cX4_ask 45 = .ok (.iconst 0, 1) := by decide +kernel
theorem dX4_ask_46 : decode cX4_ask 46 = .ok (.istore 6, 2) := by decide +kernel
theorem dX4_ask_48 : decode cX4_ask 48 = .ok (.iload 6, 2) := by decide +kernel
theorem dX4_ask_50 : decode cX4_ask 50 = .ok (.bipush 40, 2) := by decide +kernel
theorem dX4_ask_52 : decode cX4_ask 52 = .ok (.if_icmp .gt 33, 3) := by decide +kernel
theorem dX4_ask_55 : decode cX4_ask 55 = .ok (.aload_n 0, 1) := by decide +kernel
theorem dX4_ask_56 : decode cX4_ask 56 = .ok (.iload_n 3, 1) := by decide +kernel
theorem dX4_ask_57 : decode cX4_ask 57 = .ok (.iload 6, 2) := by decide +kernel
theorem dX4_ask_59 : decode cX4_ask 59 = .ok (.invokevirtual 237, 3) := by decide +kernel
theorem dX4_ask_62 : decode cX4_ask 62 = .ok (.istore 7, 2) := by decide +kernel
theorem dX4_ask_64 : decode cX4_ask 64 = .ok (.iload 7, 2) := by decide +kernel
theorem dX4_ask_66 : decode cX4_ask 66 = .ok (.iload 4, 2) := by decide +kernel
theorem dX4_ask_68 : decode cX4_ask 68 = .ok (.if_icmp .ge 11, 3) := by decide +kernel
theorem dX4_ask_71 : decode cX4_ask 71 = .ok (.iload 7, 2) := by decide +kernel
theorem dX4_ask_73 : decode cX4_ask 73 = .ok (.istore 4, 2) := by decide +kernel
theorem dX4_ask_75 : decode cX4_ask 75 = .ok (.iload 6, 2) := by decide +kernel
theorem dX4_ask_77 : decode cX4_ask 77 = .ok (.istore 5, 2) := by decide +kernel
theorem dX4_ask_79 : decode cX4_ask 79 = .ok (.iinc 6 1, 3) := by decide +kernel
theorem dX4_ask_82 : decode cX4_ask 82 = .ok (.goto (-34), 3) := by decide +kernel
theorem dX4_ask_85 : decode cX4_ask 85 = .ok (.iload 5, 2) := by decide +kernel
theorem dX4_ask_87 : decode cX4_ask 87 = .ok (.bipush (-4), 2) := by decide +kernel
theorem dX4_ask_89 : decode cX4_ask 89 = .ok (.if_icmp .eq 7, 3) := by decide +kernel
theorem dX4_ask_92 : decode cX4_ask 92 = .ok (.iload_n 2, 1) := by decide +kernel
theorem dX4_ask_93 : decode cX4_ask 93 = .ok (.ifCond .ne 8, 3) := by decide +kernel
theorem dX4_ask_96 : decode cX4_ask 96 = .ok (.iload 5, 2) := by decide +kernel
theorem dX4_ask_98 : decode cX4_ask 98 = .ok (.goto 5, 3) := by decide +kernel
theorem dX4_ask_101 : decode cX4_ask 101 = .ok (.iload 4, 2) := by decide +kernel
theorem dX4_ask_103 : decode cX4_ask 103 = .ok (.ireturn, 1) := by decide +kernel
theorem dX4_asSeenBits_0 : decode cX4_asSeenBits 0 = .ok (.iconst 0, 1) := by decide +kernel
theorem dX4_asSeenBits_1 : decode cX4_asSeenBits 1 = .ok (.istore_n 3, 1) := by decide +kernel
theorem dX4_asSeenBits_2 : decode cX4_asSeenBits 2 = .ok (.getstatic 130, 3) := by decide +kernel
theorem dX4_asSeenBits_5 : decode cX4_asSeenBits 5 = .ok (.iload_n 1, 1) := by decide +kernel
theorem dX4_asSeenBits_6 : decode cX4_asSeenBits 6 = .ok (.iaload, 1) := by decide +kernel
theorem dX4_asSeenBits_7 : decode cX4_asSeenBits 7 = .ok (.istore 4, 2) := by decide +kernel
theorem dX4_asSeenBits_9 : decode cX4_asSeenBits 9 = .ok (.iload 4, 2) := by decide +kernel
theorem dX4_asSeenBits_11 : decode cX4_asSeenBits 11 = .ok (.getstatic 133, 3) := by decide +kernel
theorem dX4_asSeenBits_14 : decode cX4_asSeenBits 14 = .ok (.iload_n 1, 1) := by decide +kernel
theorem dX4_asSeenBits_15 : decode cX4_asSeenBits 15 = .ok (.iaload, 1) := by decide +kernel
theorem dX4_asSeenBits_16 : decode cX4_asSeenBits 16 = .ok (.if_icmp .gt 38, 3) := by decide +kernel
theorem dX4_asSeenBits_19 : decode cX4_asSeenBits 19 = .ok (.aload_n 0, 1) := by decide +kernel
theorem dX4_asSeenBits_20 : decode cX4_asSeenBits 20 = .ok (.iload_n 1, 1) := by decide +kernel
theorem dX4_asSeenBits_21 : decode cX4_asSeenBits 21 = .ok (.iload_n 2, 1) := by decide +kernel
theorem dX4_asSeenBits_22 : decode cX4_asSeenBits 22 = .ok (.iload 4, 2) := by decide +kernel
theorem dX4_asSeenBits_24 : decode cX4_asSeenBits 24 = .ok (.invokevirtual 193, 3) := by decide +kernel
theorem dX4_asSeenBits_27 : decode cX4_asSeenBits 27 = .ok (.aload_n 0, 1) := by decide +kernel
theorem dX4_asSeenBits_28 : decode cX4_asSeenBits 28 = .ok (.getfield 39, 3) := by decide +kernel
theorem dX4_asSeenBits_31 : decode cX4_asSeenBits 31 = .ok (.aload_n 0, 1) := by decide +kernel
theorem dX4_asSeenBits_32 : decode cX4_asSeenBits 32 = .ok (.getfield 16, 3) := by decide +kernel
theorem dX4_asSeenBits_35 : decode cX4_asSeenBits 35 = .ok (.invokevirtual 240, 3) := by decide +kernel
theorem dX4_asSeenBits_38 : decode cX4_asSeenBits 38 = .ok (.ifCond .eq 10, 3) := by decide +kernel
theorem dX4_asSeenBits_41 : decode cX4_asSeenBits 41 = .ok (.iload_n 3, 1) := by decide +kernel
theorem dX4_asSeenBits_42 : decode cX4_asSeenBits 42 = .ok (.iconst 1, 1) := by decide +kernel
theorem dX4_asSeenBits_43 : decode cX4_asSeenBits 43 = .ok (.iload 4, 2) := by decide +kernel
theorem dX4_asSeenBits_45 : decode cX4_asSeenBits 45 = .ok (.ishl, 1) := by decide +kernel
theorem dX4_asSeenBits_46 : decode cX4_asSeenBits 46 = .ok (.ior, 1) := by decide +kernel
theorem dX4_asSeenBits_47 : decode cX4_asSeenBits 47 = .ok (.istore_n 3, 1) := by decide +kernel
theorem dX4_asSeenBits_48 : decode cX4_asSeenBits 48 = .ok (.iinc 4 1, 3) := by decide +kernel
theorem dX4_asSeenBits_51 : decode cX4_asSeenBits 51 = .ok (.goto (-42), 3) := by decide +kernel
theorem dX4_asSeenBits_54 : decode cX4_asSeenBits 54 = .ok (.iload_n 3, 1) := by decide +kernel
theorem dX4_asSeenBits_55 : decode cX4_asSeenBits 55 = .ok (.ireturn, 1) := by decide +kernel
theorem dX4_traceStiffs_0 : decode cX4_traceStiffs 0 = .ok (.iconst 0, 1) := by decide +kernel
theorem dX4_traceStiffs_1 : decode cX4_traceStiffs 1 = .ok (.istore_n 3, 1) := by decide +kernel
theorem dX4_traceStiffs_2 : decode cX4_traceStiffs 2 = .ok (.iload_n 3, 1) := by decide +kernel
theorem dX4_traceStiffs_3 : decode cX4_traceStiffs 3 = .ok (.bipush 10, 2) := by decide +kernel
theorem dX4_traceStiffs_5 : decode cX4_traceStiffs 5 = .ok (.if_icmp .ge 66, 3) := by decide +kernel
theorem dX4_traceStiffs_8 : decode cX4_traceStiffs 8 = .ok (.iload_n 2, 1) := by decide +kernel
theorem dX4_traceStiffs_9 : decode cX4_traceStiffs 9 = .ok (.iload_n 3, 1) := by decide +kernel
theorem dX4_traceStiffs_10 : decode cX4_traceStiffs 10 = .ok (.ishr, 1) := by decide +kernel
theorem dX4_traceStiffs_11 : decode cX4_traceStiffs 11 = .ok (.iconst 1, 1) := by decide +kernel
theorem dX4_traceStiffs_12 : decode cX4_traceStiffs 12 = .ok (.iand, 1) := by decide +kernel
theorem dX4_traceStiffs_13 : decode cX4_traceStiffs 13 = .ok (.iconst 1, 1) := by decide +kernel
theorem dX4_traceStiffs_14 : decode cX4_traceStiffs 14 = .ok (.if_icmp .ne 51, 3) := by decide +kernel
theorem dX4_traceStiffs_17 : decode cX4_traceStiffs 17 = .ok (.aload_n 0, 1) := by decide +kernel
theorem dX4_traceStiffs_18 : decode cX4_traceStiffs 18 = .ok (.iconst 2, 1) := by decide +kernel
theorem dX4_traceStiffs_19 : decode cX4_traceStiffs 19 = .ok (.iload_n 1, 1) := by decide +kernel
theorem dX4_traceStiffs_20 : decode cX4_traceStiffs 20 = .ok (.iload_n 3, 1) := by decide +kernel
theorem dX4_traceStiffs_21 : decode cX4_traceStiffs 21 = .ok (.invokevirtual 193, 3) := by decide +kernel
theorem dX4_traceStiffs_24 : decode cX4_traceStiffs 24 = .ok (.iconst 0, 1) := by decide +kernel
theorem dX4_traceStiffs_25 : decode cX4_traceStiffs 25 = .ok (.istore 4, 2) := by decide +kernel
theorem dX4_traceStiffs_27 : decode cX4_traceStiffs 27 = .ok (.iload 4, 2) := by decide +kernel
theorem dX4_traceStiffs_29 : decode cX4_traceStiffs 29 = .ok (.bipush 40, 2) := by decide +kernel
theorem dX4_traceStiffs_31 : decode cX4_traceStiffs 31 = .ok (.if_icmp .gt 34, 3) := by decide +kernel
theorem dX4_traceStiffs_34 : decode cX4_traceStiffs 34 = .ok (.aload_n 0, 1) := by decide +kernel
theorem dX4_traceStiffs_35 : decode cX4_traceStiffs 35 = .ok (.getfield 52, 3) := by decide +kernel
theorem dX4_traceStiffs_38 : decode cX4_traceStiffs 38 = .ok (.iload_n 3, 1) := by decide +kernel
theorem dX4_traceStiffs_39 : decode cX4_traceStiffs 39 = .ok (.aaload, 1) := by decide +kernel
theorem dX4_traceStiffs_40 : decode cX4_traceStiffs 40 = .ok (.iload 4, 2) := by decide +kernel
theorem dX4_traceStiffs_42 : decode cX4_traceStiffs 42 = .ok (.aload_n 0, 1) := by decide +kernel
theorem dX4_traceStiffs_43 : decode cX4_traceStiffs 43 = .ok (.getfield 16, 3) := by decide +kernel
theorem dX4_traceStiffs_46 : decode cX4_traceStiffs 46 = .ok (.getfield 167, 3) := by decide +kernel
theorem dX4_traceStiffs_49 : decode cX4_traceStiffs 49 = .ok (.iload_n 1, 1) := by decide +kernel
theorem dX4_traceStiffs_50 : decode cX4_traceStiffs 50 = .ok (.iaload, 1) := by decide +kernel
theorem dX4_traceStiffs_51 : decode cX4_traceStiffs 51 = .ok (.iastore, 1) := by decide +kernel
theorem dX4_traceStiffs_52 : decode cX4_traceStiffs 52 = .ok (.aload_n 0, 1) := by decide +kernel
theorem dX4_traceStiffs_53 : decode cX4_traceStiffs 53 = .ok (.getfield 16, 3) := by decide +kernel
theorem dX4_traceStiffs_56 : decode cX4_traceStiffs 56 = .ok (.invokevirtual 173, 3) := by decide +kernel
theorem dX4_traceStiffs_59 : decode cX4_traceStiffs 59 = .ok (.iinc 4 1, 3) := by decide +kernel
theorem dX4_traceStiffs_62 : decode cX4_traceStiffs 62 = .ok (.goto (-35), 3) := by decide +kernel
theorem dX4_traceStiffs_65 : decode cX4_traceStiffs 65 = .ok (.iinc 3 1, 3) := by decide +kernel
theorem dX4_traceStiffs_68 : decode cX4_traceStiffs 68 = .ok (.goto (-66), 3) := by decide +kernel
theorem dX4_traceStiffs_71 : decode cX4_traceStiffs 71 = .ok (.return_, 1) := by decide +kernel
theorem dX4_mostAlike_0 : decode cX4_mostAlike 0 = .ok (.iconst 0, 1) := by decide +kernel
theorem dX4_mostAlike_1 : decode cX4_mostAlike 1 = .ok (.istore_n 3, 1) := by decide +kernel
theorem dX4_mostAlike_2 : decode cX4_mostAlike 2 = .ok (.iconst 0, 1) := by decide +kernel
theorem dX4_mostAlike_3 : decode cX4_mostAlike 3 = .ok (.istore 4, 2) := by decide +kernel
theorem dX4_mostAlike_5 : decode cX4_mostAlike 5 = .ok (.iload 4, 2) := by decide +kernel
theorem dX4_mostAlike_7 : decode cX4_mostAlike 7 = .ok (.bipush 10, 2) := by decide +kernel
theorem dX4_mostAlike_9 : decode cX4_mostAlike 9 = .ok (.if_icmp .ge 74, 3) := by decide +kernel
theorem dX4_mostAlike_12 : decode cX4_mostAlike 12 = .ok (.iconst 0, 1) := by decide +kernel
theorem dX4_mostAlike_13 : decode cX4_mostAlike 13 = .ok (.istore 5, 2) := by decide +kernel
theorem dX4_mostAlike_15 : decode cX4_mostAlike 15 = .ok (.iconst 0, 1) := by decide +kernel
theorem dX4_mostAlike_16 : decode cX4_mostAlike 16 = .ok (.istore 6, 2) := by decide +kernel
theorem dX4_mostAlike_18 : decode cX4_mostAlike 18 = .ok (.iload 6, 2) := by decide +kernel
theorem dX4_mostAlike_20 : decode cX4_mostAlike 20 = .ok (.bipush 10, 2) := by decide +kernel
theorem dX4_mostAlike_22 : decode cX4_mostAlike 22 = .ok (.if_icmp .ge 48, 3) := by decide +kernel
theorem dX4_mostAlike_25 : decode cX4_mostAlike 25 = .ok (.iload_n 1, 1) := by decide +kernel
theorem dX4_mostAlike_26 : decode cX4_mostAlike 26 = .ok (.iload 4, 2) := by decide +kernel
theorem dX4_mostAlike_28 : decode cX4_mostAlike 28 = .ok (.ishr, 1) := by decide +kernel
theorem dX4_mostAlike_29 : decode cX4_mostAlike 29 = .ok (.iload_n 1, 1) := by decide +kernel
theorem dX4_mostAlike_30 : decode cX4_mostAlike 30 = .ok (.iload 6, 2) := by decide +kernel
theorem dX4_mostAlike_32 : decode cX4_mostAlike 32 = .ok (.ishr, 1) := by decide +kernel
theorem dX4_mostAlike_33 : decode cX4_mostAlike 33 = .ok (.iand, 1) := by decide +kernel
theorem dX4_mostAlike_34 : decode cX4_mostAlike 34 = .ok (.iconst 1, 1) := by decide +kernel
theorem dX4_mostAlike_35 : decode cX4_mostAlike 35 = .ok (.iand, 1) := by decide +kernel
theorem dX4_mostAlike_36 : decode cX4_mostAlike 36 = .ok (.iconst 1, 1) := by decide +kernel
theorem dX4_mostAlike_37 : decode cX4_mostAlike 37 = .ok (.if_icmp .ne 27, 3) := by decide +kernel
theorem dX4_mostAlike_40 : decode cX4_mostAlike 40 = .ok (.aload_n 0, 1) := by decide +kernel
theorem dX4_mostAlike_41 : decode cX4_mostAlike 41 = .ok (.getfield 52, 3) := by decide +kernel
theorem dX4_mostAlike_44 : decode cX4_mostAlike 44 = .ok (.iload 4, 2) := by decide +kernel
theorem dX4_mostAlike_46 : decode cX4_mostAlike 46 = .ok (.aaload, 1) := by decide +kernel
theorem dX4_mostAlike_47 : decode cX4_mostAlike 47 = .ok (.iload_n 2, 1) := by decide +kernel
theorem dX4_mostAlike_48 : decode cX4_mostAlike 48 = .ok (.iaload, 1) := by decide +kernel
theorem dX4_mostAlike_49 : decode cX4_mostAlike 49 = .ok (.aload_n 0, 1) := by decide +kernel
theorem dX4_mostAlike_50 : decode cX4_mostAlike 50 = .ok (.getfield 52, 3) := by decide +kernel
theorem dX4_mostAlike_53 : decode cX4_mostAlike 53 = .ok (.iload 6, 2) := by decide +kernel
theorem dX4_mostAlike_55 : decode cX4_mostAlike 55 = .ok (.aaload, 1) := by decide +kernel
theorem dX4_mostAlike_56 : decode cX4_mostAlike 56 = .ok (.iload_n 2, 1) := by decide +kernel
theorem dX4_mostAlike_57 : decode cX4_mostAlike 57 = .ok (.iaload, 1) := by decide +kernel
theorem dX4_mostAlike_58 : decode cX4_mostAlike 58 = .ok (.if_icmp .ne 6, 3) := by decide +kernel
theorem dX4_mostAlike_61 : decode cX4_mostAlike 61 = .ok (.iinc 5 1, 3) := by decide +kernel
theorem dX4_mostAlike_64 : decode cX4_mostAlike 64 = .ok (.iinc 6 1, 3) := by decide +kernel
theorem dX4_mostAlike_67 : decode cX4_mostAlike 67 = .ok (.goto (-49), 3) := by decide +kernel
theorem dX4_mostAlike_70 : decode cX4_mostAlike 70 = .ok (.iload_n 3, 1) := by decide +kernel
theorem dX4_mostAlike_71 : decode cX4_mostAlike 71 = .ok (.iload 5, 2) := by decide +kernel
theorem dX4_mostAlike_73 : decode cX4_mostAlike 73 = .ok (.invokestatic 244, 3) := by decide +kernel
theorem dX4_mostAlike_76 : decode cX4_mostAlike 76 = .ok (.istore_n 3, 1) := by decide +kernel
theorem dX4_mostAlike_77 : decode cX4_mostAlike 77 = .ok (.iinc 4 1, 3) := by decide +kernel
theorem dX4_mostAlike_80 : decode cX4_mostAlike 80 = .ok (.goto (-75), 3) := by decide +kernel
theorem dX4_mostAlike_83 : decode cX4_mostAlike 83 = .ok (.iload_n 3, 1) := by decide +kernel
theorem dX4_mostAlike_84 : decode cX4_mostAlike 84 = .ok (.ireturn, 1) := by decide +kernel
theorem dX4_drift_0 : decode cX4_drift 0 = .ok (.iload_n 2, 1) := by decide +kernel
theorem dX4_drift_1 : decode cX4_drift 1 = .ok (.iconst 1, 1) := by decide +kernel
theorem dX4_drift_2 : decode cX4_drift 2 = .ok (.sipush 200, 3) := by decide +kernel
theorem dX4_drift_5 : decode cX4_drift 5 = .ok (.invokestatic 59, 3) := by decide +kernel
theorem dX4_drift_8 : decode cX4_drift 8 = .ok (.ifCond .eq 12, 3) := by decide +kernel
theorem dX4_drift_11 : decode cX4_drift 11 = .ok (.iload_n 3, 1) := by decide +kernel
theorem dX4_drift_12 : decode cX4_drift 12 = .ok (.iconst 0, 1) := by decide +kernel
theorem dX4_drift_13 : decode cX4_drift 13 = .ok (.iconst 1, 1) := by decide +kernel
theorem dX4_drift_14 : decode cX4_drift 14 = .ok (.invokestatic 59, 3) := by decide +kernel
theorem dX4_drift_17 : decode cX4_drift 17 = .ok (.ifCond .ne 5, 3) := by decide +kernel
theorem dX4_drift_20 : decode cX4_drift 20 = .ok (.iconst (-1), 1) := by decide +kernel
theorem dX4_drift_21 : decode cX4_drift 21 = .ok (.ireturn, 1) := by decide +kernel
theorem dX4_drift_22 : decode cX4_drift 22 = .ok (.aload_n 0, 1) := by decide +kernel
theorem dX4_drift_23 : decode cX4_drift 23 = .ok (.getfield 12, 3) := by decide +kernel
theorem dX4_drift_26 : decode cX4_drift 26 = .ok (.getfield 87, 3) := by decide +kernel
theorem dX4_drift_29 : decode cX4_drift 29 = .ok (.ifCond .ne 6, 3) := by decide +kernel
theorem dX4_drift_32 : decode cX4_drift 32 = .ok (.bipush (-2), 2) := by decide +kernel
theorem dX4_drift_34 : decode cX4_drift 34 = .ok (.ireturn, 1) := by decide +kernel
theorem dX4_drift_35 : decode cX4_drift 35 = .ok (.aload_n 0, 1) := by decide +kernel
theorem dX4_drift_36 : decode cX4_drift 36 = .ok (.getfield 16, 3) := by decide +kernel
theorem dX4_drift_39 : decode cX4_drift 39 = .ok (.aload_n 0, 1) := by decide +kernel
theorem dX4_drift_40 : decode cX4_drift 40 = .ok (.getfield 12, 3) := by decide +kernel
theorem dX4_drift_43 : decode cX4_drift 43 = .ok (.invokevirtual 80, 3) := by decide +kernel
theorem dX4_drift_46 : decode cX4_drift 46 = .ok (.aload_n 0, 1) := by decide +kernel
theorem dX4_drift_47 : decode cX4_drift 47 = .ok (.getfield 12, 3) := by decide +kernel
theorem dX4_drift_50 : decode cX4_drift 50 = .ok (.invokevirtual 103, 3) := by decide +kernel
theorem dX4_drift_53 : decode cX4_drift 53 = .ok (.istore 4, 2) := by decide +kernel
theorem dX4_drift_55 : decode cX4_drift 55 = .ok (.iconst 0, 1) := by decide +kernel
theorem dX4_drift_56 : decode cX4_drift 56 = .ok (.istore 5, 2) := by decide +kernel
theorem dX4_drift_58 : decode cX4_drift 58 = .ok (.iload_n 1, 1) := by decide +kernel
theorem dX4_drift_59 : decode cX4_drift 59 = .ok (.istore 6, 2) := by decide +kernel
theorem dX4_drift_61 : decode cX4_drift 61 = .ok (.iconst 0, 1) := by decide +kernel
theorem dX4_drift_62 : decode cX4_drift 62 = .ok (.istore 7, 2) := by decide +kernel
theorem dX4_drift_64 : decode cX4_drift 64 = .ok (.iload 7, 2) := by decide +kernel
theorem dX4_drift_66 : decode cX4_drift 66 = .ok (.iload_n 2, 1) := by decide +kernel
theorem dX4_drift_67 : decode cX4_drift 67 = .ok (.if_icmp .ge 86, 3) := by decide +kernel
theorem dX4_drift_70 : decode cX4_drift 70 = .ok (.iload 6, 2) := by decide +kernel
theorem dX4_drift_72 : decode cX4_drift 72 = .ok (.ldc 247, 2) := by decide +kernel
theorem dX4_drift_74 : decode cX4_drift 74 = .ok (.imul, 1) := by decide +kernel
theorem dX4_drift_75 : decode cX4_drift 75 = .ok (.sipush 12345, 3) := by decide +kernel
theorem dX4_drift_78 : decode cX4_drift 78 = .ok (.iadd, 1) := by decide +kernel
theorem dX4_drift_79 : decode cX4_drift 79 = .ok (.istore 6, 2) := by decide +kernel
theorem dX4_drift_81 : decode cX4_drift 81 = .ok (.iload 6, 2) := by decide +kernel
theorem dX4_drift_83 : decode cX4_drift 83 = .ok (.bipush 16, 2) := by decide +kernel
theorem dX4_drift_85 : decode cX4_drift 85 = .ok (.iushr, 1) := by decide +kernel
theorem dX4_drift_86 : decode cX4_drift 86 = .ok (.sipush 32767, 3) := by decide +kernel
theorem dX4_drift_89 : decode cX4_drift 89 = .ok (.iand, 1) := by decide +kernel
theorem dX4_drift_90 : decode cX4_drift 90 = .ok (.istore 8, 2) := by decide +kernel
theorem dX4_drift_92 : decode cX4_drift 92 = .ok (.aload_n 0, 1) := by decide +kernel
theorem dX4_drift_93 : decode cX4_drift 93 = .ok (.getfield 16, 3) := by decide +kernel
theorem dX4_drift_96 : decode cX4_drift 96 = .ok (.iload 8, 2) := by decide +kernel
theorem dX4_drift_98 : decode cX4_drift 98 = .ok (.aload_n 0, 1) := by decide +kernel
theorem dX4_drift_99 : decode cX4_drift 99 = .ok (.getfield 12, 3) := by decide +kernel
theorem dX4_drift_102 : decode cX4_drift 102 = .ok (.getfield 87, 3) := by decide +kernel
theorem dX4_drift_105 : decode cX4_drift 105 = .ok (.irem, 1) := by decide +kernel
theorem dX4_drift_106 : decode cX4_drift 106 = .ok (.iload 8, 2) := by decide +kernel
theorem dX4_drift_108 : decode cX4_drift 108 = .ok (.bipush 8, 2) := by decide +kernel
theorem dX4_drift_110 : decode cX4_drift 110 = .ok (.idiv, 1) := by decide +kernel
theorem dX4_drift_111 : decode cX4_drift 111 = .ok (.bipush 19, 2) := by decide +kernel
theorem dX4_drift_113 : decode cX4_drift 113 = .ok (.irem, 1) := by decide +kernel
theorem dX4_drift_114 : decode cX4_drift 114 = .ok (.bipush 9, 2) := by decide +kernel
theorem dX4_drift_116 : decode cX4_drift 116 = .ok (.isub, 1) := by decide +kernel
theorem dX4_drift_117 : decode cX4_drift 117 = .ok (.invokevirtual 140, 3) := by decide +kernel
theorem dX4_drift_120 : decode cX4_drift 120 = .ok (.aload_n 0, 1) := by decide +kernel
theorem dX4_drift_121 : decode cX4_drift 121 = .ok (.getfield 16, 3) := by decide +kernel
theorem dX4_drift_124 : decode cX4_drift 124 = .ok (.invokevirtual 176, 3) := by decide +kernel
theorem dX4_drift_127 : decode cX4_drift 127 = .ok (.iload 5, 2) := by decide +kernel
theorem dX4_drift_129 : decode cX4_drift 129 = .ok (.aload_n 0, 1) := by decide +kernel
theorem dX4_drift_130 : decode cX4_drift 130 = .ok (.getfield 16, 3) := by decide +kernel
theorem dX4_drift_133 : decode cX4_drift 133 = .ok (.invokevirtual 103, 3) := by decide +kernel
theorem dX4_drift_136 : decode cX4_drift 136 = .ok (.iload 4, 2) := by decide +kernel
theorem dX4_drift_138 : decode cX4_drift 138 = .ok (.isub, 1) := by decide +kernel
theorem dX4_drift_139 : decode cX4_drift 139 = .ok (.invokestatic 216, 3) := by decide +kernel
theorem dX4_drift_142 : decode cX4_drift 142 = .ok (.invokestatic 244, 3) := by decide +kernel
theorem dX4_drift_145 : decode cX4_drift 145 = .ok (.istore 5, 2) := by decide +kernel
theorem dX4_drift_147 : decode cX4_drift 147 = .ok (.iinc 7 1, 3) := by decide +kernel
theorem dX4_drift_150 : decode cX4_drift 150 = .ok (.goto (-86), 3) := by decide +kernel
theorem dX4_drift_153 : decode cX4_drift 153 = .ok (.iload_n 3, 1) := by decide +kernel
theorem dX4_drift_154 : decode cX4_drift 154 = .ok (.ifCond .ne 8, 3) := by decide +kernel
theorem dX4_drift_157 : decode cX4_drift 157 = .ok (.iload 5, 2) := by decide +kernel
theorem dX4_drift_159 : decode cX4_drift 159 = .ok (.goto 10, 3) := by decide +kernel
theorem dX4_drift_162 : decode cX4_drift 162 = .ok (.aload_n 0, 1) := by decide +kernel
theorem dX4_drift_163 : decode cX4_drift 163 = .ok (.getfield 16, 3) := by decide +kernel
theorem dX4_drift_166 : decode cX4_drift 166 = .ok (.invokevirtual 103, 3) := by decide +kernel
theorem dX4_drift_169 : decode cX4_drift 169 = .ok (.ireturn, 1) := by decide +kernel
theorem dX4_keep_0 : decode cX4_keep 0 = .ok (.iload_n 1, 1) := by decide +kernel
theorem dX4_keep_1 : decode cX4_keep 1 = .ok (.iconst 0, 1) := by decide +kernel
theorem dX4_keep_2 : decode cX4_keep 2 = .ok (.iconst 1, 1) := by decide +kernel
theorem dX4_keep_3 : decode cX4_keep 3 = .ok (.invokestatic 59, 3) := by decide +kernel
theorem dX4_keep_6 : decode cX4_keep 6 = .ok (.ifCond .ne 5, 3) := by decide +kernel
theorem dX4_keep_9 : decode cX4_keep 9 = .ok (.iconst (-1), 1) := by decide +kernel
theorem dX4_keep_10 : decode cX4_keep 10 = .ok (.ireturn, 1) := by decide +kernel
theorem dX4_keep_11 : decode cX4_keep 11 = .ok (.aload_n 0, 1) := by decide +kernel
theorem dX4_keep_12 : decode cX4_keep 12 = .ok (.getfield 25, 3) := by decide +kernel
theorem dX4_keep_15 : decode cX4_keep 15 = .ok (.iload_n 1, 1) := by decide +kernel
theorem dX4_keep_16 : decode cX4_keep 16 = .ok (.baload, 1) := by decide +kernel
theorem dX4_keep_17 : decode cX4_keep 17 = .ok (.ifCond .eq 7, 3) := by decide +kernel
theorem dX4_keep_20 : decode cX4_keep 20 = .ok (.iconst 1, 1) := by decide +kernel
theorem dX4_keep_21 : decode cX4_keep 21 = .ok (.goto 4, 3) := by decide +kernel
theorem dX4_keep_24 : decode cX4_keep 24 = .ok (.iconst 0, 1) := by decide +kernel
theorem dX4_keep_25 : decode cX4_keep 25 = .ok (.istore_n 2, 1) := by decide +kernel
theorem dX4_keep_26 : decode cX4_keep 26 = .ok (.aload_n 0, 1) := by decide +kernel
theorem dX4_keep_27 : decode cX4_keep 27 = .ok (.iload_n 1, 1) := by decide +kernel
theorem dX4_keep_28 : decode cX4_keep 28 = .ok (.invokevirtual 248, 3) := by decide +kernel
theorem dX4_keep_31 : decode cX4_keep 31 = .ok (.aload_n 0, 1) := by decide +kernel
theorem dX4_keep_32 : decode cX4_keep 32 = .ok (.getfield 12, 3) := by decide +kernel
theorem dX4_keep_35 : decode cX4_keep 35 = .ok (.invokevirtual 80, 3) := by decide +kernel
theorem dX4_keep_38 : decode cX4_keep 38 = .ok (.aload_n 0, 1) := by decide +kernel
theorem dX4_keep_39 : decode cX4_keep 39 = .ok (.getfield 25, 3) := by decide +kernel
theorem dX4_keep_42 : decode cX4_keep 42 = .ok (.iload_n 1, 1) := by decide +kernel
theorem dX4_keep_43 : decode cX4_keep 43 = .ok (.iconst 1, 1) := by decide +kernel
theorem dX4_keep_44 : decode cX4_keep 44 = .ok (.bastore, 1) := by decide +kernel
theorem dX4_keep_45 : decode cX4_keep 45 = .ok (.iload_n 2, 1) := by decide +kernel
theorem dX4_keep_46 : decode cX4_keep 46 = .ok (.ireturn, 1) := by decide +kernel
theorem dX4_back_0 : decode cX4_back 0 = .ok (.iload_n 1, 1) := by decide +kernel
theorem dX4_back_1 : decode cX4_back 1 = .ok (.iconst 0, 1) := by decide +kernel
theorem dX4_back_2 : decode cX4_back 2 = .ok (.iconst 1, 1) := by decide +kernel
theorem dX4_back_3 : decode cX4_back 3 = .ok (.invokestatic 59, 3) := by decide +kernel
theorem dX4_back_6 : decode cX4_back 6 = .ok (.ifCond .ne 5, 3) := by decide +kernel
theorem dX4_back_9 : decode cX4_back 9 = .ok (.iconst (-1), 1) := by decide +kernel
theorem dX4_back_10 : decode cX4_back 10 = .ok (.ireturn, 1) := by decide +kernel
theorem dX4_back_11 : decode cX4_back 11 = .ok (.aload_n 0, 1) := by decide +kernel
theorem dX4_back_12 : decode cX4_back 12 = .ok (.getfield 25, 3) := by decide +kernel
theorem dX4_back_15 : decode cX4_back 15 = .ok (.iload_n 1, 1) := by decide +kernel
theorem dX4_back_16 : decode cX4_back 16 = .ok (.baload, 1) := by decide +kernel
theorem dX4_back_17 : decode cX4_back 17 = .ok (.ifCond .ne 6, 3) := by decide +kernel
theorem dX4_back_20 : decode cX4_back 20 = .ok (.bipush (-2), 2) := by decide +kernel
theorem dX4_back_22 : decode cX4_back 22 = .ok (.ireturn, 1) := by decide +kernel
theorem dX4_back_23 : decode cX4_back 23 = .ok (.aload_n 0, 1) := by decide +kernel
theorem dX4_back_24 : decode cX4_back 24 = .ok (.getfield 12, 3) := by decide +kernel
theorem dX4_back_27 : decode cX4_back 27 = .ok (.aload_n 0, 1) := by decide +kernel
theorem dX4_back_28 : decode cX4_back 28 = .ok (.iload_n 1, 1) := by decide +kernel
theorem dX4_back_29 : decode cX4_back 29 = .ok (.invokevirtual 248, 3) := by decide +kernel
theorem dX4_back_32 : decode cX4_back 32 = .ok (.invokevirtual 80, 3) := by decide +kernel
theorem dX4_back_35 : decode cX4_back 35 = .ok (.aload_n 0, 1) := by decide +kernel
theorem dX4_back_36 : decode cX4_back 36 = .ok (.getfield 12, 3) := by decide +kernel
theorem dX4_back_39 : decode cX4_back 39 = .ok (.getfield 93, 3) := by decide +kernel
theorem dX4_back_42 : decode cX4_back 42 = .ok (.ireturn, 1) := by decide +kernel
theorem dX4_imageOf_0 : decode cX4_imageOf 0 = .ok (.iload_n 1, 1) := by decide +kernel
theorem dX4_imageOf_1 : decode cX4_imageOf 1 = .ok (.ifCond .ne 10, 3) := by decide +kernel
theorem dX4_imageOf_4 : decode cX4_imageOf 4 = .ok (.aload_n 0, 1) := by decide +kernel
theorem dX4_imageOf_5 : decode cX4_imageOf 5 = .ok (.getfield 19, 3) := by decide +kernel
theorem dX4_imageOf_8 : decode cX4_imageOf 8 = .ok (.goto 7, 3) := by decide +kernel
theorem dX4_imageOf_11 : decode cX4_imageOf 11 = .ok (.aload_n 0, 1) := by decide +kernel
theorem dX4_imageOf_12 : decode cX4_imageOf 12 = .ok (.getfield 22, 3) := by decide +kernel
theorem dX4_imageOf_15 : decode cX4_imageOf 15 = .ok (.areturn, 1) := by decide +kernel
theorem dX4_sheet_0 : decode cX4_sheet 0 = .ok (.iload_n 1, 1) := by decide +kernel
theorem dX4_sheet_1 : decode cX4_sheet 1 = .ok (.iconst 0, 1) := by decide +kernel
theorem dX4_sheet_2 : decode cX4_sheet 2 = .ok (.iconst 3, 1) := by decide +kernel
theorem dX4_sheet_3 : decode cX4_sheet 3 = .ok (.invokestatic 59, 3) := by decide +kernel
theorem dX4_sheet_6 : decode cX4_sheet 6 = .ok (.ifCond .eq 18, 3) := by decide +kernel
theorem dX4_sheet_9 : decode cX4_sheet 9 = .ok (.iload_n 2, 1) := by decide +kernel
theorem dX4_sheet_10 : decode cX4_sheet 10 = .ok (.iconst 0, 1) := by decide +kernel
theorem dX4_sheet_11 : decode cX4_sheet 11 = .ok (.iconst 2, 1) := by decide +kernel
theorem dX4_sheet_12 : decode cX4_sheet 12 = .ok (.invokestatic 59, 3) := by decide +kernel
theorem dX4_sheet_15 : decode cX4_sheet 15 = .ok (.ifCond .eq 9, 3) := by decide +kernel
theorem dX4_sheet_18 : decode cX4_sheet 18 = .ok (.iload_n 3, 1) := by decide +kernel
theorem dX4_sheet_19 : decode cX4_sheet 19 = .ok (.bipush 40, 2) := by decide +kernel
theorem dX4_sheet_21 : decode cX4_sheet 21 = .ok (.if_icmp .le 5, 3) := by decide +kernel
theorem dX4_sheet_24 : decode cX4_sheet 24 = .ok (.iconst (-1), 1) := by decide +kernel
theorem dX4_sheet_25 : decode cX4_sheet 25 = .ok (.ireturn, 1) := by decide +kernel
theorem dX4_sheet_26 : decode cX4_sheet 26 = .ok (.iload_n 3, 1) := by decide +kernel
theorem dX4_sheet_27 : decode cX4_sheet 27 = .ok (.ifCond .ge 6, 3) := by decide +kernel
theorem dX4_sheet_30 : decode cX4_sheet 30 = .ok (.bipush (-14), 2) := by decide +kernel
theorem dX4_sheet_32 : decode cX4_sheet 32 = .ok (.ireturn, 1) := by decide +kernel
theorem dX4_sheet_33 : decode cX4_sheet 33 = .ok (.aload_n 0, 1) := by decide +kernel
theorem dX4_sheet_34 : decode cX4_sheet 34 = .ok (.getfield 46, 3) := by decide +kernel
theorem dX4_sheet_37 : decode cX4_sheet 37 = .ok (.iload_n 1, 1) := by decide +kernel
theorem dX4_sheet_38 : decode cX4_sheet 38 = .ok (.iload_n 2, 1) := by decide +kernel
theorem dX4_sheet_39 : decode cX4_sheet 39 = .ok (.iload_n 3, 1) := by decide +kernel
theorem dX4_sheet_40 : decode cX4_sheet 40 = .ok (.invokevirtual 252, 3) := by decide +kernel
theorem dX4_sheet_43 : decode cX4_sheet 43 = .ok (.iconst 1, 1) := by decide +kernel
theorem dX4_sheet_44 : decode cX4_sheet 44 = .ok (.ireturn, 1) := by decide +kernel
theorem dX4_lay_0 : decode cX4_lay 0 = .ok (.iload_n 1, 1) := by decide +kernel
theorem dX4_lay_1 : decode cX4_lay 1 = .ok (.iconst 0, 1) := by decide +kernel
theorem dX4_lay_2 : decode cX4_lay 2 = .ok (.iconst 3, 1) := by decide +kernel
theorem dX4_lay_3 : decode cX4_lay 3 = .ok (.invokestatic 59, 3) := by decide +kernel
theorem dX4_lay_6 : decode cX4_lay 6 = .ok (.ifCond .ne 5, 3) := by decide +kernel
theorem dX4_lay_9 : decode cX4_lay 9 = .ok (.iconst (-1), 1) := by decide +kernel
theorem dX4_lay_10 : decode cX4_lay 10 = .ok (.ireturn, 1) := by decide +kernel
theorem dX4_lay_11 : decode cX4_lay 11 = .ok (.aload_n 0, 1) := by decide +kernel
theorem dX4_lay_12 : decode cX4_lay 12 = .ok (.getfield 46, 3) := by decide +kernel
theorem dX4_lay_15 : decode cX4_lay 15 = .ok (.iload_n 1, 1) := by decide +kernel
theorem dX4_lay_16 : decode cX4_lay 16 = .ok (.iload_n 2, 1) := by decide +kernel
theorem dX4_lay_17 : decode cX4_lay 17 = .ok (.invokevirtual 255, 3) := by decide +kernel
theorem dX4_lay_20 : decode cX4_lay 20 = .ok (.istore 4, 2) := by decide +kernel
theorem dX4_lay_22 : decode cX4_lay 22 = .ok (.iload 4, 2) := by decide +kernel
theorem dX4_lay_24 : decode cX4_lay 24 = .ok (.ifCond .eq 9, 3) := by decide +kernel
theorem dX4_lay_27 : decode cX4_lay 27 = .ok (.bipush (-10), 2) := by decide +kernel
theorem dX4_lay_29 : decode cX4_lay 29 = .ok (.iload 4, 2) := by decide +kernel
theorem dX4_lay_31 : decode cX4_lay 31 = .ok (.isub, 1) := by decide +kernel
theorem dX4_lay_32 : decode cX4_lay 32 = .ok (.ireturn, 1) := by decide +kernel
theorem dX4_lay_33 : decode cX4_lay 33 = .ok (.aload_n 0, 1) := by decide +kernel
theorem dX4_lay_34 : decode cX4_lay 34 = .ok (.getfield 46, 3) := by decide +kernel
theorem dX4_lay_37 : decode cX4_lay 37 = .ok (.iload_n 1, 1) := by decide +kernel
theorem dX4_lay_38 : decode cX4_lay 38 = .ok (.iload_n 2, 1) := by decide +kernel
theorem dX4_lay_39 : decode cX4_lay 39 = .ok (.iload_n 3, 1) := by decide +kernel
theorem dX4_lay_40 : decode cX4_lay 40 = .ok (.invokevirtual 258, 3) := by decide +kernel
theorem dX4_lay_43 : decode cX4_lay 43 = .ok (.iconst 1, 1) := by decide +kernel
theorem dX4_lay_44 : decode cX4_lay 44 = .ok (.ireturn, 1) := by decide +kernel
theorem dX4_read_0 : decode cX4_read 0 = .ok (.iload_n 1, 1) := by decide +kernel
theorem dX4_read_1 : decode cX4_read 1 = .ok (.iconst 0, 1) := by decide +kernel
theorem dX4_read_2 : decode cX4_read 2 = .ok (.iconst 3, 1) := by decide +kernel
theorem dX4_read_3 : decode cX4_read 3 = .ok (.invokestatic 59, 3) := by decide +kernel
theorem dX4_read_6 : decode cX4_read 6 = .ok (.ifCond .eq 23, 3) := by decide +kernel
theorem dX4_read_9 : decode cX4_read 9 = .ok (.iload_n 2, 1) := by decide +kernel
theorem dX4_read_10 : decode cX4_read 10 = .ok (.iconst 0, 1) := by decide +kernel
theorem dX4_read_11 : decode cX4_read 11 = .ok (.iconst 2, 1) := by decide +kernel
theorem dX4_read_12 : decode cX4_read 12 = .ok (.invokestatic 59, 3) := by decide +kernel
theorem dX4_read_15 : decode cX4_read 15 = .ok (.ifCond .eq 14, 3) := by decide +kernel
theorem dX4_read_18 : decode cX4_read 18 = .ok (.iload 4, 2) := by decide +kernel
theorem dX4_read_20 : decode cX4_read 20 = .ok (.iconst 0, 1) := by decide +kernel
theorem dX4_read_21 : decode cX4_read 21 = .ok (.bipush 20, 2) := by decide +kernel
theorem dX4_read_23 : decode cX4_read 23 = .ok (.invokestatic 59, 3) := by decide +kernel
theorem dX4_read_26 : decode cX4_read 26 = .ok (.ifCond .ne 5, 3) := by decide +kernel
theorem dX4_read_29 : decode cX4_read 29 = .ok (.iconst (-1), 1) := by decide +kernel
theorem dX4_read_30 : decode cX4_read 30 = .ok (.ireturn, 1) := by decide +kernel
theorem dX4_read_31 : decode cX4_read 31 = .ok (.aload_n 0, 1) := by decide +kernel
theorem dX4_read_32 : decode cX4_read 32 = .ok (.getfield 12, 3) := by decide +kernel
theorem dX4_read_35 : decode cX4_read 35 = .ok (.getfield 90, 3) := by decide +kernel
theorem dX4_read_38 : decode cX4_read 38 = .ok (.istore 5, 2) := by decide +kernel
theorem dX4_read_40 : decode cX4_read 40 = .ok (.iconst 0, 1) := by decide +kernel
theorem dX4_read_41 : decode cX4_read 41 = .ok (.istore 6, 2) := by decide +kernel
theorem dX4_read_43 : decode cX4_read 43 = .ok (.iconst 0, 1) := by decide +kernel
theorem dX4_read_44 : decode cX4_read 44 = .ok (.istore 7, 2) := by decide +kernel
theorem dX4_read_46 : decode cX4_read 46 = .ok (.iconst 0, 1) := by decide +kernel
theorem dX4_read_47 : decode cX4_read 47 = .ok (.istore 8, 2) := by decide +kernel
theorem dX4_read_49 : decode cX4_read 49 = .ok (.iload 8, 2) := by decide +kernel
theorem dX4_read_51 : decode cX4_read 51 = .ok (.iload 4, 2) := by decide +kernel
theorem dX4_read_53 : decode cX4_read 53 = .ok (.if_icmp .ge 92, 3) := by decide +kernel
theorem dX4_read_56 : decode cX4_read 56 = .ok (.iload 6, 2) := by decide +kernel
theorem dX4_read_58 : decode cX4_read 58 = .ok (.ifCond .ne 87, 3) := by decide +kernel
theorem dX4_read_61 : decode cX4_read 61 = .ok (.aload_n 0, 1) := by decide +kernel
theorem dX4_read_62 : decode cX4_read 62 = .ok (.getfield 46, 3) := by decide +kernel
theorem dX4_read_65 : decode cX4_read 65 = .ok (.iload_n 1, 1) := by decide +kernel
theorem dX4_read_66 : decode cX4_read 66 = .ok (.iload_n 2, 1) := by decide +kernel
theorem dX4_read_67 : decode cX4_read 67 = .ok (.iload_n 3, 1) := by decide +kernel
theorem dX4_read_68 : decode cX4_read 68 = .ok (.iload 8, 2) := by decide +kernel
theorem dX4_read_70 : decode cX4_read 70 = .ok (.invokevirtual 260, 3) := by decide +kernel
theorem dX4_read_73 : decode cX4_read 73 = .ok (.istore 6, 2) := by decide +kernel
theorem dX4_read_75 : decode cX4_read 75 = .ok (.iload 6, 2) := by decide +kernel
theorem dX4_read_77 : decode cX4_read 77 = .ok (.ifCond .ne 62, 3) := by decide +kernel
theorem dX4_read_80 : decode cX4_read 80 = .ok (.iload_n 3, 1) := by decide +kernel
theorem dX4_read_81 : decode cX4_read 81 = .ok (.iconst 2, 1) := by decide +kernel
theorem dX4_read_82 : decode cX4_read 82 = .ok (.iload 8, 2) := by decide +kernel
theorem dX4_read_84 : decode cX4_read 84 = .ok (.imul, 1) := by decide +kernel
theorem dX4_read_85 : decode cX4_read 85 = .ok (.iadd, 1) := by decide +kernel
theorem dX4_read_86 : decode cX4_read 86 = .ok (.istore 9, 2) := by decide +kernel
theorem dX4_read_88 : decode cX4_read 88 = .ok (.aload_n 0, 1) := by decide +kernel
theorem dX4_read_89 : decode cX4_read 89 = .ok (.aload_n 0, 1) := by decide +kernel
theorem dX4_read_90 : decode cX4_read 90 = .ok (.getfield 46, 3) := by decide +kernel
theorem dX4_read_93 : decode cX4_read 93 = .ok (.getfield 263, 3) := by decide +kernel
theorem dX4_read_96 : decode cX4_read 96 = .ok (.iload_n 1, 1) := by decide +kernel
theorem dX4_read_97 : decode cX4_read 97 = .ok (.aaload, 1) := by decide +kernel
theorem dX4_read_98 : decode cX4_read 98 = .ok (.iload 9, 2) := by decide +kernel
theorem dX4_read_100 : decode cX4_read 100 = .ok (.iaload, 1) := by decide +kernel
theorem dX4_read_101 : decode cX4_read 101 = .ok (.aload_n 0, 1) := by decide +kernel
theorem dX4_read_102 : decode cX4_read 102 = .ok (.getfield 46, 3) := by decide +kernel
theorem dX4_read_105 : decode cX4_read 105 = .ok (.getfield 263, 3) := by decide +kernel
theorem dX4_read_108 : decode cX4_read 108 = .ok (.iload_n 1, 1) := by decide +kernel
theorem dX4_read_109 : decode cX4_read 109 = .ok (.aaload, 1) := by decide +kernel
theorem dX4_read_110 : decode cX4_read 110 = .ok (.iload 9, 2) := by decide +kernel
theorem dX4_read_112 : decode cX4_read 112 = .ok (.iconst 1, 1) := by decide +kernel
theorem dX4_read_113 : decode cX4_read 113 = .ok (.iadd, 1) := by decide +kernel
theorem dX4_read_114 : decode cX4_read 114 = .ok (.iaload, 1) := by decide +kernel
theorem dX4_read_115 : decode cX4_read 115 = .ok (.invokevirtual 266, 3) := by decide +kernel
theorem dX4_read_118 : decode cX4_read 118 = .ok (.ifCond .ge 18, 3) := by decide +kernel
theorem dX4_read_121 : decode cX4_read 121 = .ok (.aload_n 0, 1) := by decide +kernel
theorem dX4_read_122 : decode cX4_read 122 = .ok (.getfield 12, 3) := by decide +kernel
theorem dX4_read_125 : decode cX4_read 125 = .ok (.iload 5, 2) := by decide +kernel
theorem dX4_read_127 : decode cX4_read 127 = .ok (.putfield 90, 3) := by decide +kernel
theorem dX4_read_130 : decode cX4_read 130 = .ok (.bipush (-20), 2) := by decide +kernel
theorem dX4_read_132 : decode cX4_read 132 = .ok (.iload 8, 2) := by decide +kernel
theorem dX4_read_134 : decode cX4_read 134 = .ok (.isub, 1) := by decide +kernel
theorem dX4_read_135 : decode cX4_read 135 = .ok (.ireturn, 1) := by decide +kernel
theorem dX4_read_136 : decode cX4_read 136 = .ok (.iinc 7 1, 3) := by decide +kernel
theorem dX4_read_139 : decode cX4_read 139 = .ok (.iinc 8 1, 3) := by decide +kernel
theorem dX4_read_142 : decode cX4_read 142 = .ok (.goto (-93), 3) := by decide +kernel
theorem dX4_read_145 : decode cX4_read 145 = .ok (.aload_n 0, 1) := by decide +kernel
theorem dX4_read_146 : decode cX4_read 146 = .ok (.iload 6, 2) := by decide +kernel
theorem dX4_read_148 : decode cX4_read 148 = .ok (.putfield 55, 3) := by decide +kernel
theorem dX4_read_151 : decode cX4_read 151 = .ok (.iload 7, 2) := by decide +kernel
theorem dX4_read_153 : decode cX4_read 153 = .ok (.ireturn, 1) := by decide +kernel
theorem dX4_torn_0 : decode cX4_torn 0 = .ok (.aload_n 0, 1) := by decide +kernel
theorem dX4_torn_1 : decode cX4_torn 1 = .ok (.getfield 55, 3) := by decide +kernel
theorem dX4_torn_4 : decode cX4_torn 4 = .ok (.ireturn, 1) := by decide +kernel
theorem dX4_count_0 : decode cX4_count 0 = .ok (.iload_n 1, 1) := by decide +kernel
theorem dX4_count_1 : decode cX4_count 1 = .ok (.tableswitch 129 0 5 #[39, 47, 77, 85, 111, 120], 39) := by decide +kernel
theorem dX4_count_40 : decode cX4_count 40 = .ok (.aload_n 0, 1) := by decide +kernel
theorem dX4_count_41 : decode cX4_count 41 = .ok (.getfield 39, 3) := by decide +kernel
theorem dX4_count_44 : decode cX4_count 44 = .ok (.getfield 84, 3) := by decide +kernel
theorem dX4_count_47 : decode cX4_count 47 = .ok (.ireturn, 1) := by decide +kernel
theorem dX4_count_48 : decode cX4_count 48 = .ok (.aload_n 0, 1) := by decide +kernel
theorem dX4_count_49 : decode cX4_count 49 = .ok (.getfield 25, 3) := by decide +kernel
theorem dX4_count_52 : decode cX4_count 52 = .ok (.iconst 0, 1) := by decide +kernel
theorem dX4_count_53 : decode cX4_count 53 = .ok (.baload, 1) := by decide +kernel
theorem dX4_count_54 : decode cX4_count 54 = .ok (.ifCond .eq 7, 3) := by decide +kernel
theorem dX4_count_57 : decode cX4_count 57 = .ok (.iconst 1, 1) := by decide +kernel
theorem dX4_count_58 : decode cX4_count 58 = .ok (.goto 4, 3) := by decide +kernel
theorem dX4_count_61 : decode cX4_count 61 = .ok (.iconst 0, 1) := by decide +kernel
theorem dX4_count_62 : decode cX4_count 62 = .ok (.aload_n 0, 1) := by decide +kernel
theorem dX4_count_63 : decode cX4_count 63 = .ok (.getfield 25, 3) := by decide +kernel
theorem dX4_count_66 : decode cX4_count 66 = .ok (.iconst 1, 1) := by decide +kernel
theorem dX4_count_67 : decode cX4_count 67 = .ok (.baload, 1) := by decide +kernel
theorem dX4_count_68 : decode cX4_count 68 = .ok (.ifCond .eq 7, 3) := by decide +kernel
theorem dX4_count_71 : decode cX4_count 71 = .ok (.iconst 1, 1) := by decide +kernel
theorem dX4_count_72 : decode cX4_count 72 = .ok (.goto 4, 3) := by decide +kernel
theorem dX4_count_75 : decode cX4_count 75 = .ok (.iconst 0, 1) := by decide +kernel
theorem dX4_count_76 : decode cX4_count 76 = .ok (.iadd, 1) := by decide +kernel
theorem dX4_count_77 : decode cX4_count 77 = .ok (.ireturn, 1) := by decide +kernel
theorem dX4_count_78 : decode cX4_count 78 = .ok (.aload_n 0, 1) := by decide +kernel
theorem dX4_count_79 : decode cX4_count 79 = .ok (.getfield 32, 3) := by decide +kernel
theorem dX4_count_82 : decode cX4_count 82 = .ok (.getfield 67, 3) := by decide +kernel
theorem dX4_count_85 : decode cX4_count 85 = .ok (.ireturn, 1) := by decide +kernel
theorem dX4_count_86 : decode cX4_count 86 = .ok (.aload_n 0, 1) := by decide +kernel
theorem dX4_count_87 : decode cX4_count 87 = .ok (.getfield 46, 3) := by decide +kernel
theorem dX4_count_90 : decode cX4_count 90 = .ok (.iconst 0, 1) := by decide +kernel
theorem dX4_count_91 : decode cX4_count 91 = .ok (.invokevirtual 269, 3) := by decide +kernel
theorem dX4_count_94 : decode cX4_count 94 = .ok (.ifCond .eq 8, 3) := by decide +kernel
theorem dX4_count_97 : decode cX4_count 97 = .ok (.bipush (-4), 2) := by decide +kernel
theorem dX4_count_99 : decode cX4_count 99 = .ok (.goto 12, 3) := by decide +kernel
theorem dX4_count_102 : decode cX4_count 102 = .ok (.aload_n 0, 1) := by decide +kernel
theorem dX4_count_103 : decode cX4_count 103 = .ok (.getfield 46, 3) := by decide +kernel
theorem dX4_count_106 : decode cX4_count 106 = .ok (.getfield 272, 3) := by decide +kernel
theorem dX4_count_109 : decode cX4_count 109 = .ok (.iconst 0, 1) := by decide +kernel
theorem dX4_count_110 : decode cX4_count 110 = .ok (.iaload, 1) := by decide +kernel
theorem dX4_count_111 : decode cX4_count 111 = .ok (.ireturn, 1) := by decide +kernel
theorem dX4_count_112 : decode cX4_count 112 = .ok (.aload_n 0, 1) := by decide +kernel
theorem dX4_count_113 : decode cX4_count 113 = .ok (.getfield 12, 3) := by decide +kernel
theorem dX4_count_116 : decode cX4_count 116 = .ok (.iconst 2, 1) := by decide +kernel
theorem dX4_count_117 : decode cX4_count 117 = .ok (.invokevirtual 275, 3) := by decide +kernel
theorem dX4_count_120 : decode cX4_count 120 = .ok (.ireturn, 1) := by decide +kernel
theorem dX4_count_121 : decode cX4_count 121 = .ok (.aload_n 0, 1) := by decide +kernel
theorem dX4_count_122 : decode cX4_count 122 = .ok (.getfield 12, 3) := by decide +kernel
theorem dX4_count_125 : decode cX4_count 125 = .ok (.iconst 3, 1) := by decide +kernel
theorem dX4_count_126 : decode cX4_count 126 = .ok (.invokevirtual 275, 3) := by decide +kernel
theorem dX4_count_129 : decode cX4_count 129 = .ok (.ireturn, 1) := by decide +kernel
theorem dX4_count_130 : decode cX4_count 130 = .ok (.iconst (-1), 1) := by decide +kernel
theorem dX4_count_131 : decode cX4_count 131 = .ok (.ireturn, 1) := by decide +kernel
theorem dX4_within_0 : decode cX4_within 0 = .ok (.iload_n 0, 1) := by decide +kernel
theorem dX4_within_1 : decode cX4_within 1 = .ok (.iload_n 1, 1) := by decide +kernel
theorem dX4_within_2 : decode cX4_within 2 = .ok (.if_icmp .lt 12, 3) := by decide +kernel
theorem dX4_within_5 : decode cX4_within 5 = .ok (.iload_n 0, 1) := by decide +kernel
theorem dX4_within_6 : decode cX4_within 6 = .ok (.iload_n 2, 1) := by decide +kernel
theorem dX4_within_7 : decode cX4_within 7 = .ok (.if_icmp .gt 7, 3) := by decide +kernel
theorem dX4_within_10 : decode cX4_within 10 = .ok (.iconst 1, 1) := by decide +kernel
theorem dX4_within_11 : decode cX4_within 11 = .ok (.goto 4, 3) := by decide +kernel
theorem dX4_within_14 : decode cX4_within 14 = .ok (.iconst 0, 1) := by decide +kernel
theorem dX4_within_15 : decode cX4_within 15 = .ok (.ireturn, 1) := by decide +kernel
