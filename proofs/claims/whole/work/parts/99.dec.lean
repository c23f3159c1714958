/-! ===== decode rows and words of the tables, by program ===== -/
theorem dJ3_checkIndex_8e157_0 : decode cJ3_checkIndex_8e157 0 = .ok (.iload_n 0, 1) := by decide +kernel
theorem dJ3_checkIndex_8e157_1 : decode cJ3_checkIndex_8e157 1 = .ok (.ifCond .lt 8, 3) := by decide +kernel
theorem dJ3_checkIndex_8e157_4 : decode cJ3_checkIndex_8e157 4 = .ok (.iload_n 0, 1) := by decide +kernel
theorem dJ3_checkIndex_8e157_5 : decode cJ3_checkIndex_8e157 5 = .ok (.iload_n 1, 1) := by decide +kernel
theorem dJ3_checkIndex_8e157_6 : decode cJ3_checkIndex_8e157 6 = .ok (.if_icmp .lt 10, 3) := by decide +kernel
theorem dJ3_checkIndex_8e157_9 : decode cJ3_checkIndex_8e157 9 = .ok (.aload_n 2, 1) := by decide +kernel
theorem dJ3_checkIndex_8e157_10 : decode cJ3_checkIndex_8e157 10 = .ok (.iload_n 0, 1) := by decide +kernel
theorem dJ3_checkIndex_8e157_11 : decode cJ3_checkIndex_8e157 11 = .ok (.iload_n 1, 1) := by decide +kernel
theorem dJ3_checkIndex_8e157_12 : decode cJ3_checkIndex_8e157 12 = .ok (.invokestatic 95, 3) := by decide +kernel
theorem dJ3_checkIndex_8e157_15 : decode cJ3_checkIndex_8e157 15 = .ok (.athrow, 1) := by decide +kernel
theorem dJ3_checkIndex_8e157_16 : decode cJ3_checkIndex_8e157 16 = .ok (.iload_n 0, 1) := by decide +kernel
theorem dJ3_checkIndex_8e157_17 : decode cJ3_checkIndex_8e157 17 = .ok (.ireturn, 1) := by decide +kernel
theorem dJ0_checkIndex_df160_0 : decode cJ0_checkIndex_df160 0 = .ok (.iload_n 0, 1) := by decide +kernel
theorem dJ0_checkIndex_df160_1 : decode cJ0_checkIndex_df160 1 = .ok (.iload_n 1, 1) := by decide +kernel
theorem dJ0_checkIndex_df160_2 : decode cJ0_checkIndex_df160 2 = .ok (.getstatic 1053, 3) := by decide +kernel
theorem dJ0_checkIndex_df160_5 : decode cJ0_checkIndex_df160 5 = .ok (.invokestatic 1059, 3) := by decide +kernel
theorem dJ0_checkIndex_df160_8 : decode cJ0_checkIndex_df160 8 = .ok (.pop, 1) := by decide +kernel
theorem dJ0_checkIndex_df160_9 : decode cJ0_checkIndex_df160 9 = .ok (.return_, 1) := by decide +kernel
theorem dJ1_charAt_3b067_0 : decode cJ1_charAt_3b067 0 = .ok (.iload_n 1, 1) := by decide +kernel
theorem dJ1_charAt_3b067_1 : decode cJ1_charAt_3b067 1 = .ok (.aload_n 0, 1) := by decide +kernel
theorem dJ1_charAt_3b067_2 : decode cJ1_charAt_3b067 2 = .ok (.arraylength, 1) := by decide +kernel
theorem dJ1_charAt_3b067_3 : decode cJ1_charAt_3b067 3 = .ok (.invokestatic 9, 3) := by decide +kernel
theorem dJ1_charAt_3b067_6 : decode cJ1_charAt_3b067 6 = .ok (.aload_n 0, 1) := by decide +kernel
theorem dJ1_charAt_3b067_7 : decode cJ1_charAt_3b067 7 = .ok (.iload_n 1, 1) := by decide +kernel
theorem dJ1_charAt_3b067_8 : decode cJ1_charAt_3b067 8 = .ok (.baload, 1) := by decide +kernel
theorem dJ1_charAt_3b067_9 : decode cJ1_charAt_3b067 9 = .ok (.sipush 255, 3) := by decide +kernel
theorem dJ1_charAt_3b067_12 : decode cJ1_charAt_3b067 12 = .ok (.iand, 1) := by decide +kernel
theorem dJ1_charAt_3b067_13 : decode cJ1_charAt_3b067 13 = .ok (.i2c, 1) := by decide +kernel
theorem dJ1_charAt_3b067_14 : decode cJ1_charAt_3b067 14 = .ok (.ireturn, 1) := by decide +kernel
theorem dJ0_coder_7d493_0 : decode cJ0_coder_7d493 0 = .ok (.getstatic 38, 3) := by decide +kernel
theorem dJ0_coder_7d493_3 : decode cJ0_coder_7d493 3 = .ok (.ifCond .eq 10, 3) := by decide +kernel
theorem dJ0_coder_7d493_6 : decode cJ0_coder_7d493 6 = .ok (.aload_n 0, 1) := by decide +kernel
theorem dJ0_coder_7d493_7 : decode cJ0_coder_7d493 7 = .ok (.getfield 15, 3) := by decide +kernel
theorem dJ0_coder_7d493_10 : decode cJ0_coder_7d493 10 = .ok (.goto 4, 3) := by decide +kernel
theorem dJ0_coder_7d493_13 : decode cJ0_coder_7d493 13 = .ok (.iconst 1, 1) := by decide +kernel
theorem dJ0_coder_7d493_14 : decode cJ0_coder_7d493 14 = .ok (.ireturn, 1) := by decide +kernel
theorem dJ0_isLatin1_aae02_0 : decode cJ0_isLatin1_aae02 0 = .ok (.getstatic 38, 3) := by decide +kernel
theorem dJ0_isLatin1_aae02_3 : decode cJ0_isLatin1_aae02 3 = .ok (.ifCond .eq 14, 3) := by decide +kernel
theorem dJ0_isLatin1_aae02_6 : decode cJ0_isLatin1_aae02 6 = .ok (.aload_n 0, 1) := by decide +kernel
theorem dJ0_isLatin1_aae02_7 : decode cJ0_isLatin1_aae02 7 = .ok (.getfield 15, 3) := by decide +kernel
theorem dJ0_isLatin1_aae02_10 : decode cJ0_isLatin1_aae02 10 = .ok (.ifCond .ne 7, 3) := by decide +kernel
theorem dJ0_isLatin1_aae02_13 : decode cJ0_isLatin1_aae02 13 = .ok (.iconst 1, 1) := by decide +kernel
theorem dJ0_isLatin1_aae02_14 : decode cJ0_isLatin1_aae02 14 = .ok (.goto 4, 3) := by decide +kernel
theorem dJ0_isLatin1_aae02_17 : decode cJ0_isLatin1_aae02 17 = .ok (.iconst 0, 1) := by decide +kernel
theorem dJ0_isLatin1_aae02_18 : decode cJ0_isLatin1_aae02 18 = .ok (.ireturn, 1) := by decide +kernel
theorem dJ0_length_8abf5_0 : decode cJ0_length_8abf5 0 = .ok (.aload_n 0, 1) := by decide +kernel
theorem dJ0_length_8abf5_1 : decode cJ0_length_8abf5 1 = .ok (.getfield 9, 3) := by decide +kernel
theorem dJ0_length_8abf5_4 : decode cJ0_length_8abf5 4 = .ok (.arraylength, 1) := by decide +kernel
theorem dJ0_length_8abf5_5 : decode cJ0_length_8abf5 5 = .ok (.aload_n 0, 1) := by decide +kernel
theorem dJ0_length_8abf5_6 : decode cJ0_length_8abf5 6 = .ok (.invokevirtual 335, 3) := by decide +kernel
theorem dJ0_length_8abf5_9 : decode cJ0_length_8abf5 9 = .ok (.ishr, 1) := by decide +kernel
theorem dJ0_length_8abf5_10 : decode cJ0_length_8abf5 10 = .ok (.ireturn, 1) := by decide +kernel
theorem dJ0_charAt_5068e_0 : decode cJ0_charAt_5068e 0 = .ok (.aload_n 0, 1) := by decide +kernel
theorem dJ0_charAt_5068e_1 : decode cJ0_charAt_5068e 1 = .ok (.invokevirtual 492, 3) := by decide +kernel
theorem dJ0_charAt_5068e_4 : decode cJ0_charAt_5068e 4 = .ok (.ifCond .eq 12, 3) := by decide +kernel
theorem dJ0_charAt_5068e_7 : decode cJ0_charAt_5068e 7 = .ok (.aload_n 0, 1) := by decide +kernel
theorem dJ0_charAt_5068e_8 : decode cJ0_charAt_5068e 8 = .ok (.getfield 9, 3) := by decide +kernel
theorem dJ0_charAt_5068e_11 : decode cJ0_charAt_5068e 11 = .ok (.iload_n 1, 1) := by decide +kernel
theorem dJ0_charAt_5068e_12 : decode cJ0_charAt_5068e 12 = .ok (.invokestatic 495, 3) := by decide +kernel
theorem dJ0_charAt_5068e_15 : decode cJ0_charAt_5068e 15 = .ok (.ireturn, 1) := by decide +kernel
theorem dJ0_charAt_5068e_16 : decode cJ0_charAt_5068e 16 = .ok (.aload_n 0, 1) := by decide +kernel
theorem dJ0_charAt_5068e_17 : decode cJ0_charAt_5068e 17 = .ok (.getfield 9, 3) := by decide +kernel
theorem dJ0_charAt_5068e_20 : decode cJ0_charAt_5068e 20 = .ok (.iload_n 1, 1) := by decide +kernel
theorem dJ0_charAt_5068e_21 : decode cJ0_charAt_5068e 21 = .ok (.invokestatic 498, 3) := by decide +kernel
theorem dJ0_charAt_5068e_24 : decode cJ0_charAt_5068e 24 = .ok (.ireturn, 1) := by decide +kernel
theorem dX3_wordOf_0 : decode cX3_wordOf 0 = .ok (.iload_n 0, 1) := by decide +kernel
theorem dX3_wordOf_1 : decode cX3_wordOf 1 = .ok (.tableswitch 57 0 5 #[39, 42, 45, 48, 51, 54], 39) := by decide +kernel
theorem dX3_wordOf_40 : decode cX3_wordOf 40 = .ok (.ldc 124, 2) := by decide +kernel
theorem dX3_wordOf_42 : decode cX3_wordOf 42 = .ok (.areturn, 1) := by decide +kernel
theorem dX3_wordOf_43 : decode cX3_wordOf 43 = .ok (.ldc 126, 2) := by decide +kernel
theorem dX3_wordOf_45 : decode cX3_wordOf 45 = .ok (.areturn, 1) := by decide +kernel
theorem dX3_wordOf_46 : decode cX3_wordOf 46 = .ok (.ldc 128, 2) := by decide +kernel
theorem dX3_wordOf_48 : decode cX3_wordOf 48 = .ok (.areturn, 1) := by decide +kernel
theorem dX3_wordOf_49 : decode cX3_wordOf 49 = .ok (.ldc 130, 2) := by decide +kernel
theorem dX3_wordOf_51 : decode cX3_wordOf 51 = .ok (.areturn, 1) := by decide +kernel
theorem dX3_wordOf_52 : decode cX3_wordOf 52 = .ok (.ldc 132, 2) := by decide +kernel
theorem dX3_wordOf_54 : decode cX3_wordOf 54 = .ok (.areturn, 1) := by decide +kernel
theorem dX3_wordOf_55 : decode cX3_wordOf 55 = .ok (.ldc 133, 2) := by decide +kernel
theorem dX3_wordOf_57 : decode cX3_wordOf 57 = .ok (.areturn, 1) := by decide +kernel
theorem dX3_wordOf_58 : decode cX3_wordOf 58 = .ok (.ldc 135, 2) := by decide +kernel
theorem dX3_wordOf_60 : decode cX3_wordOf 60 = .ok (.areturn, 1) := by decide +kernel
theorem dX3_isSpelt_0 : decode cX3_isSpelt 0 = .ok (.aload_n 0, 1) := by decide +kernel
theorem dX3_isSpelt_1 : decode cX3_isSpelt 1 = .ok (.getfield 30, 3) := by decide +kernel
theorem dX3_isSpelt_4 : decode cX3_isSpelt 4 = .ok (.aload_n 0, 1) := by decide +kernel
theorem dX3_isSpelt_5 : decode cX3_isSpelt 5 = .ok (.getfield 47, 3) := by decide +kernel
theorem dX3_isSpelt_8 : decode cX3_isSpelt 8 = .ok (.isub, 1) := by decide +kernel
theorem dX3_isSpelt_9 : decode cX3_isSpelt 9 = .ok (.aload_n 1, 1) := by decide +kernel
theorem dX3_isSpelt_10 : decode cX3_isSpelt 10 = .ok (.invokevirtual 137, 3) := by decide +kernel
theorem dX3_isSpelt_13 : decode cX3_isSpelt 13 = .ok (.if_icmp .eq 5, 3) := by decide +kernel
theorem dX3_isSpelt_16 : decode cX3_isSpelt 16 = .ok (.iconst 0, 1) := by decide +kernel
theorem dX3_isSpelt_17 : decode cX3_isSpelt 17 = .ok (.ireturn, 1) := by decide +kernel
theorem dX3_isSpelt_18 : decode cX3_isSpelt 18 = .ok (.iconst 0, 1) := by decide +kernel
theorem dX3_isSpelt_19 : decode cX3_isSpelt 19 = .ok (.istore_n 2, 1) := by decide +kernel
theorem dX3_isSpelt_20 : decode cX3_isSpelt 20 = .ok (.iload_n 2, 1) := by decide +kernel
theorem dX3_isSpelt_21 : decode cX3_isSpelt 21 = .ok (.aload_n 1, 1) := by decide +kernel
theorem dX3_isSpelt_22 : decode cX3_isSpelt 22 = .ok (.invokevirtual 137, 3) := by decide +kernel
theorem dX3_isSpelt_25 : decode cX3_isSpelt 25 = .ok (.if_icmp .ge 30, 3) := by decide +kernel
theorem dX3_isSpelt_28 : decode cX3_isSpelt 28 = .ok (.aload_n 0, 1) := by decide +kernel
theorem dX3_isSpelt_29 : decode cX3_isSpelt 29 = .ok (.getfield 11, 3) := by decide +kernel
theorem dX3_isSpelt_32 : decode cX3_isSpelt 32 = .ok (.aload_n 0, 1) := by decide +kernel
theorem dX3_isSpelt_33 : decode cX3_isSpelt 33 = .ok (.getfield 47, 3) := by decide +kernel
theorem dX3_isSpelt_36 : decode cX3_isSpelt 36 = .ok (.iload_n 2, 1) := by decide +kernel
theorem dX3_isSpelt_37 : decode cX3_isSpelt 37 = .ok (.iadd, 1) := by decide +kernel
theorem dX3_isSpelt_38 : decode cX3_isSpelt 38 = .ok (.baload, 1) := by decide +kernel
theorem dX3_isSpelt_39 : decode cX3_isSpelt 39 = .ok (.aload_n 1, 1) := by decide +kernel
theorem dX3_isSpelt_40 : decode cX3_isSpelt 40 = .ok (.iload_n 2, 1) := by decide +kernel
theorem dX3_isSpelt_41 : decode cX3_isSpelt 41 = .ok (.invokevirtual 141, 3) := by decide +kernel
theorem dX3_isSpelt_44 : decode cX3_isSpelt 44 = .ok (.if_icmp .eq 5, 3) := by decide +kernel
theorem dX3_isSpelt_47 : decode cX3_isSpelt 47 = .ok (.iconst 0, 1) := by decide +kernel
theorem dX3_isSpelt_48 : decode cX3_isSpelt 48 = .ok (.ireturn, 1) := by decide +kernel
theorem dX3_isSpelt_49 : decode cX3_isSpelt 49 = .ok (.iinc 2 1, 3) := by decide +kernel
theorem dX3_isSpelt_52 : decode cX3_isSpelt 52 = .ok (.goto (-32), 3) := by decide +kernel
theorem dX3_isSpelt_55 : decode cX3_isSpelt 55 = .ok (.iconst 1, 1) := by decide +kernel
theorem dX3_isSpelt_56 : decode cX3_isSpelt 56 = .ok (.ireturn, 1) := by decide +kernel
theorem dX3_wordRead_0 : decode cX3_wordRead 0 = .ok (.iconst 0, 1) := by decide +kernel
theorem dX3_wordRead_1 : decode cX3_wordRead 1 = .ok (.istore_n 1, 1) := by decide +kernel
theorem dX3_wordRead_2 : decode cX3_wordRead 2 = .ok (.iload_n 1, 1) := by decide +kernel
theorem dX3_wordRead_3 : decode cX3_wordRead 3 = .ok (.bipush 7, 2) := by decide +kernel
theorem dX3_wordRead_5 : decode cX3_wordRead 5 = .ok (.if_icmp .ge 22, 3) := by decide +kernel
theorem dX3_wordRead_8 : decode cX3_wordRead 8 = .ok (.aload_n 0, 1) := by decide +kernel
theorem dX3_wordRead_9 : decode cX3_wordRead 9 = .ok (.iload_n 1, 1) := by decide +kernel
theorem dX3_wordRead_10 : decode cX3_wordRead 10 = .ok (.invokestatic 116, 3) := by decide +kernel
theorem dX3_wordRead_13 : decode cX3_wordRead 13 = .ok (.invokevirtual 120, 3) := by decide +kernel
theorem dX3_wordRead_16 : decode cX3_wordRead 16 = .ok (.ifCond .eq 5, 3) := by decide +kernel
theorem dX3_wordRead_19 : decode cX3_wordRead 19 = .ok (.iload_n 1, 1) := by decide +kernel
theorem dX3_wordRead_20 : decode cX3_wordRead 20 = .ok (.ireturn, 1) := by decide +kernel
theorem dX3_wordRead_21 : decode cX3_wordRead 21 = .ok (.iinc 1 1, 3) := by decide +kernel
theorem dX3_wordRead_24 : decode cX3_wordRead 24 = .ok (.goto (-22), 3) := by decide +kernel
theorem dX3_wordRead_27 : decode cX3_wordRead 27 = .ok (.bipush 7, 2) := by decide +kernel
theorem dX3_wordRead_29 : decode cX3_wordRead 29 = .ok (.ireturn, 1) := by decide +kernel
theorem dX0_init_0 : decode cX0_init 0 = .ok (.aload_n 0, 1) := by decide +kernel
theorem dX0_init_1 : decode cX0_init 1 = .ok (.invokespecial 3, 3) := by decide +kernel
theorem dX0_init_4 : decode cX0_init 4 = .ok (.aload_n 0, 1) := by decide +kernel
theorem dX0_init_5 : decode cX0_init 5 = .ok (.iconst 4, 1) := by decide +kernel
theorem dX0_init_6 : decode cX0_init 6 = .ok (.newarray .int, 2) := by decide +kernel
theorem dX0_init_8 : decode cX0_init 8 = .ok (.putfield 9, 3) := by decide +kernel
theorem dX0_init_11 : decode cX0_init 11 = .ok (.aload_n 0, 1) := by decide +kernel
theorem dX0_init_12 : decode cX0_init 12 = .ok (.iconst 4, 1) := by decide +kernel
theorem dX0_init_13 : decode cX0_init 13 = .ok (.newarray .int, 2) := by decide +kernel
theorem dX0_init_15 : decode cX0_init 15 = .ok (.putfield 15, 3) := by decide +kernel
theorem dX0_init_18 : decode cX0_init 18 = .ok (.aload_n 0, 1) := by decide +kernel
theorem dX0_init_19 : decode cX0_init 19 = .ok (.iconst 4, 1) := by decide +kernel
theorem dX0_init_20 : decode cX0_init 20 = .ok (.newarray .int, 2) := by decide +kernel
theorem dX0_init_22 : decode cX0_init 22 = .ok (.putfield 18, 3) := by decide +kernel
theorem dX0_init_25 : decode cX0_init 25 = .ok (.aload_n 0, 1) := by decide +kernel
theorem dX0_init_26 : decode cX0_init 26 = .ok (.iconst 4, 1) := by decide +kernel
theorem dX0_init_27 : decode cX0_init 27 = .ok (.newarray .int, 2) := by decide +kernel
theorem dX0_init_29 : decode cX0_init 29 = .ok (.putfield 21, 3) := by decide +kernel
theorem dX0_init_32 : decode cX0_init 32 = .ok (.aload_n 0, 1) := by decide +kernel
theorem dX0_init_33 : decode cX0_init 33 = .ok (.iconst 4, 1) := by decide +kernel
theorem dX0_init_34 : decode cX0_init 34 = .ok (.newarray .int, 2) := by decide +kernel
theorem dX0_init_36 : decode cX0_init 36 = .ok (.putfield 24, 3) := by decide +kernel
theorem dX0_init_39 : decode cX0_init 39 = .ok (.aload_n 0, 1) := by decide +kernel
theorem dX0_init_40 : decode cX0_init 40 = .ok (.iconst 4, 1) := by decide +kernel
theorem dX0_init_41 : decode cX0_init 41 = .ok (.newarray .int, 2) := by decide +kernel
theorem dX0_init_43 : decode cX0_init 43 = .ok (.putfield 27, 3) := by decide +kernel
theorem dX0_init_46 : decode cX0_init 46 = .ok (.aload_n 0, 1) := by decide +kernel
theorem dX0_init_47 : decode cX0_init 47 = .ok (.bipush 12, 2) := by decide +kernel
theorem dX0_init_49 : decode cX0_init 49 = .ok (.newarray .int, 2) := by decide +kernel
theorem dX0_init_51 : decode cX0_init 51 = .ok (.putfield 30, 3) := by decide +kernel
theorem dX0_init_54 : decode cX0_init 54 = .ok (.aload_n 0, 1) := by decide +kernel
theorem dX0_init_55 : decode cX0_init 55 = .ok (.bipush 12, 2) := by decide +kernel
theorem dX0_init_57 : decode cX0_init 57 = .ok (.newarray .int, 2) := by decide +kernel
theorem dX0_init_59 : decode cX0_init 59 = .ok (.putfield 33, 3) := by decide +kernel
theorem dX0_init_62 : decode cX0_init 62 = .ok (.aload_n 0, 1) := by decide +kernel
theorem dX0_init_63 : decode cX0_init 63 = .ok (.iconst 5, 1) := by decide +kernel
theorem dX0_init_64 : decode cX0_init 64 = .ok (.newarray .int, 2) := by decide +kernel
theorem dX0_init_66 : decode cX0_init 66 = .ok (.putfield 36, 3) := by decide +kernel
theorem dX0_init_69 : decode cX0_init 69 = .ok (.return_, 1) := by decide +kernel
theorem dX1_init_0 : decode cX1_init 0 = .ok (.aload_n 0, 1) := by decide +kernel
theorem dX1_init_1 : decode cX1_init 1 = .ok (.invokespecial 3, 3) := by decide +kernel
theorem dX1_init_4 : decode cX1_init 4 = .ok (.aload_n 0, 1) := by decide +kernel
theorem dX1_init_5 : decode cX1_init 5 = .ok (.bipush 6, 2) := by decide +kernel
theorem dX1_init_7 : decode cX1_init 7 = .ok (.newarray .int, 2) := by decide +kernel
theorem dX1_init_9 : decode cX1_init 9 = .ok (.putfield 9, 3) := by decide +kernel
theorem dX1_init_12 : decode cX1_init 12 = .ok (.aload_n 0, 1) := by decide +kernel
theorem dX1_init_13 : decode cX1_init 13 = .ok (.bipush 6, 2) := by decide +kernel
theorem dX1_init_15 : decode cX1_init 15 = .ok (.newarray .int, 2) := by decide +kernel
theorem dX1_init_17 : decode cX1_init 17 = .ok (.putfield 15, 3) := by decide +kernel
theorem dX1_init_20 : decode cX1_init 20 = .ok (.aload_n 0, 1) := by decide +kernel
theorem dX1_init_21 : decode cX1_init 21 = .ok (.bipush 6, 2) := by decide +kernel
theorem dX1_init_23 : decode cX1_init 23 = .ok (.newarray .int, 2) := by decide +kernel
theorem dX1_init_25 : decode cX1_init 25 = .ok (.putfield 18, 3) := by decide +kernel
theorem dX1_init_28 : decode cX1_init 28 = .ok (.return_, 1) := by decide +kernel
theorem dX2_init_0 : decode cX2_init 0 = .ok (.aload_n 0, 1) := by decide +kernel
theorem dX2_init_1 : decode cX2_init 1 = .ok (.invokespecial 3, 3) := by decide +kernel
theorem dX2_init_4 : decode cX2_init 4 = .ok (.aload_n 0, 1) := by decide +kernel
theorem dX2_init_5 : decode cX2_init 5 = .ok (.iconst 4, 1) := by decide +kernel
theorem dX2_init_6 : decode cX2_init 6 = .ok (.bipush 40, 2) := by decide +kernel
theorem dX2_init_8 : decode cX2_init 8 = .ok (.multianewarray 9 2, 4) := by decide +kernel
theorem dX2_init_12 : decode cX2_init 12 = .ok (.putfield 11, 3) := by decide +kernel
theorem dX2_init_15 : decode cX2_init 15 = .ok (.aload_n 0, 1) := by decide +kernel
theorem dX2_init_16 : decode cX2_init 16 = .ok (.iconst 4, 1) := by decide +kernel
theorem dX2_init_17 : decode cX2_init 17 = .ok (.newarray .int, 2) := by decide +kernel
theorem dX2_init_19 : decode cX2_init 19 = .ok (.dup, 1) := by decide +kernel
theorem dX2_init_20 : decode cX2_init 20 = .ok (.iconst 0, 1) := by decide +kernel
theorem dX2_init_21 : decode cX2_init 21 = .ok (.iconst (-1), 1) := by decide +kernel
theorem dX2_init_22 : decode cX2_init 22 = .ok (.iastore, 1) := by decide +kernel
theorem dX2_init_23 : decode cX2_init 23 = .ok (.dup, 1) := by decide +kernel
theorem dX2_init_24 : decode cX2_init 24 = .ok (.iconst 1, 1) := by decide +kernel
theorem dX2_init_25 : decode cX2_init 25 = .ok (.iconst (-1), 1) := by decide +kernel
theorem dX2_init_26 : decode cX2_init 26 = .ok (.iastore, 1) := by decide +kernel
theorem dX2_init_27 : decode cX2_init 27 = .ok (.dup, 1) := by decide +kernel
theorem dX2_init_28 : decode cX2_init 28 = .ok (.iconst 2, 1) := by decide +kernel
theorem dX2_init_29 : decode cX2_init 29 = .ok (.iconst (-1), 1) := by decide +kernel
theorem dX2_init_30 : decode cX2_init 30 = .ok (.iastore, 1) := by decide +kernel
theorem dX2_init_31 : decode cX2_init 31 = .ok (.dup, 1) := by decide +kernel
theorem dX2_init_32 : decode cX2_init 32 = .ok (.iconst 3, 1) := by decide +kernel
theorem dX2_init_33 : decode cX2_init 33 = .ok (.iconst (-1), 1) := by decide +kernel
theorem dX2_init_34 : decode cX2_init 34 = .ok (.iastore, 1) := by decide +kernel
theorem dX2_init_35 : decode cX2_init 35 = .ok (.putfield 16, 3) := by decide +kernel
theorem dX2_init_38 : decode cX2_init 38 = .ok (.aload_n 0, 1) := by decide +kernel
theorem dX2_init_39 : decode cX2_init 39 = .ok (.iconst 4, 1) := by decide +kernel
theorem dX2_init_40 : decode cX2_init 40 = .ok (.newarray .int, 2) := by decide +kernel
theorem dX2_init_42 : decode cX2_init 42 = .ok (.putfield 20, 3) := by decide +kernel
theorem dX2_init_45 : decode cX2_init 45 = .ok (.return_, 1) := by decide +kernel
theorem dX3_init_0 : decode cX3_init 0 = .ok (.aload_n 0, 1) := by decide +kernel
theorem dX3_init_1 : decode cX3_init 1 = .ok (.invokespecial 3, 3) := by decide +kernel
theorem dX3_init_4 : decode cX3_init 4 = .ok (.aload_n 0, 1) := by decide +kernel
theorem dX3_init_5 : decode cX3_init 5 = .ok (.sipush 160, 3) := by decide +kernel
theorem dX3_init_8 : decode cX3_init 8 = .ok (.newarray .byte, 2) := by decide +kernel
theorem dX3_init_10 : decode cX3_init 10 = .ok (.putfield 11, 3) := by decide +kernel
theorem dX3_init_13 : decode cX3_init 13 = .ok (.return_, 1) := by decide +kernel
theorem dX4_init_0 : decode cX4_init 0 = .ok (.aload_n 0, 1) := by decide +kernel
theorem dX4_init_1 : decode cX4_init 1 = .ok (.invokespecial 3, 3) := by decide +kernel
theorem dX4_init_4 : decode cX4_init 4 = .ok (.aload_n 0, 1) := by decide +kernel
theorem dX4_init_5 : decode cX4_init 5 = .ok (.new 9, 3) := by decide +kernel
theorem dX4_init_8 : decode cX4_init 8 = .ok (.dup, 1) := by decide +kernel
theorem dX4_init_9 : decode cX4_init 9 = .ok (.invokespecial 11, 3) := by decide +kernel
theorem dX4_init_12 : decode cX4_init 12 = .ok (.putfield 12, 3) := by decide +kernel
theorem dX4_init_15 : decode cX4_init 15 = .ok (.aload_n 0, 1) := by decide +kernel
theorem dX4_init_16 : decode cX4_init 16 = .ok (.new 9, 3) := by decide +kernel
theorem dX4_init_19 : decode cX4_init 19 = .ok (.dup, 1) := by decide +kernel
theorem dX4_init_20 : decode cX4_init 20 = .ok (.invokespecial 11, 3) := by decide +kernel
theorem dX4_init_23 : decode cX4_init 23 = .ok (.putfield 16, 3) := by decide +kernel
theorem dX4_init_26 : decode cX4_init 26 = .ok (.aload_n 0, 1) := by decide +kernel
theorem dX4_init_27 : decode cX4_init 27 = .ok (.new 9, 3) := by decide +kernel
theorem dX4_init_30 : decode cX4_init 30 = .ok (.dup, 1) := by decide +kernel
theorem dX4_init_31 : decode cX4_init 31 = .ok (.invokespecial 11, 3) := by decide +kernel
theorem dX4_init_34 : decode cX4_init 34 = .ok (.putfield 19, 3) := by decide +kernel
theorem dX4_init_37 : decode cX4_init 37 = .ok (.aload_n 0, 1) := by decide +kernel
theorem dX4_init_38 : decode cX4_init 38 = .ok (.new 9, 3) := by decide +kernel
theorem dX4_init_41 : decode cX4_init 41 = .ok (.dup, 1) := by decide +kernel
theorem dX4_init_42 : decode cX4_init 42 = .ok (.invokespecial 11, 3) := by decide +kernel
theorem dX4_init_45 : decode cX4_init 45 = .ok (.putfield 22, 3) := by decide +kernel
theorem dX4_init_48 : decode cX4_init 48 = .ok (.aload_n 0, 1) := by decide +kernel
theorem dX4_init_49 : decode cX4_init 49 = .ok (.iconst 2, 1) := by decide +kernel
theorem dX4_init_50 : decode cX4_init 50 = .ok (.newarray .boolean, 2) := by decide +kernel
theorem dX4_init_52 : decode cX4_init 52 = .ok (.putfield 25, 3) := by decide +kernel
theorem dX4_init_55 : decode cX4_init 55 = .ok (.aload_n 0, 1) := by decide +kernel
theorem dX4_init_56 : decode cX4_init 56 = .ok (.new 29, 3) := by decide +kernel
theorem dX4_init_59 : decode cX4_init 59 = .ok (.dup, 1) := by decide +kernel
theorem dX4_init_60 : decode cX4_init 60 = .ok (.invokespecial 31, 3) := by decide +kernel
theorem dX4_init_63 : decode cX4_init 63 = .ok (.putfield 32, 3) := by decide +kernel
theorem dX4_init_66 : decode cX4_init 66 = .ok (.aload_n 0, 1) := by decide +kernel
theorem dX4_init_67 : decode cX4_init 67 = .ok (.new 36, 3) := by decide +kernel
theorem dX4_init_70 : decode cX4_init 70 = .ok (.dup, 1) := by decide +kernel
theorem dX4_init_71 : decode cX4_init 71 = .ok (.invokespecial 38, 3) := by decide +kernel
theorem dX4_init_74 : decode cX4_init 74 = .ok (.putfield 39, 3) := by decide +kernel
theorem dX4_init_77 : decode cX4_init 77 = .ok (.aload_n 0, 1) := by decide +kernel
theorem dX4_init_78 : decode cX4_init 78 = .ok (.new 43, 3) := by decide +kernel
theorem dX4_init_81 : decode cX4_init 81 = .ok (.dup, 1) := by decide +kernel
theorem dX4_init_82 : decode cX4_init 82 = .ok (.invokespecial 45, 3) := by decide +kernel
theorem dX4_init_85 : decode cX4_init 85 = .ok (.putfield 46, 3) := by decide +kernel
theorem dX4_init_88 : decode cX4_init 88 = .ok (.aload_n 0, 1) := by decide +kernel
theorem dX4_init_89 : decode cX4_init 89 = .ok (.bipush 10, 2) := by decide +kernel
theorem dX4_init_91 : decode cX4_init 91 = .ok (.bipush 41, 2) := by decide +kernel
theorem dX4_init_93 : decode cX4_init 93 = .ok (.multianewarray 50 2, 4) := by decide +kernel
theorem dX4_init_97 : decode cX4_init 97 = .ok (.putfield 52, 3) := by decide +kernel
theorem dX4_init_100 : decode cX4_init 100 = .ok (.aload_n 0, 1) := by decide +kernel
theorem dX4_init_101 : decode cX4_init 101 = .ok (.iconst 0, 1) := by decide +kernel
theorem dX4_init_102 : decode cX4_init 102 = .ok (.putfield 55, 3) := by decide +kernel
theorem dX4_init_105 : decode cX4_init 105 = .ok (.return_, 1) := by decide +kernel
theorem dX5_init_0 : decode cX5_init 0 = .ok (.aload_n 0, 1) := by decide +kernel
theorem dX5_init_1 : decode cX5_init 1 = .ok (.invokespecial 1, 3) := by decide +kernel
theorem dX5_init_4 : decode cX5_init 4 = .ok (.aload_n 0, 1) := by decide +kernel
theorem dX5_init_5 : decode cX5_init 5 = .ok (.sipush 312, 3) := by decide +kernel
theorem dX5_init_8 : decode cX5_init 8 = .ok (.newarray .int, 2) := by decide +kernel
theorem dX5_init_10 : decode cX5_init 10 = .ok (.putfield 7, 3) := by decide +kernel
theorem dX5_init_13 : decode cX5_init 13 = .ok (.aload_n 0, 1) := by decide +kernel
theorem dX5_init_14 : decode cX5_init 14 = .ok (.bipush 52, 2) := by decide +kernel
theorem dX5_init_16 : decode cX5_init 16 = .ok (.newarray .int, 2) := by decide +kernel
theorem dX5_init_18 : decode cX5_init 18 = .ok (.putfield 13, 3) := by decide +kernel
theorem dX5_init_21 : decode cX5_init 21 = .ok (.aload_n 0, 1) := by decide +kernel
theorem dX5_init_22 : decode cX5_init 22 = .ok (.sipush 160, 3) := by decide +kernel
theorem dX5_init_25 : decode cX5_init 25 = .ok (.newarray .int, 2) := by decide +kernel
theorem dX5_init_27 : decode cX5_init 27 = .ok (.putfield 16, 3) := by decide +kernel
theorem dX5_init_30 : decode cX5_init 30 = .ok (.aload_n 0, 1) := by decide +kernel
theorem dX5_init_31 : decode cX5_init 31 = .ok (.bipush 8, 2) := by decide +kernel
theorem dX5_init_33 : decode cX5_init 33 = .ok (.newarray .int, 2) := by decide +kernel
theorem dX5_init_35 : decode cX5_init 35 = .ok (.dup, 1) := by decide +kernel
theorem dX5_init_36 : decode cX5_init 36 = .ok (.iconst 0, 1) := by decide +kernel
theorem dX5_init_37 : decode cX5_init 37 = .ok (.iconst 0, 1) := by decide +kernel
theorem dX5_init_38 : decode cX5_init 38 = .ok (.iastore, 1) := by decide +kernel
theorem dX5_init_39 : decode cX5_init 39 = .ok (.dup, 1) := by decide +kernel
theorem dX5_init_40 : decode cX5_init 40 = .ok (.iconst 1, 1) := by decide +kernel
theorem dX5_init_41 : decode cX5_init 41 = .ok (.iconst 5, 1) := by decide +kernel
theorem dX5_init_42 : decode cX5_init 42 = .ok (.iastore, 1) := by decide +kernel
theorem dX5_init_43 : decode cX5_init 43 = .ok (.dup, 1) := by decide +kernel
theorem dX5_init_44 : decode cX5_init 44 = .ok (.iconst 2, 1) := by decide +kernel
theorem dX5_init_45 : decode cX5_init 45 = .ok (.bipush 9, 2) := by decide +kernel
theorem dX5_init_47 : decode cX5_init 47 = .ok (.iastore, 1) := by decide +kernel
theorem dX5_init_48 : decode cX5_init 48 = .ok (.dup, 1) := by decide +kernel
theorem dX5_init_49 : decode cX5_init 49 = .ok (.iconst 3, 1) := by decide +kernel
theorem dX5_init_50 : decode cX5_init 50 = .ok (.bipush 14, 2) := by decide +kernel
theorem dX5_init_52 : decode cX5_init 52 = .ok (.iastore, 1) := by decide +kernel
theorem dX5_init_53 : decode cX5_init 53 = .ok (.dup, 1) := by decide +kernel
theorem dX5_init_54 : decode cX5_init 54 = .ok (.iconst 4, 1) := by decide +kernel
theorem dX5_init_55 : decode cX5_init 55 = .ok (.bipush 19, 2) := by decide +kernel
theorem dX5_init_57 : decode cX5_init 57 = .ok (.iastore, 1) := by decide +kernel
theorem dX5_init_58 : decode cX5_init 58 = .ok (.dup, 1) := by decide +kernel
theorem dX5_init_59 : decode cX5_init 59 = .ok (.iconst 5, 1) := by decide +kernel
theorem dX5_init_60 : decode cX5_init 60 = .ok (.bipush 23, 2) := by decide +kernel
theorem dX5_init_62 : decode cX5_init 62 = .ok (.iastore, 1) := by decide +kernel
theorem dX5_init_63 : decode cX5_init 63 = .ok (.dup, 1) := by decide +kernel
theorem dX5_init_64 : decode cX5_init 64 = .ok (.bipush 6, 2) := by decide +kernel
theorem dX5_init_66 : decode cX5_init 66 = .ok (.bipush 25, 2) := by decide +kernel
theorem dX5_init_68 : decode cX5_init 68 = .ok (.iastore, 1) := by decide +kernel
theorem dX5_init_69 : decode cX5_init 69 = .ok (.dup, 1) := by decide +kernel
theorem dX5_init_70 : decode cX5_init 70 = .ok (.bipush 7, 2) := by decide +kernel
theorem dX5_init_72 : decode cX5_init 72 = .ok (.bipush 29, 2) := by decide +kernel
theorem dX5_init_74 : decode cX5_init 74 = .ok (.iastore, 1) := by decide +kernel
theorem dX5_init_75 : decode cX5_init 75 = .ok (.putfield 19, 3) := by decide +kernel
theorem dX5_init_78 : decode cX5_init 78 = .ok (.aload_n 0, 1) := by decide +kernel
theorem dX5_init_79 : decode cX5_init 79 = .ok (.bipush 29, 2) := by decide +kernel
theorem dX5_init_81 : decode cX5_init 81 = .ok (.newarray .int, 2) := by decide +kernel
theorem dX5_init_83 : decode cX5_init 83 = .ok (.dup, 1) := by decide +kernel
theorem dX5_init_84 : decode cX5_init 84 = .ok (.iconst 0, 1) := by decide +kernel
theorem dX5_init_85 : decode cX5_init 85 = .ok (.bipush 112, 2) := by decide +kernel
theorem dX5_init_87 : decode cX5_init 87 = .ok (.iastore, 1) := by decide +kernel
theorem dX5_init_88 : decode cX5_init 88 = .ok (.dup, 1) := by decide +kernel
theorem dX5_init_89 : decode cX5_init 89 = .ok (.iconst 1, 1) := by decide +kernel
theorem dX5_init_90 : decode cX5_init 90 = .ok (.bipush 108, 2) := by decide +kernel
theorem dX5_init_92 : decode cX5_init 92 = .ok (.iastore, 1) := by decide +kernel
theorem dX5_init_93 : decode cX5_init 93 = .ok (.dup, 1) := by decide +kernel
theorem dX5_init_94 : decode cX5_init 94 = .ok (.iconst 2, 1) := by decide +kernel
theorem dX5_init_95 : decode cX5_init 95 = .ok (.bipush 97, 2) := by decide +kernel
theorem dX5_init_97 : decode cX5_init 97 = .ok (.iastore, 1) := by decide +kernel
theorem dX5_init_98 : decode cX5_init 98 = .ok (.dup, 1) := by decide +kernel
theorem dX5_init_99 : decode cX5_init 99 = .ok (.iconst 3, 1) := by decide +kernel
theorem dX5_init_100 : decode cX5_init 100 = .ok (.bipush 105, 2) := by decide +kernel
theorem dX5_init_102 : decode cX5_init 102 = .ok (.iastore, 1) := by decide +kernel
theorem dX5_init_103 : decode cX5_init 103 = .ok (.dup, 1) := by decide +kernel
theorem dX5_init_104 : decode cX5_init 104 = .ok (.iconst 4, 1) := by decide +kernel
theorem dX5_init_105 : decode cX5_init 105 = .ok (.bipush 110, 2) := by decide +kernel
theorem dX5_init_107 : decode cX5_init 107 = .ok (.iastore, 1) := by decide +kernel
theorem dX5_init_108 : decode cX5_init 108 = .ok (.dup, 1) := by decide +kernel
theorem dX5_init_109 : decode cX5_init 109 = .ok (.iconst 5, 1) := by decide +kernel
theorem dX5_init_110 : decode cX5_init 110 = .ok (.bipush 114, 2) := by decide +kernel
theorem dX5_init_112 : decode cX5_init 112 = .ok (.iastore, 1) := by decide +kernel
theorem dX5_init_113 : decode cX5_init 113 = .ok (.dup, 1) := by decide +kernel
theorem dX5_init_114 : decode cX5_init 114 = .ok (.bipush 6, 2) := by decide +kernel
theorem dX5_init_116 : decode cX5_init 116 = .ok (.bipush 111, 2) := by decide +kernel
theorem dX5_init_118 : decode cX5_init 118 = .ok (.iastore, 1) := by decide +kernel
theorem dX5_init_119 : decode cX5_init 119 = .ok (.dup, 1) := by decide +kernel
theorem dX5_init_120 : decode cX5_init 120 = .ok (.bipush 7, 2) := by decide +kernel
theorem dX5_init_122 : decode cX5_init 122 = .ok (.bipush 112, 2) := by decide +kernel
theorem dX5_init_124 : decode cX5_init 124 = .ok (.iastore, 1) := by decide +kernel
theorem dX5_init_125 : decode cX5_init 125 = .ok (.dup, 1) := by decide +kernel
theorem dX5_init_126 : decode cX5_init 126 = .ok (.bipush 8, 2) := by decide +kernel
theorem dX5_init_128 : decode cX5_init 128 = .ok (.bipush 101, 2) := by decide +kernel
theorem dX5_init_130 : decode cX5_init 130 = .ok (.iastore, 1) := by decide +kernel
theorem dX5_init_131 : decode cX5_init 131 = .ok (.dup, 1) := by decide +kernel
theorem dX5_init_132 : decode cX5_init 132 = .ok (.bipush 9, 2) := by decide +kernel
theorem dX5_init_134 : decode cX5_init 134 = .ok (.bipush 98, 2) := by decide +kernel
theorem dX5_init_136 : decode cX5_init 136 = .ok (.iastore, 1) := by decide +kernel
theorem dX5_init_137 : decode cX5_init 137 = .ok (.dup, 1) := by decide +kernel
theorem dX5_init_138 : decode cX5_init 138 = .ok (.bipush 10, 2) := by decide +kernel
theorem dX5_init_140 : decode cX5_init 140 = .ok (.bipush 108, 2) := by decide +kernel
theorem dX5_init_142 : decode cX5_init 142 = .ok (.iastore, 1) := by decide +kernel
theorem dX5_init_143 : decode cX5_init 143 = .ok (.dup, 1) := by decide +kernel
theorem dX5_init_144 : decode cX5_init 144 = .ok (.bipush 11, 2) := by decide +kernel
theorem dX5_init_146 : decode cX5_init 146 = .ok (.bipush 111, 2) := by decide +kernel
theorem dX5_init_148 : decode cX5_init 148 = .ok (.iastore, 1) := by decide +kernel
theorem dX5_init_149 : decode cX5_init 149 = .ok (.dup, 1) := by decide +kernel
theorem dX5_init_150 : decode cX5_init 150 = .ok (.bipush 12, 2) := by decide +kernel
theorem dX5_init_152 : decode cX5_init 152 = .ok (.bipush 99, 2) := by decide +kernel
theorem dX5_init_154 : decode cX5_init 154 = .ok (.iastore, 1) := by decide +kernel
theorem dX5_init_155 : decode cX5_init 155 = .ok (.dup, 1) := by decide +kernel
theorem dX5_init_156 : decode cX5_init 156 = .ok (.bipush 13, 2) := by decide +kernel
theorem dX5_init_158 : decode cX5_init 158 = .ok (.bipush 107, 2) := by decide +kernel
theorem dX5_init_160 : decode cX5_init 160 = .ok (.iastore, 1) := by decide +kernel
theorem dX5_init_161 : decode cX5_init 161 = .ok (.dup, 1) := by decide +kernel
theorem dX5_init_162 : decode cX5_init 162 = .ok (.bipush 14, 2) := by decide +kernel
theorem dX5_init_164 : decode cX5_init 164 = .ok (.bipush 115, 2) := by decide +kernel
theorem dX5_init_166 : decode cX5_init 166 = .ok (.iastore, 1) := by decide +kernel
theorem dX5_init_167 : decode cX5_init 167 = .ok (.dup, 1) := by decide +kernel
theorem dX5_init_168 : decode cX5_init 168 = .ok (.bipush 15, 2) := by decide +kernel
theorem dX5_init_170 : decode cX5_init 170 = .ok (.bipush 108, 2) := by decide +kernel
theorem dX5_init_172 : decode cX5_init 172 = .ok (.iastore, 1) := by decide +kernel
theorem dX5_init_173 : decode cX5_init 173 = .ok (.dup, 1) := by decide +kernel
theorem dX5_init_174 : decode cX5_init 174 = .ok (.bipush 16, 2) := by decide +kernel
theorem dX5_init_176 : decode cX5_init 176 = .ok (.bipush 97, 2) := by decide +kernel
theorem dX5_init_178 : decode cX5_init 178 = .ok (.iastore, 1) := by decide +kernel
theorem dX5_init_179 : decode cX5_init 179 = .ok (.dup, 1) := by decide +kernel
theorem dX5_init_180 : decode cX5_init 180 = .ok (.bipush 17, 2) := by decide +kernel
theorem dX5_init_182 : decode cX5_init 182 = .ok (.bipush 99, 2) := by decide +kernel
theorem dX5_init_184 : decode cX5_init 184 = .ok (.iastore, 1) := by decide +kernel
theorem dX5_init_185 : decode cX5_init 185 = .ok (.dup, 1) := by decide +kernel
theorem dX5_init_186 : decode cX5_init 186 = .ok (.bipush 18, 2) := by decide +kernel
theorem dX5_init_188 : decode cX5_init 188 = .ok (.bipush 107, 2) := by decide +kernel
theorem dX5_init_190 : decode cX5_init 190 = .ok (.iastore, 1) := by decide +kernel
theorem dX5_init_191 : decode cX5_init 191 = .ok (.dup, 1) := by decide +kernel
theorem dX5_init_192 : decode cX5_init 192 = .ok (.bipush 19, 2) := by decide +kernel
theorem dX5_init_194 : decode cX5_init 194 = .ok (.bipush 100, 2) := by decide +kernel
theorem dX5_init_196 : decode cX5_init 196 = .ok (.iastore, 1) := by decide +kernel
theorem dX5_init_197 : decode cX5_init 197 = .ok (.dup, 1) := by decide +kernel
theorem dX5_init_198 : decode cX5_init 198 = .ok (.bipush 20, 2) := by decide +kernel
theorem dX5_init_200 : decode cX5_init 200 = .ok (.bipush 114, 2) := by decide +kernel
theorem dX5_init_202 : decode cX5_init 202 = .ok (.iastore, 1) := by decide +kernel
theorem dX5_init_203 : decode cX5_init 203 = .ok (.dup, 1) := by decide +kernel
theorem dX5_init_204 : decode cX5_init 204 = .ok (.bipush 21, 2) := by decide +kernel
theorem dX5_init_206 : decode cX5_init 206 = .ok (.bipush 97, 2) := by decide +kernel
theorem dX5_init_208 : decode cX5_init 208 = .ok (.iastore, 1) := by decide +kernel
theorem dX5_init_209 : decode cX5_init 209 = .ok (.dup, 1) := by decide +kernel
theorem dX5_init_210 : decode cX5_init 210 = .ok (.bipush 22, 2) := by decide +kernel
theorem dX5_init_212 : decode cX5_init 212 = .ok (.bipush 103, 2) := by decide +kernel
theorem dX5_init_214 : decode cX5_init 214 = .ok (.iastore, 1) := by decide +kernel
theorem dX5_init_215 : decode cX5_init 215 = .ok (.dup, 1) := by decide +kernel
theorem dX5_init_216 : decode cX5_init 216 = .ok (.bipush 23, 2) := by decide +kernel
theorem dX5_init_218 : decode cX5_init 218 = .ok (.bipush 111, 2) := by decide +kernel
theorem dX5_init_220 : decode cX5_init 220 = .ok (.iastore, 1) := by decide +kernel
theorem dX5_init_221 : decode cX5_init 221 = .ok (.dup, 1) := by decide +kernel
theorem dX5_init_222 : decode cX5_init 222 = .ok (.bipush 24, 2) := by decide +kernel
theorem dX5_init_224 : decode cX5_init 224 = .ok (.bipush 110, 2) := by decide +kernel
theorem dX5_init_226 : decode cX5_init 226 = .ok (.iastore, 1) := by decide +kernel
theorem dX5_init_227 : decode cX5_init 227 = .ok (.dup, 1) := by decide +kernel
theorem dX5_init_228 : decode cX5_init 228 = .ok (.bipush 25, 2) := by decide +kernel
theorem dX5_init_230 : decode cX5_init 230 = .ok (.bipush 98, 2) := by decide +kernel
theorem dX5_init_232 : decode cX5_init 232 = .ok (.iastore, 1) := by decide +kernel
theorem dX5_init_233 : decode cX5_init 233 = .ok (.dup, 1) := by decide +kernel
theorem dX5_init_234 : decode cX5_init 234 = .ok (.bipush 26, 2) := by decide +kernel
theorem dX5_init_236 : decode cX5_init 236 = .ok (.bipush 97, 2) := by decide +kernel
theorem dX5_init_238 : decode cX5_init 238 = .ok (.iastore, 1) := by decide +kernel
theorem dX5_init_239 : decode cX5_init 239 = .ok (.dup, 1) := by decide +kernel
theorem dX5_init_240 : decode cX5_init 240 = .ok (.bipush 27, 2) := by decide +kernel
theorem dX5_init_242 : decode cX5_init 242 = .ok (.bipush 99, 2) := by decide +kernel
theorem dX5_init_244 : decode cX5_init 244 = .ok (.iastore, 1) := by decide +kernel
theorem dX5_init_245 : decode cX5_init 245 = .ok (.dup, 1) := by decide +kernel
theorem dX5_init_246 : decode cX5_init 246 = .ok (.bipush 28, 2) := by decide +kernel
theorem dX5_init_248 : decode cX5_init 248 = .ok (.bipush 107, 2) := by decide +kernel
theorem dX5_init_250 : decode cX5_init 250 = .ok (.iastore, 1) := by decide +kernel
theorem dX5_init_251 : decode cX5_init 251 = .ok (.putfield 22, 3) := by decide +kernel
theorem dX5_init_254 : decode cX5_init 254 = .ok (.aload_n 0, 1) := by decide +kernel
theorem dX5_init_255 : decode cX5_init 255 = .ok (.iconst 4, 1) := by decide +kernel
theorem dX5_init_256 : decode cX5_init 256 = .ok (.newarray .int, 2) := by decide +kernel
theorem dX5_init_258 : decode cX5_init 258 = .ok (.putfield 25, 3) := by decide +kernel
theorem dX5_init_261 : decode cX5_init 261 = .ok (.aload_n 0, 1) := by decide +kernel
theorem dX5_init_262 : decode cX5_init 262 = .ok (.bipush (-4), 2) := by decide +kernel
theorem dX5_init_264 : decode cX5_init 264 = .ok (.putfield 28, 3) := by decide +kernel
theorem dX5_init_267 : decode cX5_init 267 = .ok (.aload_n 0, 1) := by decide +kernel
theorem dX5_init_268 : decode cX5_init 268 = .ok (.bipush 18, 2) := by decide +kernel
theorem dX5_init_270 : decode cX5_init 270 = .ok (.newarray .int, 2) := by decide +kernel
theorem dX5_init_272 : decode cX5_init 272 = .ok (.putfield 32, 3) := by decide +kernel
theorem dX5_init_275 : decode cX5_init 275 = .ok (.aload_n 0, 1) := by decide +kernel
theorem dX5_init_276 : decode cX5_init 276 = .ok (.sipush 410, 3) := by decide +kernel
theorem dX5_init_279 : decode cX5_init 279 = .ok (.newarray .int, 2) := by decide +kernel
theorem dX5_init_281 : decode cX5_init 281 = .ok (.putfield 35, 3) := by decide +kernel
theorem dX5_init_284 : decode cX5_init 284 = .ok (.aload_n 0, 1) := by decide +kernel
theorem dX5_init_285 : decode cX5_init 285 = .ok (.iconst 2, 1) := by decide +kernel
theorem dX5_init_286 : decode cX5_init 286 = .ok (.newarray .boolean, 2) := by decide +kernel
theorem dX5_init_288 : decode cX5_init 288 = .ok (.putfield 38, 3) := by decide +kernel
theorem dX5_init_291 : decode cX5_init 291 = .ok (.aload_n 0, 1) := by decide +kernel
theorem dX5_init_292 : decode cX5_init 292 = .ok (.iconst 4, 1) := by decide +kernel
theorem dX5_init_293 : decode cX5_init 293 = .ok (.newarray .int, 2) := by decide +kernel
theorem dX5_init_295 : decode cX5_init 295 = .ok (.dup, 1) := by decide +kernel
theorem dX5_init_296 : decode cX5_init 296 = .ok (.iconst 0, 1) := by decide +kernel
theorem dX5_init_297 : decode cX5_init 297 = .ok (.bipush (-4), 2) := by decide +kernel
theorem dX5_init_299 : decode cX5_init 299 = .ok (.iastore, 1) := by decide +kernel
theorem dX5_init_300 : decode cX5_init 300 = .ok (.dup, 1) := by decide +kernel
theorem dX5_init_301 : decode cX5_init 301 = .ok (.iconst 1, 1) := by decide +kernel
theorem dX5_init_302 : decode cX5_init 302 = .ok (.bipush (-4), 2) := by decide +kernel
theorem dX5_init_304 : decode cX5_init 304 = .ok (.iastore, 1) := by decide +kernel
theorem dX5_init_305 : decode cX5_init 305 = .ok (.dup, 1) := by decide +kernel
theorem dX5_init_306 : decode cX5_init 306 = .ok (.iconst 2, 1) := by decide +kernel
theorem dX5_init_307 : decode cX5_init 307 = .ok (.bipush (-4), 2) := by decide +kernel
theorem dX5_init_309 : decode cX5_init 309 = .ok (.iastore, 1) := by decide +kernel
theorem dX5_init_310 : decode cX5_init 310 = .ok (.dup, 1) := by decide +kernel
theorem dX5_init_311 : decode cX5_init 311 = .ok (.iconst 3, 1) := by decide +kernel
theorem dX5_init_312 : decode cX5_init 312 = .ok (.bipush (-4), 2) := by decide +kernel
theorem dX5_init_314 : decode cX5_init 314 = .ok (.iastore, 1) := by decide +kernel
theorem dX5_init_315 : decode cX5_init 315 = .ok (.putfield 42, 3) := by decide +kernel
theorem dX5_init_318 : decode cX5_init 318 = .ok (.aload_n 0, 1) := by decide +kernel
theorem dX5_init_319 : decode cX5_init 319 = .ok (.iconst 4, 1) := by decide +kernel
theorem dX5_init_320 : decode cX5_init 320 = .ok (.newarray .int, 2) := by decide +kernel
theorem dX5_init_322 : decode cX5_init 322 = .ok (.putfield 45, 3) := by decide +kernel
theorem dX5_init_325 : decode cX5_init 325 = .ok (.aload_n 0, 1) := by decide +kernel
theorem dX5_init_326 : decode cX5_init 326 = .ok (.sipush 160, 3) := by decide +kernel
theorem dX5_init_329 : decode cX5_init 329 = .ok (.newarray .int, 2) := by decide +kernel
theorem dX5_init_331 : decode cX5_init 331 = .ok (.putfield 48, 3) := by decide +kernel
theorem dX5_init_334 : decode cX5_init 334 = .ok (.return_, 1) := by decide +kernel
theorem dL_law_0 : decode cL_law 0 = .ok (.new 7, 3) := by decide +kernel
theorem dL_law_3 : decode cL_law 3 = .ok (.dup, 1) := by decide +kernel
theorem dL_law_4 : decode cL_law 4 = .ok (.invokespecial 9, 3) := by decide +kernel
theorem dL_law_7 : decode cL_law 7 = .ok (.astore_n 1, 1) := by decide +kernel
theorem dL_law_8 : decode cL_law 8 = .ok (.new 10, 3) := by decide +kernel
theorem dL_law_11 : decode cL_law 11 = .ok (.dup, 1) := by decide +kernel
theorem dL_law_12 : decode cL_law 12 = .ok (.invokespecial 12, 3) := by decide +kernel
theorem dL_law_15 : decode cL_law 15 = .ok (.astore_n 2, 1) := by decide +kernel
theorem tw_0 : Cond.initialized RL ∈ pm_tbl := pm_tab (List.mem_of_getElem? (i := 0) (by decide +kernel)) rfl
theorem tw_1 : Cond.initialized RX4 ∈ pm_tbl := pm_tab (List.mem_of_getElem? (i := 1) (by decide +kernel)) rfl
theorem tw_2 : Cond.initialized RX0 ∈ pm_tbl := pm_tab (List.mem_of_getElem? (i := 2) (by decide +kernel)) rfl
theorem tw_3 : Cond.initialized RX3 ∈ pm_tbl := pm_tab (List.mem_of_getElem? (i := 3) (by decide +kernel)) rfl
theorem tw_4 : Cond.initialized RX1 ∈ pm_tbl := pm_tab (List.mem_of_getElem? (i := 4) (by decide +kernel)) rfl
theorem tw_5 : Cond.initialized RX2 ∈ pm_tbl := pm_tab (List.mem_of_getElem? (i := 5) (by decide +kernel)) rfl
theorem tw_6 : Cond.initialized RX5 ∈ pm_tbl := pm_tab (List.mem_of_getElem? (i := 6) (by decide +kernel)) rfl
theorem tw_7 : Cond.initialized RJ9 ∈ pm_tbl := pm_tab (List.mem_of_getElem? (i := 7) (by decide +kernel)) rfl
theorem tw_8 : Cond.initialized RJ0 ∈ pm_tbl := pm_tab (List.mem_of_getElem? (i := 8) (by decide +kernel)) rfl
theorem tw_9 : Cond.initialized RJ1 ∈ pm_tbl := pm_tab (List.mem_of_getElem? (i := 9) (by decide +kernel)) rfl
theorem tw_10 : Cond.initialized RJ3 ∈ pm_tbl := pm_tab (List.mem_of_getElem? (i := 10) (by decide +kernel)) rfl
theorem tw_11 : Cond.initialized RJ2 ∈ pm_tbl := pm_tab (List.mem_of_getElem? (i := 11) (by decide +kernel)) rfl
theorem tw_12 : Cond.initialized RJ6 ∈ pm_tbl := pm_tab (List.mem_of_getElem? (i := 12) (by decide +kernel)) rfl
theorem tw_15 : Cond.methodLink RL 9 yX4_init ∈ pm_tbl := pm_tab (List.mem_of_getElem? (i := 15) (by decide +kernel)) rfl
theorem tw_16 : Cond.instanceMethod yX4_init ∈ pm_tbl := pm_tab (List.mem_of_getElem? (i := 16) (by decide +kernel)) rfl
theorem tw_17 : Cond.code yX4_init prog_1_method_1_code 1 none ∈ pm_tbl := pm_tab (List.mem_of_getElem? (i := 17) (by decide +kernel)) rfl
theorem tw_18 : Cond.methodLink RX4 3 objectInit ∈ pm_tbl := pm_tab (List.mem_of_getElem? (i := 18) (by decide +kernel)) rfl
theorem tw_19 : Cond.instanceMethod objectInit ∈ pm_tbl := pm_tab (List.mem_of_getElem? (i := 19) (by decide +kernel)) rfl
theorem tw_20 : Cond.code objectInit object_method_1_code 1 none ∈ pm_tbl := pm_tab (List.mem_of_getElem? (i := 20) (by decide +kernel)) rfl
theorem tw_24 : Cond.instanceMethod yX0_init ∈ pm_tbl := pm_tab (List.mem_of_getElem? (i := 24) (by decide +kernel)) rfl
theorem tw_25 : Cond.code yX0_init prog_2_method_1_code 1 none ∈ pm_tbl := pm_tab (List.mem_of_getElem? (i := 25) (by decide +kernel)) rfl
theorem tw_26 : Cond.methodLink RX0 3 objectInit ∈ pm_tbl := pm_tab (List.mem_of_getElem? (i := 26) (by decide +kernel)) rfl
theorem tw_95 : Cond.instanceMethod yX3_init ∈ pm_tbl := pm_tab (List.mem_of_getElem? (i := 95) (by decide +kernel)) rfl
theorem tw_96 : Cond.code yX3_init prog_5_method_1_code 1 none ∈ pm_tbl := pm_tab (List.mem_of_getElem? (i := 96) (by decide +kernel)) rfl
theorem tw_97 : Cond.methodLink RX3 3 objectInit ∈ pm_tbl := pm_tab (List.mem_of_getElem? (i := 97) (by decide +kernel)) rfl
theorem tw_131 : Cond.instanceMethod yX1_init ∈ pm_tbl := pm_tab (List.mem_of_getElem? (i := 131) (by decide +kernel)) rfl
theorem tw_132 : Cond.code yX1_init prog_3_method_1_code 1 none ∈ pm_tbl := pm_tab (List.mem_of_getElem? (i := 132) (by decide +kernel)) rfl
theorem tw_133 : Cond.methodLink RX1 3 objectInit ∈ pm_tbl := pm_tab (List.mem_of_getElem? (i := 133) (by decide +kernel)) rfl
theorem tw_151 : Cond.instanceMethod yX2_init ∈ pm_tbl := pm_tab (List.mem_of_getElem? (i := 151) (by decide +kernel)) rfl
theorem tw_152 : Cond.code yX2_init prog_4_method_1_code 1 none ∈ pm_tbl := pm_tab (List.mem_of_getElem? (i := 152) (by decide +kernel)) rfl
theorem tw_153 : Cond.methodLink RX2 3 objectInit ∈ pm_tbl := pm_tab (List.mem_of_getElem? (i := 153) (by decide +kernel)) rfl
theorem tw_250 : Cond.methodLink RX3 116 yX3_wordOf ∈ pm_tbl := pm_tab (List.mem_of_getElem? (i := 250) (by decide +kernel)) rfl
theorem tw_251 : Cond.static yX3_wordOf ∈ pm_tbl := pm_tab (List.mem_of_getElem? (i := 251) (by decide +kernel)) rfl
theorem tw_252 : Cond.code yX3_wordOf prog_5_method_15_code 1 (some (.object "java/lang/String")) ∈ pm_tbl := pm_tab (List.mem_of_getElem? (i := 252) (by decide +kernel)) rfl
theorem tw_260 : Cond.methodLink RX3 120 yX3_isSpelt ∈ pm_tbl := pm_tab (List.mem_of_getElem? (i := 260) (by decide +kernel)) rfl
theorem tw_262 : Cond.instanceMethod yX3_isSpelt ∈ pm_tbl := pm_tab (List.mem_of_getElem? (i := 262) (by decide +kernel)) rfl
theorem tw_263 : Cond.code yX3_isSpelt prog_5_method_16_code 3 (some .boolean) ∈ pm_tbl := pm_tab (List.mem_of_getElem? (i := 263) (by decide +kernel)) rfl
theorem tw_264 : Cond.methodLink RX3 137 yJ0_length_8abf5 ∈ pm_tbl := pm_tab (List.mem_of_getElem? (i := 264) (by decide +kernel)) rfl
theorem tw_265 : Cond.instanceMethod yJ0_length_8abf5 ∈ pm_tbl := pm_tab (List.mem_of_getElem? (i := 265) (by decide +kernel)) rfl
theorem tw_266 : Cond.selects RJ0 yJ0_length_8abf5 yJ0_length_8abf5 ∈ pm_tbl := pm_tab (List.mem_of_getElem? (i := 266) (by decide +kernel)) rfl
theorem tw_267 : Cond.code yJ0_length_8abf5 prog_10_method_54_code 1 (some .int) ∈ pm_tbl := pm_tab (List.mem_of_getElem? (i := 267) (by decide +kernel)) rfl
theorem tw_268 : Cond.methodLink RJ0 335 yJ0_coder_7d493 ∈ pm_tbl := pm_tab (List.mem_of_getElem? (i := 268) (by decide +kernel)) rfl
theorem tw_269 : Cond.instanceMethod yJ0_coder_7d493 ∈ pm_tbl := pm_tab (List.mem_of_getElem? (i := 269) (by decide +kernel)) rfl
theorem tw_270 : Cond.selects RJ0 yJ0_coder_7d493 yJ0_coder_7d493 ∈ pm_tbl := pm_tab (List.mem_of_getElem? (i := 270) (by decide +kernel)) rfl
theorem tw_271 : Cond.code yJ0_coder_7d493 prog_10_method_152_code 1 (some .byte) ∈ pm_tbl := pm_tab (List.mem_of_getElem? (i := 271) (by decide +kernel)) rfl
theorem tw_272 : Cond.fieldLink RJ0 38 "java/lang/String" "COMPACT_STRINGS" "Z" ∈ pm_tbl := pm_tab (List.mem_of_getElem? (i := 272) (by decide +kernel)) rfl
theorem tw_274 : Cond.methodLink RX3 141 yJ0_charAt_5068e ∈ pm_tbl := pm_tab (List.mem_of_getElem? (i := 274) (by decide +kernel)) rfl
theorem tw_275 : Cond.instanceMethod yJ0_charAt_5068e ∈ pm_tbl := pm_tab (List.mem_of_getElem? (i := 275) (by decide +kernel)) rfl
theorem tw_276 : Cond.selects RJ0 yJ0_charAt_5068e yJ0_charAt_5068e ∈ pm_tbl := pm_tab (List.mem_of_getElem? (i := 276) (by decide +kernel)) rfl
theorem tw_277 : Cond.code yJ0_charAt_5068e prog_10_method_56_code 2 (some .char) ∈ pm_tbl := pm_tab (List.mem_of_getElem? (i := 277) (by decide +kernel)) rfl
theorem tw_278 : Cond.methodLink RJ0 492 yJ0_isLatin1_aae02 ∈ pm_tbl := pm_tab (List.mem_of_getElem? (i := 278) (by decide +kernel)) rfl
theorem tw_279 : Cond.instanceMethod yJ0_isLatin1_aae02 ∈ pm_tbl := pm_tab (List.mem_of_getElem? (i := 279) (by decide +kernel)) rfl
theorem tw_280 : Cond.selects RJ0 yJ0_isLatin1_aae02 yJ0_isLatin1_aae02 ∈ pm_tbl := pm_tab (List.mem_of_getElem? (i := 280) (by decide +kernel)) rfl
theorem tw_281 : Cond.code yJ0_isLatin1_aae02 prog_10_method_154_code 1 (some .boolean) ∈ pm_tbl := pm_tab (List.mem_of_getElem? (i := 281) (by decide +kernel)) rfl
theorem tw_282 : Cond.methodLink RJ0 495 yJ1_charAt_3b067 ∈ pm_tbl := pm_tab (List.mem_of_getElem? (i := 282) (by decide +kernel)) rfl
theorem tw_283 : Cond.static yJ1_charAt_3b067 ∈ pm_tbl := pm_tab (List.mem_of_getElem? (i := 283) (by decide +kernel)) rfl
theorem tw_284 : Cond.code yJ1_charAt_3b067 prog_11_method_2_code 2 (some .char) ∈ pm_tbl := pm_tab (List.mem_of_getElem? (i := 284) (by decide +kernel)) rfl
theorem tw_285 : Cond.methodLink RJ1 9 yJ0_checkIndex_df160 ∈ pm_tbl := pm_tab (List.mem_of_getElem? (i := 285) (by decide +kernel)) rfl
theorem tw_286 : Cond.static yJ0_checkIndex_df160 ∈ pm_tbl := pm_tab (List.mem_of_getElem? (i := 286) (by decide +kernel)) rfl
theorem tw_287 : Cond.code yJ0_checkIndex_df160 prog_10_method_155_code 2 none ∈ pm_tbl := pm_tab (List.mem_of_getElem? (i := 287) (by decide +kernel)) rfl
theorem tw_288 : Cond.fieldLink RJ0 1053 "jdk/internal/util/Preconditions" "SIOOBE_FORMATTER" "Ljava/util/function/BiFunction;" ∈ pm_tbl := pm_tab (List.mem_of_getElem? (i := 288) (by decide +kernel)) rfl
theorem tw_290 : Cond.methodLink RJ0 1059 yJ3_checkIndex_8e157 ∈ pm_tbl := pm_tab (List.mem_of_getElem? (i := 290) (by decide +kernel)) rfl
theorem tw_291 : Cond.static yJ3_checkIndex_8e157 ∈ pm_tbl := pm_tab (List.mem_of_getElem? (i := 291) (by decide +kernel)) rfl
theorem tw_292 : Cond.code yJ3_checkIndex_8e157 prog_13_method_11_code 3 (some .int) ∈ pm_tbl := pm_tab (List.mem_of_getElem? (i := 292) (by decide +kernel)) rfl
theorem tw_700 : Cond.methodLink RL 12 yX5_init ∈ pm_tbl := pm_tab (List.mem_of_getElem? (i := 700) (by decide +kernel)) rfl
theorem tw_701 : Cond.instanceMethod yX5_init ∈ pm_tbl := pm_tab (List.mem_of_getElem? (i := 701) (by decide +kernel)) rfl
theorem tw_702 : Cond.code yX5_init prog_7_method_1_code 1 none ∈ pm_tbl := pm_tab (List.mem_of_getElem? (i := 702) (by decide +kernel)) rfl
theorem tw_703 : Cond.methodLink RX5 1 objectInit ∈ pm_tbl := pm_tab (List.mem_of_getElem? (i := 703) (by decide +kernel)) rfl
theorem tw_1104 : Cond.fieldLink RJ0 9 "java/lang/String" "value" "[B" ∈ pm_tbl := pm_tab (List.mem_of_getElem? (i := 1104) (by decide +kernel)) rfl
theorem tw_1105 : Cond.fieldLink RJ0 15 "java/lang/String" "coder" "B" ∈ pm_tbl := pm_tab (List.mem_of_getElem? (i := 1105) (by decide +kernel)) rfl
