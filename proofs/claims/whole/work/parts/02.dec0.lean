theorem dX0_init_0 : decode cX0_init 0 = .ok (.aload_n 0, 1) := by decide +kernel
theorem dX0_init_1 : decode cX0_init 1 = .ok (.invokespecial 3, 3) := by decide +kernel
theorem dX0_init_4 : decode cX0_init 4 = .ok (.aload_n 0, 1) := by decide +kernel
theorem dX0_init_5 : decode cX0_init 5 = .ok (.iconst 4, 1) := by decide +kernel
theorem dX0_init_6 : decode cX0_init 6 = .ok (.newarray .int, 2) := by decide +kernel
theorem dX0_init_8 : decode cX0_init 8 = .ok (.putfield 9, 3) := by decide +kernel
theorem dX0_init_11 : decode cX0_init 11 = .ok (.aload_n 0, 1) := by decide +kernel
theorem dX0_init_12 : decode cX0_init 12 = .ok (.iconst 4, 1) := by decide +kernel
theorem dX0_init_13 : decode cX0_init 13 = .ok (.newarray .int, 2) := by decide +kernel
theorem dX0_init_15 : decode cX0_init 15 = .ok (.putfield 15, 3) := by decide +kernel
theorem dX0_init_18 : decode cX0_init 18 = .ok (.aload_n 0, 1) := by decide +kernel
theorem dX0_init_19 : decode cX0_init 19 = .ok (.iconst 4, 1) := by decide +kernel
theorem dX0_init_20 : decode cX0_init 20 = .ok (.newarray .int, 2) := by decide +kernel
theorem dX0_init_22 : decode cX0_init 22 = .ok (.putfield 18, 3) := by decide +kernel
theorem dX0_init_25 : decode cX0_init 25 = .ok (.aload_n 0, 1) := by decide +kernel
theorem dX0_init_26 : decode cX0_init 26 = .ok (.iconst 4, 1) := by decide +kernel
theorem dX0_init_27 : decode cX0_init 27 = .ok (.newarray .int, 2) := by decide +kernel
theorem dX0_init_29 : decode cX0_init 29 = .ok (.putfield 21, 3) := by decide +kernel
theorem dX0_init_32 : decode cX0_init 32 = .ok (.aload_n 0, 1) := by decide +kernel
theorem dX0_init_33 : decode cX0_init 33 = .ok (.iconst 4, 1) := by decide +kernel
theorem dX0_init_34 : decode cX0_init 34 = .ok (.newarray .int, 2) := by decide +kernel
theorem dX0_init_36 : decode cX0_init 36 = .ok (.putfield 24, 3) := by decide +kernel
theorem dX0_init_39 : decode cX0_init 39 = .ok (.aload_n 0, 1) := by decide +kernel
theorem dX0_init_40 : decode cX0_init 40 = .ok (.iconst 4, 1) := by decide +kernel
theorem dX0_init_41 : decode cX0_init 41 = .ok (.newarray .int, 2) := by decide +kernel
theorem dX0_init_43 : decode cX0_init 43 = .ok (.putfield 27, 3) := by decide +kernel
theorem dX0_init_46 : decode cX0_init 46 = .ok (.aload_n 0, 1) := by decide +kernel
theorem dX0_init_47 : decode cX0_init 47 = .ok (.bipush 12, 2) := by decide +kernel
theorem dX0_init_49 : decode cX0_init 49 = .ok (.newarray .int, 2) := by decide +kernel
theorem dX0_init_51 : decode cX0_init 51 = .ok (.putfield 30, 3) := by decide +kernel
theorem dX0_init_54 : decode cX0_init 54 = .ok (.aload_n 0, 1) := by decide +kernel
theorem dX0_init_55 : decode cX0_init 55 = .ok (.bipush 12, 2) := by decide +kernel
theorem dX0_init_57 : decode cX0_init 57 = .ok (.newarray .int, 2) := by decide +kernel
theorem dX0_init_59 : decode cX0_init 59 = .ok (.putfield 33, 3) := by decide +kernel
theorem dX0_init_62 : decode cX0_init 62 = .ok (.aload_n 0, 1) := by decide +kernel
theorem dX0_init_63 : decode cX0_init 63 = .ok (.iconst 5, 1) := by decide +kernel
theorem dX0_init_64 : decode cX0_init 64 = .ok (.newarray .int, 2) := by decide +kernel
theorem dX0_init_66 : decode cX0_init 66 = .ok (.putfield 36, 3) := by decide +kernel
theorem dX0_init_69 : decode cX0_init 69 = .ok (.return_, 1) := by decide +kernel
theorem dX0_clear_0 : decode cX0_clear 0 = .ok (.aload_n 0, 1) := by decide +kernel
theorem dX0_clear_1 : decode cX0_clear 1 = .ok (.iconst 0, 1) := by decide +kernel
theorem dX0_clear_2 : decode cX0_clear 2 = .ok (.putfield 39, 3) := by decide +kernel
theorem dX0_clear_5 : decode cX0_clear 5 = .ok (.aload_n 0, 1) := by decide +kernel
theorem dX0_clear_6 : decode cX0_clear 6 = .ok (.iconst 0, 1) := by decide +kernel
theorem dX0_clear_7 : decode cX0_clear 7 = .ok (.putfield 43, 3) := by decide +kernel
theorem dX0_clear_10 : decode cX0_clear 10 = .ok (.aload_n 0, 1) := by decide +kernel
theorem dX0_clear_11 : decode cX0_clear 11 = .ok (.iconst 0, 1) := by decide +kernel
theorem dX0_clear_12 : decode cX0_clear 12 = .ok (.putfield 46, 3) := by decide +kernel
theorem dX0_clear_15 : decode cX0_clear 15 = .ok (.aload_n 0, 1) := by decide +kernel
theorem dX0_clear_16 : decode cX0_clear 16 = .ok (.iconst 0, 1) := by decide +kernel
theorem dX0_clear_17 : decode cX0_clear 17 = .ok (.putfield 49, 3) := by decide +kernel
theorem dX0_clear_20 : decode cX0_clear 20 = .ok (.return_, 1) := by decide +kernel
theorem dX0_becomeLike_0 : decode cX0_becomeLike 0 = .ok (.aload_n 0, 1) := by decide +kernel
theorem dX0_becomeLike_1 : decode cX0_becomeLike 1 = .ok (.aload_n 1, 1) := by decide +kernel
theorem dX0_becomeLike_2 : decode cX0_becomeLike 2 = .ok (.getfield 39, 3) := by decide +kernel
theorem dX0_becomeLike_5 : decode cX0_becomeLike 5 = .ok (.putfield 39, 3) := by decide +kernel
theorem dX0_becomeLike_8 : decode cX0_becomeLike 8 = .ok (.aload_n 0, 1) := by decide +kernel
theorem dX0_becomeLike_9 : decode cX0_becomeLike 9 = .ok (.aload_n 1, 1) := by decide +kernel
theorem dX0_becomeLike_10 : decode cX0_becomeLike 10 = .ok (.getfield 43, 3) := by decide +kernel
theorem dX0_becomeLike_13 : decode cX0_becomeLike 13 = .ok (.putfield 43, 3) := by decide +kernel
theorem dX0_becomeLike_16 : decode cX0_becomeLike 16 = .ok (.aload_n 0, 1) := by decide +kernel
theorem dX0_becomeLike_17 : decode cX0_becomeLike 17 = .ok (.aload_n 1, 1) := by decide +kernel
theorem dX0_becomeLike_18 : decode cX0_becomeLike 18 = .ok (.getfield 46, 3) := by decide +kernel
theorem dX0_becomeLike_21 : decode cX0_becomeLike 21 = .ok (.putfield 46, 3) := by decide +kernel
theorem dX0_becomeLike_24 : decode cX0_becomeLike 24 = .ok (.aload_n 0, 1) := by decide +kernel
theorem dX0_becomeLike_25 : decode cX0_becomeLike 25 = .ok (.aload_n 1, 1) := by decide +kernel
theorem dX0_becomeLike_26 : decode cX0_becomeLike 26 = .ok (.getfield 49, 3) := by decide +kernel
theorem dX0_becomeLike_29 : decode cX0_becomeLike 29 = .ok (.putfield 49, 3) := by decide +kernel
theorem dX0_becomeLike_32 : decode cX0_becomeLike 32 = .ok (.aload_n 0, 1) := by decide +kernel
theorem dX0_becomeLike_33 : decode cX0_becomeLike 33 = .ok (.iconst 0, 1) := by decide +kernel
theorem dX0_becomeLike_34 : decode cX0_becomeLike 34 = .ok (.putfield 52, 3) := by decide +kernel
theorem dX0_becomeLike_37 : decode cX0_becomeLike 37 = .ok (.aload_n 0, 1) := by decide +kernel
theorem dX0_becomeLike_38 : decode cX0_becomeLike 38 = .ok (.iconst 0, 1) := by decide +kernel
theorem dX0_becomeLike_39 : decode cX0_becomeLike 39 = .ok (.putfield 55, 3) := by decide +kernel
theorem dX0_becomeLike_42 : decode cX0_becomeLike 42 = .ok (.iconst 0, 1) := by decide +kernel
theorem dX0_becomeLike_43 : decode cX0_becomeLike 43 = .ok (.istore_n 2, 1) := by decide +kernel
theorem dX0_becomeLike_44 : decode cX0_becomeLike 44 = .ok (.iload_n 2, 1) := by decide +kernel
theorem dX0_becomeLike_45 : decode cX0_becomeLike 45 = .ok (.iconst 4, 1) := by decide +kernel
theorem dX0_becomeLike_46 : decode cX0_becomeLike 46 = .ok (.if_icmp .ge 81, 3) := by decide +kernel
theorem dX0_becomeLike_49 : decode cX0_becomeLike 49 = .ok (.aload_n 0, 1) := by decide +kernel
theorem dX0_becomeLike_50 : decode cX0_becomeLike 50 = .ok (.getfield 9, 3) := by decide +kernel
theorem dX0_becomeLike_53 : decode cX0_becomeLike 53 = .ok (.iload_n 2, 1) := by decide +kernel
theorem dX0_becomeLike_54 : decode cX0_becomeLike 54 = .ok (.aload_n 1, 1) := by decide +kernel
theorem dX0_becomeLike_55 : decode cX0_becomeLike 55 = .ok (.getfield 9, 3) := by decide +kernel
theorem dX0_becomeLike_58 : decode cX0_becomeLike 58 = .ok (.iload_n 2, 1) := by decide +kernel
theorem dX0_becomeLike_59 : decode cX0_becomeLike 59 = .ok (.iaload, 1) := by decide +kernel
theorem dX0_becomeLike_60 : decode cX0_becomeLike 60 = .ok (.iastore, 1) := by decide +kernel
theorem dX0_becomeLike_61 : decode cX0_becomeLike 61 = .ok (.aload_n 0, 1) := by decide +kernel
theorem dX0_becomeLike_62 : decode cX0_becomeLike 62 = .ok (.getfield 15, 3) := by decide +kernel
theorem dX0_becomeLike_65 : decode cX0_becomeLike 65 = .ok (.iload_n 2, 1) := by decide +kernel
theorem dX0_becomeLike_66 : decode cX0_becomeLike 66 = .ok (.aload_n 1, 1) := by decide +kernel
theorem dX0_becomeLike_67 : decode cX0_becomeLike 67 = .ok (.getfield 15, 3) := by decide +kernel
theorem dX0_becomeLike_70 : decode cX0_becomeLike 70 = .ok (.iload_n 2, 1) := by decide +kernel
theorem dX0_becomeLike_71 : decode cX0_becomeLike 71 = .ok (.iaload, 1) := by decide +kernel
theorem dX0_becomeLike_72 : decode cX0_becomeLike 72 = .ok (.iastore, 1) := by decide +kernel
theorem dX0_becomeLike_73 : decode cX0_becomeLike 73 = .ok (.aload_n 0, 1) := by decide +kernel
theorem dX0_becomeLike_74 : decode cX0_becomeLike 74 = .ok (.getfield 18, 3) := by decide +kernel
theorem dX0_becomeLike_77 : decode cX0_becomeLike 77 = .ok (.iload_n 2, 1) := by decide +kernel
theorem dX0_becomeLike_78 : decode cX0_becomeLike 78 = .ok (.aload_n 1, 1) := by decide +kernel
theorem dX0_becomeLike_79 : decode cX0_becomeLike 79 = .ok (.getfield 18, 3) := by decide +kernel
theorem dX0_becomeLike_82 : decode cX0_becomeLike 82 = .ok (.iload_n 2, 1) := by decide +kernel
theorem dX0_becomeLike_83 : decode cX0_becomeLike 83 = .ok (.iaload, 1) := by decide +kernel
theorem dX0_becomeLike_84 : decode cX0_becomeLike 84 = .ok (.iastore, 1) := by decide +kernel
theorem dX0_becomeLike_85 : decode cX0_becomeLike 85 = .ok (.aload_n 0, 1) := by decide +kernel
theorem dX0_becomeLike_86 : decode cX0_becomeLike 86 = .ok (.getfield 21, 3) := by decide +kernel
theorem dX0_becomeLike_89 : decode cX0_becomeLike 89 = .ok (.iload_n 2, 1) := by decide +kernel
theorem dX0_becomeLike_90 : decode cX0_becomeLike 90 = .ok (.aload_n 1, 1) := by decide +kernel
theorem dX0_becomeLike_91 : decode cX0_becomeLike 91 = .ok (.getfield 21, 3) := by decide +kernel
theorem dX0_becomeLike_94 : decode cX0_becomeLike 94 = .ok (.iload_n 2, 1) := by decide +kernel
theorem dX0_becomeLike_95 : decode cX0_becomeLike 95 = .ok (.iaload, 1) := by decide +kernel
theorem dX0_becomeLike_96 : decode cX0_becomeLike 96 = .ok (.iastore, 1) := by decide +kernel
theorem dX0_becomeLike_97 : decode cX0_becomeLike 97 = .ok (.aload_n 0, 1) := by decide +kernel
theorem dX0_becomeLike_98 : decode cX0_becomeLike 98 = .ok (.getfield 24, 3) := by decide +kernel
theorem dX0_becomeLike_101 : decode cX0_becomeLike 101 = .ok (.iload_n 2, 1) := by decide +kernel
theorem dX0_becomeLike_102 : decode cX0_becomeLike 102 = .ok (.aload_n 1, 1) := by decide +kernel
theorem dX0_becomeLike_103 : decode cX0_becomeLike 103 = .ok (.getfield 24, 3) := by decide +kernel
theorem dX0_becomeLike_106 : decode cX0_becomeLike 106 = .ok (.iload_n 2, 1) := by decide +kernel
theorem dX0_becomeLike_107 : decode cX0_becomeLike 107 = .ok (.iaload, 1) := by decide +kernel
theorem dX0_becomeLike_108 : decode cX0_becomeLike 108 = .ok (.iastore, 1) := by decide +kernel
theorem dX0_becomeLike_109 : decode cX0_becomeLike 109 = .ok (.aload_n 0, 1) := by decide +kernel
theorem dX0_becomeLike_110 : decode cX0_becomeLike 110 = .ok (.getfield 27, 3) := by decide +kernel
theorem dX0_becomeLike_113 : decode cX0_becomeLike 113 = .ok (.iload_n 2, 1) := by decide +kernel
theorem dX0_becomeLike_114 : decode cX0_becomeLike 114 = .ok (.aload_n 1, 1) := by decide +kernel
theorem dX0_becomeLike_115 : decode cX0_becomeLike 115 = .ok (.getfield 27, 3) := by decide +kernel
theorem dX0_becomeLike_118 : decode cX0_becomeLike 118 = .ok (.iload_n 2, 1) := by decide +kernel
theorem dX0_becomeLike_119 : decode cX0_becomeLike 119 = .ok (.iaload, 1) := by decide +kernel
theorem dX0_becomeLike_120 : decode cX0_becomeLike 120 = .ok (.iastore, 1) := by decide +kernel
theorem dX0_becomeLike_121 : decode cX0_becomeLike 121 = .ok (.iinc 2 1, 3) := by decide +kernel
theorem dX0_becomeLike_124 : decode cX0_becomeLike 124 = .ok (.goto (-80), 3) := by decide +kernel
theorem dX0_becomeLike_127 : decode cX0_becomeLike 127 = .ok (.iconst 0, 1) := by decide +kernel
theorem dX0_becomeLike_128 : decode cX0_becomeLike 128 = .ok (.istore_n 2, 1) := by decide +kernel
theorem dX0_becomeLike_129 : decode cX0_becomeLike 129 = .ok (.iload_n 2, 1) := by decide +kernel
theorem dX0_becomeLike_130 : decode cX0_becomeLike 130 = .ok (.bipush 12, 2) := by decide +kernel
theorem dX0_becomeLike_132 : decode cX0_becomeLike 132 = .ok (.if_icmp .ge 33, 3) := by decide +kernel
theorem dX0_becomeLike_135 : decode cX0_becomeLike 135 = .ok (.aload_n 0, 1) := by decide +kernel
theorem dX0_becomeLike_136 : decode cX0_becomeLike 136 = .ok (.getfield 30, 3) := by decide +kernel
theorem dX0_becomeLike_139 : decode cX0_becomeLike 139 = .ok (.iload_n 2, 1) := by decide +kernel
theorem dX0_becomeLike_140 : decode cX0_becomeLike 140 = .ok (.aload_n 1, 1) := by decide +kernel
theorem dX0_becomeLike_141 : decode cX0_becomeLike 141 = .ok (.getfield 30, 3) := by decide +kernel
theorem dX0_becomeLike_144 : decode cX0_becomeLike 144 = .ok (.iload_n 2, 1) := by decide +kernel
theorem dX0_becomeLike_145 : decode cX0_becomeLike 145 = .ok (.iaload, 1) := by decide +kernel
theorem dX0_becomeLike_146 : decode cX0_becomeLike 146 = .ok (.iastore, 1) := by decide +kernel
theorem dX0_becomeLike_147 : decode cX0_becomeLike 147 = .ok (.aload_n 0, 1) := by decide +kernel
theorem dX0_becomeLike_148 : decode cX0_becomeLike 148 = .ok (.getfield 33, 3) := by decide +kernel
theorem dX0_becomeLike_151 : decode cX0_becomeLike 151 = .ok (.iload_n 2, 1) := by decide +kernel
theorem dX0_becomeLike_152 : decode cX0_becomeLike 152 = .ok (.aload_n 1, 1) := by decide +kernel
theorem dX0_becomeLike_153 : decode cX0_becomeLike 153 = .ok (.getfield 33, 3) := by decide +kernel
theorem dX0_becomeLike_156 : decode cX0_becomeLike 156 = .ok (.iload_n 2, 1) := by decide +kernel
theorem dX0_becomeLike_157 : decode cX0_becomeLike 157 = .ok (.iaload, 1) := by decide +kernel
theorem dX0_becomeLike_158 : decode cX0_becomeLike 158 = .ok (.iastore, 1) := by decide +kernel
theorem dX0_becomeLike_159 : decode cX0_becomeLike 159 = .ok (.iinc 2 1, 3) := by decide +kernel
theorem dX0_becomeLike_162 : decode cX0_becomeLike 162 = .ok (.goto (-33), 3) := by decide +kernel
theorem dX0_becomeLike_165 : decode cX0_becomeLike 165 = .ok (.return_, 1) := by decide +kernel
theorem dX0_has_0 : decode cX0_has 0 = .ok (.iload_n 1, 1) := by decide +kernel
theorem dX0_has_1 : decode cX0_has 1 = .ok (.ifCond .lt 15, 3) := by decide +kernel
theorem dX0_has_4 : decode cX0_has 4 = .ok (.iload_n 1, 1) := by decide +kernel
theorem dX0_has_5 : decode cX0_has 5 = .ok (.aload_n 0, 1) := by decide +kernel
theorem dX0_has_6 : decode cX0_has 6 = .ok (.getfield 39, 3) := by decide +kernel
theorem dX0_has_9 : decode cX0_has 9 = .ok (.if_icmp .ge 7, 3) := by decide +kernel
theorem dX0_has_12 : decode cX0_has 12 = .ok (.iconst 1, 1) := by decide +kernel
theorem dX0_has_13 : decode cX0_has 13 = .ok (.goto 4, 3) := by decide +kernel
theorem dX0_has_16 : decode cX0_has 16 = .ok (.iconst 0, 1) := by decide +kernel
theorem dX0_has_17 : decode cX0_has 17 = .ok (.ireturn, 1) := by decide +kernel
theorem dX0_rowOf_0 : decode cX0_rowOf 0 = .ok (.iload_n 1, 1) := by decide +kernel
theorem dX0_rowOf_1 : decode cX0_rowOf 1 = .ok (.tableswitch 51 0 3 #[31, 36, 41, 46], 31) := by decide +kernel
theorem dX0_rowOf_32 : decode cX0_rowOf 32 = .ok (.aload_n 0, 1) := by decide +kernel
theorem dX0_rowOf_33 : decode cX0_rowOf 33 = .ok (.getfield 9, 3) := by decide +kernel
theorem dX0_rowOf_36 : decode cX0_rowOf 36 = .ok (.areturn, 1) := by decide +kernel
theorem dX0_rowOf_37 : decode cX0_rowOf 37 = .ok (.aload_n 0, 1) := by decide +kernel
theorem dX0_rowOf_38 : decode cX0_rowOf 38 = .ok (.getfield 15, 3) := by decide +kernel
theorem dX0_rowOf_41 : decode cX0_rowOf 41 = .ok (.areturn, 1) := by decide +kernel
theorem dX0_rowOf_42 : decode cX0_rowOf 42 = .ok (.aload_n 0, 1) := by decide +kernel
theorem dX0_rowOf_43 : decode cX0_rowOf 43 = .ok (.getfield 18, 3) := by decide +kernel
theorem dX0_rowOf_46 : decode cX0_rowOf 46 = .ok (.areturn, 1) := by decide +kernel
theorem dX0_rowOf_47 : decode cX0_rowOf 47 = .ok (.aload_n 0, 1) := by decide +kernel
theorem dX0_rowOf_48 : decode cX0_rowOf 48 = .ok (.getfield 21, 3) := by decide +kernel
theorem dX0_rowOf_51 : decode cX0_rowOf 51 = .ok (.areturn, 1) := by decide +kernel
theorem dX0_rowOf_52 : decode cX0_rowOf 52 = .ok (.aload_n 0, 1) := by decide +kernel
theorem dX0_rowOf_53 : decode cX0_rowOf 53 = .ok (.getfield 24, 3) := by decide +kernel
theorem dX0_rowOf_56 : decode cX0_rowOf 56 = .ok (.areturn, 1) := by decide +kernel
theorem dX0_sumOf_0 : decode cX0_sumOf 0 = .ok (.aload_n 0, 1) := by decide +kernel
theorem dX0_sumOf_1 : decode cX0_sumOf 1 = .ok (.iload_n 1, 1) := by decide +kernel
theorem dX0_sumOf_2 : decode cX0_sumOf 2 = .ok (.invokevirtual 58, 3) := by decide +kernel
theorem dX0_sumOf_5 : decode cX0_sumOf 5 = .ok (.astore_n 2, 1) := by decide +kernel
theorem dX0_sumOf_6 : decode cX0_sumOf 6 = .ok (.iconst 0, 1) := by decide +kernel
theorem dX0_sumOf_7 : decode cX0_sumOf 7 = .ok (.istore_n 3, 1) := by decide +kernel
theorem dX0_sumOf_8 : decode cX0_sumOf 8 = .ok (.iconst 0, 1) := by decide +kernel
theorem dX0_sumOf_9 : decode cX0_sumOf 9 = .ok (.istore 4, 2) := by decide +kernel
theorem dX0_sumOf_11 : decode cX0_sumOf 11 = .ok (.iload 4, 2) := by decide +kernel
theorem dX0_sumOf_13 : decode cX0_sumOf 13 = .ok (.aload_n 0, 1) := by decide +kernel
theorem dX0_sumOf_14 : decode cX0_sumOf 14 = .ok (.getfield 39, 3) := by decide +kernel
theorem dX0_sumOf_17 : decode cX0_sumOf 17 = .ok (.if_icmp .ge 16, 3) := by decide +kernel
theorem dX0_sumOf_20 : decode cX0_sumOf 20 = .ok (.iload_n 3, 1) := by decide +kernel
theorem dX0_sumOf_21 : decode cX0_sumOf 21 = .ok (.aload_n 2, 1) := by decide +kernel
theorem dX0_sumOf_22 : decode cX0_sumOf 22 = .ok (.iload 4, 2) := by decide +kernel
theorem dX0_sumOf_24 : decode cX0_sumOf 24 = .ok (.iaload, 1) := by decide +kernel
theorem dX0_sumOf_25 : decode cX0_sumOf 25 = .ok (.iadd, 1) := by decide +kernel
theorem dX0_sumOf_26 : decode cX0_sumOf 26 = .ok (.istore_n 3, 1) := by decide +kernel
theorem dX0_sumOf_27 : decode cX0_sumOf 27 = .ok (.iinc 4 1, 3) := by decide +kernel
theorem dX0_sumOf_30 : decode cX0_sumOf 30 = .ok (.goto (-19), 3) := by decide +kernel
theorem dX0_sumOf_33 : decode cX0_sumOf 33 = .ok (.iload_n 3, 1) := by decide +kernel
theorem dX0_sumOf_34 : decode cX0_sumOf 34 = .ok (.ireturn, 1) := by decide +kernel
theorem dX0_lastPlace_0 : decode cX0_lastPlace 0 = .ok (.aload_n 0, 1) := by decide +kernel
theorem dX0_lastPlace_1 : decode cX0_lastPlace 1 = .ok (.getfield 39, 3) := by decide +kernel
theorem dX0_lastPlace_4 : decode cX0_lastPlace 4 = .ok (.ifCond .le 17, 3) := by decide +kernel
theorem dX0_lastPlace_7 : decode cX0_lastPlace 7 = .ok (.aload_n 0, 1) := by decide +kernel
theorem dX0_lastPlace_8 : decode cX0_lastPlace 8 = .ok (.getfield 24, 3) := by decide +kernel
theorem dX0_lastPlace_11 : decode cX0_lastPlace 11 = .ok (.aload_n 0, 1) := by decide +kernel
theorem dX0_lastPlace_12 : decode cX0_lastPlace 12 = .ok (.getfield 39, 3) := by decide +kernel
theorem dX0_lastPlace_15 : decode cX0_lastPlace 15 = .ok (.iconst 1, 1) := by decide +kernel
theorem dX0_lastPlace_16 : decode cX0_lastPlace 16 = .ok (.isub, 1) := by decide +kernel
theorem dX0_lastPlace_17 : decode cX0_lastPlace 17 = .ok (.iaload, 1) := by decide +kernel
theorem dX0_lastPlace_18 : decode cX0_lastPlace 18 = .ok (.goto 4, 3) := by decide +kernel
theorem dX0_lastPlace_21 : decode cX0_lastPlace 21 = .ok (.iconst 0, 1) := by decide +kernel
theorem dX0_lastPlace_22 : decode cX0_lastPlace 22 = .ok (.ireturn, 1) := by decide +kernel
theorem dX0_stillBits_0 : decode cX0_stillBits 0 = .ok (.iconst 0, 1) := by decide +kernel
theorem dX0_stillBits_1 : decode cX0_stillBits 1 = .ok (.istore_n 1, 1) := by decide +kernel
theorem dX0_stillBits_2 : decode cX0_stillBits 2 = .ok (.iconst 0, 1) := by decide +kernel
theorem dX0_stillBits_3 : decode cX0_stillBits 3 = .ok (.istore_n 2, 1) := by decide +kernel
theorem dX0_stillBits_4 : decode cX0_stillBits 4 = .ok (.iload_n 2, 1) := by decide +kernel
theorem dX0_stillBits_5 : decode cX0_stillBits 5 = .ok (.aload_n 0, 1) := by decide +kernel
theorem dX0_stillBits_6 : decode cX0_stillBits 6 = .ok (.getfield 39, 3) := by decide +kernel
theorem dX0_stillBits_9 : decode cX0_stillBits 9 = .ok (.if_icmp .ge 24, 3) := by decide +kernel
theorem dX0_stillBits_12 : decode cX0_stillBits 12 = .ok (.aload_n 0, 1) := by decide +kernel
theorem dX0_stillBits_13 : decode cX0_stillBits 13 = .ok (.getfield 27, 3) := by decide +kernel
theorem dX0_stillBits_16 : decode cX0_stillBits 16 = .ok (.iload_n 2, 1) := by decide +kernel
theorem dX0_stillBits_17 : decode cX0_stillBits 17 = .ok (.iaload, 1) := by decide +kernel
theorem dX0_stillBits_18 : decode cX0_stillBits 18 = .ok (.ifCond .ne 9, 3) := by decide +kernel
theorem dX0_stillBits_21 : decode cX0_stillBits 21 = .ok (.iload_n 1, 1) := by decide +kernel
theorem dX0_stillBits_22 : decode cX0_stillBits 22 = .ok (.iconst 1, 1) := by decide +kernel
theorem dX0_stillBits_23 : decode cX0_stillBits 23 = .ok (.iload_n 2, 1) := by decide +kernel
theorem dX0_stillBits_24 : decode cX0_stillBits 24 = .ok (.ishl, 1) := by decide +kernel
theorem dX0_stillBits_25 : decode cX0_stillBits 25 = .ok (.ior, 1) := by decide +kernel
theorem dX0_stillBits_26 : decode cX0_stillBits 26 = .ok (.istore_n 1, 1) := by decide +kernel
theorem dX0_stillBits_27 : decode cX0_stillBits 27 = .ok (.iinc 2 1, 3) := by decide +kernel
theorem dX0_stillBits_30 : decode cX0_stillBits 30 = .ok (.goto (-26), 3) := by decide +kernel
theorem dX0_stillBits_33 : decode cX0_stillBits 33 = .ok (.iload_n 1, 1) := by decide +kernel
theorem dX0_stillBits_34 : decode cX0_stillBits 34 = .ok (.ireturn, 1) := by decide +kernel
theorem dX0_addBead_0 : decode cX0_addBead 0 = .ok (.aload_n 0, 1) := by decide +kernel
theorem dX0_addBead_1 : decode cX0_addBead 1 = .ok (.getfield 39, 3) := by decide +kernel
theorem dX0_addBead_4 : decode cX0_addBead 4 = .ok (.iconst 4, 1) := by decide +kernel
theorem dX0_addBead_5 : decode cX0_addBead 5 = .ok (.if_icmp .lt 5, 3) := by decide +kernel
theorem dX0_addBead_8 : decode cX0_addBead 8 = .ok (.iconst 0, 1) := by decide +kernel
theorem dX0_addBead_9 : decode cX0_addBead 9 = .ok (.ireturn, 1) := by decide +kernel
theorem dX0_addBead_10 : decode cX0_addBead 10 = .ok (.sipush 300, 3) := by decide +kernel
theorem dX0_addBead_13 : decode cX0_addBead 13 = .ok (.aload_n 0, 1) := by decide +kernel
theorem dX0_addBead_14 : decode cX0_addBead 14 = .ok (.invokevirtual 62, 3) := by decide +kernel
theorem dX0_addBead_17 : decode cX0_addBead 17 = .ok (.iload_n 2, 1) := by decide +kernel
theorem dX0_addBead_18 : decode cX0_addBead 18 = .ok (.iadd, 1) := by decide +kernel
theorem dX0_addBead_19 : decode cX0_addBead 19 = .ok (.invokestatic 66, 3) := by decide +kernel
theorem dX0_addBead_22 : decode cX0_addBead 22 = .ok (.istore 5, 2) := by decide +kernel
theorem dX0_addBead_24 : decode cX0_addBead 24 = .ok (.aload_n 0, 1) := by decide +kernel
theorem dX0_addBead_25 : decode cX0_addBead 25 = .ok (.getfield 9, 3) := by decide +kernel
theorem dX0_addBead_28 : decode cX0_addBead 28 = .ok (.aload_n 0, 1) := by decide +kernel
theorem dX0_addBead_29 : decode cX0_addBead 29 = .ok (.getfield 39, 3) := by decide +kernel
theorem dX0_addBead_32 : decode cX0_addBead 32 = .ok (.iload_n 1, 1) := by decide +kernel
theorem dX0_addBead_33 : decode cX0_addBead 33 = .ok (.iastore, 1) := by decide +kernel
theorem dX0_addBead_34 : decode cX0_addBead 34 = .ok (.aload_n 0, 1) := by decide +kernel
theorem dX0_addBead_35 : decode cX0_addBead 35 = .ok (.getfield 15, 3) := by decide +kernel
theorem dX0_addBead_38 : decode cX0_addBead 38 = .ok (.aload_n 0, 1) := by decide +kernel
theorem dX0_addBead_39 : decode cX0_addBead 39 = .ok (.getfield 39, 3) := by decide +kernel
theorem dX0_addBead_42 : decode cX0_addBead 42 = .ok (.iload_n 2, 1) := by decide +kernel
theorem dX0_addBead_43 : decode cX0_addBead 43 = .ok (.iastore, 1) := by decide +kernel
theorem dX0_addBead_44 : decode cX0_addBead 44 = .ok (.aload_n 0, 1) := by decide +kernel
theorem dX0_addBead_45 : decode cX0_addBead 45 = .ok (.getfield 18, 3) := by decide +kernel
theorem dX0_addBead_48 : decode cX0_addBead 48 = .ok (.aload_n 0, 1) := by decide +kernel
theorem dX0_addBead_49 : decode cX0_addBead 49 = .ok (.getfield 39, 3) := by decide +kernel
theorem dX0_addBead_52 : decode cX0_addBead 52 = .ok (.iload_n 3, 1) := by decide +kernel
theorem dX0_addBead_53 : decode cX0_addBead 53 = .ok (.iastore, 1) := by decide +kernel
theorem dX0_addBead_54 : decode cX0_addBead 54 = .ok (.aload_n 0, 1) := by decide +kernel
theorem dX0_addBead_55 : decode cX0_addBead 55 = .ok (.getfield 21, 3) := by decide +kernel
theorem dX0_addBead_58 : decode cX0_addBead 58 = .ok (.aload_n 0, 1) := by decide +kernel
theorem dX0_addBead_59 : decode cX0_addBead 59 = .ok (.getfield 39, 3) := by decide +kernel
theorem dX0_addBead_62 : decode cX0_addBead 62 = .ok (.iload 4, 2) := by decide +kernel
theorem dX0_addBead_64 : decode cX0_addBead 64 = .ok (.iastore, 1) := by decide +kernel
theorem dX0_addBead_65 : decode cX0_addBead 65 = .ok (.aload_n 0, 1) := by decide +kernel
theorem dX0_addBead_66 : decode cX0_addBead 66 = .ok (.getfield 24, 3) := by decide +kernel
theorem dX0_addBead_69 : decode cX0_addBead 69 = .ok (.aload_n 0, 1) := by decide +kernel
theorem dX0_addBead_70 : decode cX0_addBead 70 = .ok (.getfield 39, 3) := by decide +kernel
theorem dX0_addBead_73 : decode cX0_addBead 73 = .ok (.iload 5, 2) := by decide +kernel
theorem dX0_addBead_75 : decode cX0_addBead 75 = .ok (.iastore, 1) := by decide +kernel
theorem dX0_addBead_76 : decode cX0_addBead 76 = .ok (.aload_n 0, 1) := by decide +kernel
theorem dX0_addBead_77 : decode cX0_addBead 77 = .ok (.getfield 27, 3) := by decide +kernel
theorem dX0_addBead_80 : decode cX0_addBead 80 = .ok (.aload_n 0, 1) := by decide +kernel
theorem dX0_addBead_81 : decode cX0_addBead 81 = .ok (.getfield 39, 3) := by decide +kernel
theorem dX0_addBead_84 : decode cX0_addBead 84 = .ok (.iconst 0, 1) := by decide +kernel
theorem dX0_addBead_85 : decode cX0_addBead 85 = .ok (.iastore, 1) := by decide +kernel
theorem dX0_addBead_86 : decode cX0_addBead 86 = .ok (.aload_n 0, 1) := by decide +kernel
theorem dX0_addBead_87 : decode cX0_addBead 87 = .ok (.dup, 1) := by decide +kernel
theorem dX0_addBead_88 : decode cX0_addBead 88 = .ok (.getfield 39, 3) := by decide +kernel
theorem dX0_addBead_91 : decode cX0_addBead 91 = .ok (.iconst 1, 1) := by decide +kernel
theorem dX0_addBead_92 : decode cX0_addBead 92 = .ok (.iadd, 1) := by decide +kernel
theorem dX0_addBead_93 : decode cX0_addBead 93 = .ok (.putfield 39, 3) := by decide +kernel
theorem dX0_addBead_96 : decode cX0_addBead 96 = .ok (.iconst 1, 1) := by decide +kernel
theorem dX0_addBead_97 : decode cX0_addBead 97 = .ok (.ireturn, 1) := by decide +kernel
theorem dX0_addKnock_0 : decode cX0_addKnock 0 = .ok (.aload_n 0, 1) := by decide +kernel
theorem dX0_addKnock_1 : decode cX0_addKnock 1 = .ok (.getfield 43, 3) := by decide +kernel
theorem dX0_addKnock_4 : decode cX0_addKnock 4 = .ok (.bipush 12, 2) := by decide +kernel
theorem dX0_addKnock_6 : decode cX0_addKnock 6 = .ok (.if_icmp .lt 5, 3) := by decide +kernel
theorem dX0_addKnock_9 : decode cX0_addKnock 9 = .ok (.iconst 0, 1) := by decide +kernel
theorem dX0_addKnock_10 : decode cX0_addKnock 10 = .ok (.ireturn, 1) := by decide +kernel
theorem dX0_addKnock_11 : decode cX0_addKnock 11 = .ok (.aload_n 0, 1) := by decide +kernel
theorem dX0_addKnock_12 : decode cX0_addKnock 12 = .ok (.getfield 30, 3) := by decide +kernel
theorem dX0_addKnock_15 : decode cX0_addKnock 15 = .ok (.aload_n 0, 1) := by decide +kernel
theorem dX0_addKnock_16 : decode cX0_addKnock 16 = .ok (.getfield 43, 3) := by decide +kernel
theorem dX0_addKnock_19 : decode cX0_addKnock 19 = .ok (.iload_n 1, 1) := by decide +kernel
theorem dX0_addKnock_20 : decode cX0_addKnock 20 = .ok (.iastore, 1) := by decide +kernel
theorem dX0_addKnock_21 : decode cX0_addKnock 21 = .ok (.aload_n 0, 1) := by decide +kernel
theorem dX0_addKnock_22 : decode cX0_addKnock 22 = .ok (.getfield 33, 3) := by decide +kernel
theorem dX0_addKnock_25 : decode cX0_addKnock 25 = .ok (.aload_n 0, 1) := by decide +kernel
theorem dX0_addKnock_26 : decode cX0_addKnock 26 = .ok (.getfield 43, 3) := by decide +kernel
theorem dX0_addKnock_29 : decode cX0_addKnock 29 = .ok (.iload_n 2, 1) := by decide +kernel
theorem dX0_addKnock_30 : decode cX0_addKnock 30 = .ok (.iastore, 1) := by decide +kernel
theorem dX0_addKnock_31 : decode cX0_addKnock 31 = .ok (.aload_n 0, 1) := by decide +kernel
theorem dX0_addKnock_32 : decode cX0_addKnock 32 = .ok (.dup, 1) := by decide +kernel
theorem dX0_addKnock_33 : decode cX0_addKnock 33 = .ok (.getfield 43, 3) := by decide +kernel
theorem dX0_addKnock_36 : decode cX0_addKnock 36 = .ok (.iconst 1, 1) := by decide +kernel
theorem dX0_addKnock_37 : decode cX0_addKnock 37 = .ok (.iadd, 1) := by decide +kernel
theorem dX0_addKnock_38 : decode cX0_addKnock 38 = .ok (.putfield 43, 3) := by decide +kernel
theorem dX0_addKnock_41 : decode cX0_addKnock 41 = .ok (.iconst 1, 1) := by decide +kernel
theorem dX0_addKnock_42 : decode cX0_addKnock 42 = .ok (.ireturn, 1) := by decide +kernel
theorem dX0_changePlaces_0 : decode cX0_changePlaces 0 = .ok (.aload_n 0, 1) := by decide +kernel
theorem dX0_changePlaces_1 : decode cX0_changePlaces 1 = .ok (.getfield 30, 3) := by decide +kernel
theorem dX0_changePlaces_4 : decode cX0_changePlaces 4 = .ok (.iload_n 1, 1) := by decide +kernel
theorem dX0_changePlaces_5 : decode cX0_changePlaces 5 = .ok (.iaload, 1) := by decide +kernel
theorem dX0_changePlaces_6 : decode cX0_changePlaces 6 = .ok (.istore_n 3, 1) := by decide +kernel
theorem dX0_changePlaces_7 : decode cX0_changePlaces 7 = .ok (.aload_n 0, 1) := by decide +kernel
theorem dX0_changePlaces_8 : decode cX0_changePlaces 8 = .ok (.getfield 33, 3) := by decide +kernel
theorem dX0_changePlaces_11 : decode cX0_changePlaces 11 = .ok (.iload_n 1, 1) := by decide +kernel
theorem dX0_changePlaces_12 : decode cX0_changePlaces 12 = .ok (.iaload, 1) := by decide +kernel
theorem dX0_changePlaces_13 : decode cX0_changePlaces 13 = .ok (.istore 4, 2) := by decide +kernel
theorem dX0_changePlaces_15 : decode cX0_changePlaces 15 = .ok (.aload_n 0, 1) := by decide +kernel
theorem dX0_changePlaces_16 : decode cX0_changePlaces 16 = .ok (.getfield 30, 3) := by decide +kernel
theorem dX0_changePlaces_19 : decode cX0_changePlaces 19 = .ok (.iload_n 1, 1) := by decide +kernel
theorem dX0_changePlaces_20 : decode cX0_changePlaces 20 = .ok (.aload_n 0, 1) := by decide +kernel
theorem dX0_changePlaces_21 : decode cX0_changePlaces 21 = .ok (.getfield 30, 3) := by decide +kernel
theorem dX0_changePlaces_24 : decode cX0_changePlaces 24 = .ok (.iload_n 2, 1) := by decide +kernel
theorem dX0_changePlaces_25 : decode cX0_changePlaces 25 = .ok (.iaload, 1) := by decide +kernel
theorem dX0_changePlaces_26 : decode cX0_changePlaces 26 = .ok (.iastore, 1) := by decide +kernel
theorem dX0_changePlaces_27 : decode cX0_changePlaces 27 = .ok (.aload_n 0, 1) := by decide +kernel
theorem dX0_changePlaces_28 : decode cX0_changePlaces 28 = .ok (.getfield 33, 3) := by decide +kernel
theorem dX0_changePlaces_31 : decode cX0_changePlaces 31 = .ok (.iload_n 1, 1) := by decide +kernel
theorem dX0_changePlaces_32 : decode cX0_changePlaces 32 = .ok (.aload_n 0, 1) := by decide +kernel
theorem dX0_changePlaces_33 : decode cX0_changePlaces 33 = .ok (.getfield 33, 3) := by decide +kernel
theorem dX0_changePlaces_36 : decode cX0_changePlaces 36 = .ok (.iload_n 2, 1) := by decide +kernel
theorem dX0_changePlaces_37 : decode cX0_changePlaces 37 = .ok (.iaload, 1) := by decide +kernel
theorem dX0_changePlaces_38 : decode cX0_changePlaces 38 = .ok (.iastore, 1) := by decide +kernel
theorem dX0_changePlaces_39 : decode cX0_changePlaces 39 = .ok (.aload_n 0, 1) := by decide +kernel
theorem dX0_changePlaces_40 : decode cX0_changePlaces 40 = .ok (.getfield 30, 3) := by decide +kernel
theorem dX0_changePlaces_43 : decode cX0_changePlaces 43 = .ok (.iload_n 2, 1) := by decide +kernel
theorem dX0_changePlaces_44 : decode cX0_changePlaces 44 = .ok (.iload_n 3, 1) := by decide +kernel
theorem dX0_changePlaces_45 : decode cX0_changePlaces 45 = .ok (.iastore, 1) := by decide +kernel
theorem dX0_changePlaces_46 : decode cX0_changePlaces 46 = .ok (.aload_n 0, 1) := by decide +kernel
theorem dX0_changePlaces_47 : decode cX0_changePlaces 47 = .ok (.getfield 33, 3) := by decide +kernel
theorem dX0_changePlaces_50 : decode cX0_changePlaces 50 = .ok (.iload_n 2, 1) := by decide +kernel
theorem dX0_changePlaces_51 : decode cX0_changePlaces 51 = .ok (.iload 4, 2) := by decide +kernel
theorem dX0_changePlaces_53 : decode cX0_changePlaces 53 = .ok (.iastore, 1) := by decide +kernel
theorem dX0_changePlaces_54 : decode cX0_changePlaces 54 = .ok (.return_, 1) := by decide +kernel
theorem dX0_stretchOf_0 : decode cX0_stretchOf 0 = .ok (.iload_n 1, 1) := by decide +kernel
theorem dX0_stretchOf_1 : decode cX0_stretchOf 1 = .ok (.ifCond .le 14, 3) := by decide +kernel
theorem dX0_stretchOf_4 : decode cX0_stretchOf 4 = .ok (.aload_n 0, 1) := by decide +kernel
theorem dX0_stretchOf_5 : decode cX0_stretchOf 5 = .ok (.getfield 24, 3) := by decide +kernel
theorem dX0_stretchOf_8 : decode cX0_stretchOf 8 = .ok (.iload_n 1, 1) := by decide +kernel
theorem dX0_stretchOf_9 : decode cX0_stretchOf 9 = .ok (.iconst 1, 1) := by decide +kernel
theorem dX0_stretchOf_10 : decode cX0_stretchOf 10 = .ok (.isub, 1) := by decide +kernel
theorem dX0_stretchOf_11 : decode cX0_stretchOf 11 = .ok (.iaload, 1) := by decide +kernel
theorem dX0_stretchOf_12 : decode cX0_stretchOf 12 = .ok (.goto 4, 3) := by decide +kernel
theorem dX0_stretchOf_15 : decode cX0_stretchOf 15 = .ok (.iconst 0, 1) := by decide +kernel
theorem dX0_stretchOf_16 : decode cX0_stretchOf 16 = .ok (.istore_n 2, 1) := by decide +kernel
theorem dX0_stretchOf_17 : decode cX0_stretchOf 17 = .ok (.aload_n 0, 1) := by decide +kernel
theorem dX0_stretchOf_18 : decode cX0_stretchOf 18 = .ok (.getfield 24, 3) := by decide +kernel
theorem dX0_stretchOf_21 : decode cX0_stretchOf 21 = .ok (.iload_n 1, 1) := by decide +kernel
theorem dX0_stretchOf_22 : decode cX0_stretchOf 22 = .ok (.iaload, 1) := by decide +kernel
theorem dX0_stretchOf_23 : decode cX0_stretchOf 23 = .ok (.iload_n 2, 1) := by decide +kernel
theorem dX0_stretchOf_24 : decode cX0_stretchOf 24 = .ok (.isub, 1) := by decide +kernel
theorem dX0_stretchOf_25 : decode cX0_stretchOf 25 = .ok (.aload_n 0, 1) := by decide +kernel
theorem dX0_stretchOf_26 : decode cX0_stretchOf 26 = .ok (.getfield 15, 3) := by decide +kernel
theorem dX0_stretchOf_29 : decode cX0_stretchOf 29 = .ok (.iload_n 1, 1) := by decide +kernel
theorem dX0_stretchOf_30 : decode cX0_stretchOf 30 = .ok (.iaload, 1) := by decide +kernel
theorem dX0_stretchOf_31 : decode cX0_stretchOf 31 = .ok (.isub, 1) := by decide +kernel
theorem dX0_stretchOf_32 : decode cX0_stretchOf 32 = .ok (.ireturn, 1) := by decide +kernel
theorem dX0_pullOf_0 : decode cX0_pullOf 0 = .ok (.aload_n 0, 1) := by decide +kernel
theorem dX0_pullOf_1 : decode cX0_pullOf 1 = .ok (.iload_n 1, 1) := by decide +kernel
theorem dX0_pullOf_2 : decode cX0_pullOf 2 = .ok (.invokevirtual 72, 3) := by decide +kernel
theorem dX0_pullOf_5 : decode cX0_pullOf 5 = .ok (.istore_n 2, 1) := by decide +kernel
theorem dX0_pullOf_6 : decode cX0_pullOf 6 = .ok (.iconst 0, 1) := by decide +kernel
theorem dX0_pullOf_7 : decode cX0_pullOf 7 = .ok (.istore_n 3, 1) := by decide +kernel
theorem dX0_pullOf_8 : decode cX0_pullOf 8 = .ok (.aload_n 0, 1) := by decide +kernel
theorem dX0_pullOf_9 : decode cX0_pullOf 9 = .ok (.getfield 9, 3) := by decide +kernel
theorem dX0_pullOf_12 : decode cX0_pullOf 12 = .ok (.iload_n 1, 1) := by decide +kernel
theorem dX0_pullOf_13 : decode cX0_pullOf 13 = .ok (.iaload, 1) := by decide +kernel
theorem dX0_pullOf_14 : decode cX0_pullOf 14 = .ok (.tableswitch 63 1 3 #[26, 39, 52], 26) := by decide +kernel
theorem dX0_pullOf_40 : decode cX0_pullOf 40 = .ok (.iload_n 2, 1) := by decide +kernel
theorem dX0_pullOf_41 : decode cX0_pullOf 41 = .ok (.ifCond .ge 7, 3) := by decide +kernel
theorem dX0_pullOf_44 : decode cX0_pullOf 44 = .ok (.iconst 1, 1) := by decide +kernel
theorem dX0_pullOf_45 : decode cX0_pullOf 45 = .ok (.goto 4, 3) := by decide +kernel
theorem dX0_pullOf_48 : decode cX0_pullOf 48 = .ok (.iconst 0, 1) := by decide +kernel
theorem dX0_pullOf_49 : decode cX0_pullOf 49 = .ok (.istore_n 3, 1) := by decide +kernel
theorem dX0_pullOf_50 : decode cX0_pullOf 50 = .ok (.goto 27, 3) := by decide +kernel
theorem dX0_pullOf_53 : decode cX0_pullOf 53 = .ok (.iload_n 2, 1) := by decide +kernel
theorem dX0_pullOf_54 : decode cX0_pullOf 54 = .ok (.ifCond .le 7, 3) := by decide +kernel
theorem dX0_pullOf_57 : decode cX0_pullOf 57 = .ok (.iconst 1, 1) := by decide +kernel
theorem dX0_pullOf_58 : decode cX0_pullOf 58 = .ok (.goto 4, 3) := by decide +kernel
theorem dX0_pullOf_61 : decode cX0_pullOf 61 = .ok (.iconst 0, 1) := by decide +kernel
theorem dX0_pullOf_62 : decode cX0_pullOf 62 = .ok (.istore_n 3, 1) := by decide +kernel
theorem dX0_pullOf_63 : decode cX0_pullOf 63 = .ok (.goto 14, 3) := by decide +kernel
theorem dX0_pullOf_66 : decode cX0_pullOf 66 = .ok (.iload_n 2, 1) := by decide +kernel
theorem dX0_pullOf_67 : decode cX0_pullOf 67 = .ok (.bipush (-5), 2) := by decide +kernel
theorem dX0_pullOf_69 : decode cX0_pullOf 69 = .ok (.iconst 5, 1) := by decide +kernel
theorem dX0_pullOf_70 : decode cX0_pullOf 70 = .ok (.invokestatic 76, 3) := by decide +kernel
theorem dX0_pullOf_73 : decode cX0_pullOf 73 = .ok (.istore_n 3, 1) := by decide +kernel
theorem dX0_pullOf_74 : decode cX0_pullOf 74 = .ok (.goto 3, 3) := by decide +kernel
theorem dX0_pullOf_77 : decode cX0_pullOf 77 = .ok (.iload_n 3, 1) := by decide +kernel
theorem dX0_pullOf_78 : decode cX0_pullOf 78 = .ok (.ifCond .eq 7, 3) := by decide +kernel
theorem dX0_pullOf_81 : decode cX0_pullOf 81 = .ok (.iconst 0, 1) := by decide +kernel
theorem dX0_pullOf_82 : decode cX0_pullOf 82 = .ok (.goto 11, 3) := by decide +kernel
theorem dX0_pullOf_85 : decode cX0_pullOf 85 = .ok (.aload_n 0, 1) := by decide +kernel
theorem dX0_pullOf_86 : decode cX0_pullOf 86 = .ok (.getfield 18, 3) := by decide +kernel
theorem dX0_pullOf_89 : decode cX0_pullOf 89 = .ok (.iload_n 1, 1) := by decide +kernel
theorem dX0_pullOf_90 : decode cX0_pullOf 90 = .ok (.iaload, 1) := by decide +kernel
theorem dX0_pullOf_91 : decode cX0_pullOf 91 = .ok (.iload_n 2, 1) := by decide +kernel
theorem dX0_pullOf_92 : decode cX0_pullOf 92 = .ok (.imul, 1) := by decide +kernel
theorem dX0_pullOf_93 : decode cX0_pullOf 93 = .ok (.ireturn, 1) := by decide +kernel
theorem dX0_knockOnce_0 : decode cX0_knockOnce 0 = .ok (.aload_n 0, 1) := by decide +kernel
theorem dX0_knockOnce_1 : decode cX0_knockOnce 1 = .ok (.iload_n 1, 1) := by decide +kernel
theorem dX0_knockOnce_2 : decode cX0_knockOnce 2 = .ok (.invokevirtual 80, 3) := by decide +kernel
theorem dX0_knockOnce_5 : decode cX0_knockOnce 5 = .ok (.ifCond .eq 20, 3) := by decide +kernel
theorem dX0_knockOnce_8 : decode cX0_knockOnce 8 = .ok (.aload_n 0, 1) := by decide +kernel
theorem dX0_knockOnce_9 : decode cX0_knockOnce 9 = .ok (.getfield 27, 3) := by decide +kernel
theorem dX0_knockOnce_12 : decode cX0_knockOnce 12 = .ok (.iload_n 1, 1) := by decide +kernel
theorem dX0_knockOnce_13 : decode cX0_knockOnce 13 = .ok (.aload_n 0, 1) := by decide +kernel
theorem dX0_knockOnce_14 : decode cX0_knockOnce 14 = .ok (.getfield 27, 3) := by decide +kernel
theorem dX0_knockOnce_17 : decode cX0_knockOnce 17 = .ok (.iload_n 1, 1) := by decide +kernel
theorem dX0_knockOnce_18 : decode cX0_knockOnce 18 = .ok (.iaload, 1) := by decide +kernel
theorem dX0_knockOnce_19 : decode cX0_knockOnce 19 = .ok (.iload_n 2, 1) := by decide +kernel
theorem dX0_knockOnce_20 : decode cX0_knockOnce 20 = .ok (.iadd, 1) := by decide +kernel
theorem dX0_knockOnce_21 : decode cX0_knockOnce 21 = .ok (.invokestatic 84, 3) := by decide +kernel
theorem dX0_knockOnce_24 : decode cX0_knockOnce 24 = .ok (.iastore, 1) := by decide +kernel
theorem dX0_knockOnce_25 : decode cX0_knockOnce 25 = .ok (.return_, 1) := by decide +kernel
theorem dX0_knockByPlan_0 : decode cX0_knockByPlan 0 = .ok (.aload_n 0, 1) := by decide +kernel
theorem dX0_knockByPlan_1 : decode cX0_knockByPlan 1 = .ok (.getfield 43, 3) := by decide +kernel
theorem dX0_knockByPlan_4 : decode cX0_knockByPlan 4 = .ok (.ifCond .le 29, 3) := by decide +kernel
theorem dX0_knockByPlan_7 : decode cX0_knockByPlan 7 = .ok (.aload_n 0, 1) := by decide +kernel
theorem dX0_knockByPlan_8 : decode cX0_knockByPlan 8 = .ok (.getfield 49, 3) := by decide +kernel
theorem dX0_knockByPlan_11 : decode cX0_knockByPlan 11 = .ok (.aload_n 0, 1) := by decide +kernel
theorem dX0_knockByPlan_12 : decode cX0_knockByPlan 12 = .ok (.getfield 43, 3) := by decide +kernel
theorem dX0_knockByPlan_15 : decode cX0_knockByPlan 15 = .ok (.irem, 1) := by decide +kernel
theorem dX0_knockByPlan_16 : decode cX0_knockByPlan 16 = .ok (.istore_n 1, 1) := by decide +kernel
theorem dX0_knockByPlan_17 : decode cX0_knockByPlan 17 = .ok (.aload_n 0, 1) := by decide +kernel
theorem dX0_knockByPlan_18 : decode cX0_knockByPlan 18 = .ok (.aload_n 0, 1) := by decide +kernel
theorem dX0_knockByPlan_19 : decode cX0_knockByPlan 19 = .ok (.getfield 30, 3) := by decide +kernel
theorem dX0_knockByPlan_22 : decode cX0_knockByPlan 22 = .ok (.iload_n 1, 1) := by decide +kernel
theorem dX0_knockByPlan_23 : decode cX0_knockByPlan 23 = .ok (.iaload, 1) := by decide +kernel
theorem dX0_knockByPlan_24 : decode cX0_knockByPlan 24 = .ok (.aload_n 0, 1) := by decide +kernel
theorem dX0_knockByPlan_25 : decode cX0_knockByPlan 25 = .ok (.getfield 33, 3) := by decide +kernel
theorem dX0_knockByPlan_28 : decode cX0_knockByPlan 28 = .ok (.iload_n 1, 1) := by decide +kernel
theorem dX0_knockByPlan_29 : decode cX0_knockByPlan 29 = .ok (.iaload, 1) := by decide +kernel
theorem dX0_knockByPlan_30 : decode cX0_knockByPlan 30 = .ok (.invokevirtual 87, 3) := by decide +kernel
theorem dX0_knockByPlan_33 : decode cX0_knockByPlan 33 = .ok (.return_, 1) := by decide +kernel
theorem dX0_tickOnce_0 : decode cX0_tickOnce 0 = .ok (.aload_n 0, 1) := by decide +kernel
theorem dX0_tickOnce_1 : decode cX0_tickOnce 1 = .ok (.invokevirtual 91, 3) := by decide +kernel
theorem dX0_tickOnce_4 : decode cX0_tickOnce 4 = .ok (.aload_n 0, 1) := by decide +kernel
theorem dX0_tickOnce_5 : decode cX0_tickOnce 5 = .ok (.invokevirtual 94, 3) := by decide +kernel
theorem dX0_tickOnce_8 : decode cX0_tickOnce 8 = .ok (.return_, 1) := by decide +kernel
theorem dX0_tickOften_0 : decode cX0_tickOften 0 = .ok (.iconst 0, 1) := by decide +kernel
theorem dX0_tickOften_1 : decode cX0_tickOften 1 = .ok (.istore_n 2, 1) := by decide +kernel
theorem dX0_tickOften_2 : decode cX0_tickOften 2 = .ok (.iload_n 2, 1) := by decide +kernel
theorem dX0_tickOften_3 : decode cX0_tickOften 3 = .ok (.iload_n 1, 1) := by decide +kernel
theorem dX0_tickOften_4 : decode cX0_tickOften 4 = .ok (.if_icmp .ge 13, 3) := by decide +kernel
theorem dX0_tickOften_7 : decode cX0_tickOften 7 = .ok (.aload_n 0, 1) := by decide +kernel
theorem dX0_tickOften_8 : decode cX0_tickOften 8 = .ok (.invokevirtual 97, 3) := by decide +kernel
theorem dX0_tickOften_11 : decode cX0_tickOften 11 = .ok (.iinc 2 1, 3) := by decide +kernel
theorem dX0_tickOften_14 : decode cX0_tickOften 14 = .ok (.goto (-12), 3) := by decide +kernel
theorem dX0_tickOften_17 : decode cX0_tickOften 17 = .ok (.return_, 1) := by decide +kernel
theorem dX0_move_0 : decode cX0_move 0 = .ok (.iconst 0, 1) := by decide +kernel
theorem dX0_move_1 : decode cX0_move 1 = .ok (.istore_n 1, 1) := by decide +kernel
theorem dX0_move_2 : decode cX0_move 2 = .ok (.iload_n 1, 1) := by decide +kernel
theorem dX0_move_3 : decode cX0_move 3 = .ok (.aload_n 0, 1) := by decide +kernel
theorem dX0_move_4 : decode cX0_move 4 = .ok (.getfield 39, 3) := by decide +kernel
theorem dX0_move_7 : decode cX0_move 7 = .ok (.if_icmp .ge 20, 3) := by decide +kernel
theorem dX0_move_10 : decode cX0_move 10 = .ok (.aload_n 0, 1) := by decide +kernel
theorem dX0_move_11 : decode cX0_move 11 = .ok (.getfield 36, 3) := by decide +kernel
theorem dX0_move_14 : decode cX0_move 14 = .ok (.iload_n 1, 1) := by decide +kernel
theorem dX0_move_15 : decode cX0_move 15 = .ok (.aload_n 0, 1) := by decide +kernel
theorem dX0_move_16 : decode cX0_move 16 = .ok (.iload_n 1, 1) := by decide +kernel
theorem dX0_move_17 : decode cX0_move 17 = .ok (.invokevirtual 100, 3) := by decide +kernel
theorem dX0_move_20 : decode cX0_move 20 = .ok (.iastore, 1) := by decide +kernel
theorem dX0_move_21 : decode cX0_move 21 = .ok (.iinc 1 1, 3) := by decide +kernel
theorem dX0_move_24 : decode cX0_move 24 = .ok (.goto (-22), 3) := by decide +kernel
theorem dX0_move_27 : decode cX0_move 27 = .ok (.aload_n 0, 1) := by decide +kernel
theorem dX0_move_28 : decode cX0_move 28 = .ok (.getfield 36, 3) := by decide +kernel
theorem dX0_move_31 : decode cX0_move 31 = .ok (.aload_n 0, 1) := by decide +kernel
theorem dX0_move_32 : decode cX0_move 32 = .ok (.getfield 39, 3) := by decide +kernel
theorem dX0_move_35 : decode cX0_move 35 = .ok (.iconst 0, 1) := by decide +kernel
theorem dX0_move_36 : decode cX0_move 36 = .ok (.iastore, 1) := by decide +kernel
theorem dX0_move_37 : decode cX0_move 37 = .ok (.aload_n 0, 1) := by decide +kernel
theorem dX0_move_38 : decode cX0_move 38 = .ok (.iconst 0, 1) := by decide +kernel
theorem dX0_move_39 : decode cX0_move 39 = .ok (.putfield 103, 3) := by decide +kernel
theorem dX0_move_42 : decode cX0_move 42 = .ok (.iconst 0, 1) := by decide +kernel
theorem dX0_move_43 : decode cX0_move 43 = .ok (.istore_n 1, 1) := by decide +kernel
theorem dX0_move_44 : decode cX0_move 44 = .ok (.iload_n 1, 1) := by decide +kernel
theorem dX0_move_45 : decode cX0_move 45 = .ok (.aload_n 0, 1) := by decide +kernel
theorem dX0_move_46 : decode cX0_move 46 = .ok (.getfield 39, 3) := by decide +kernel
theorem dX0_move_49 : decode cX0_move 49 = .ok (.if_icmp .ge 65, 3) := by decide +kernel
theorem dX0_move_52 : decode cX0_move 52 = .ok (.bipush 10, 2) := by decide +kernel
theorem dX0_move_54 : decode cX0_move 54 = .ok (.aload_n 0, 1) := by decide +kernel
theorem dX0_move_55 : decode cX0_move 55 = .ok (.getfield 21, 3) := by decide +kernel
theorem dX0_move_58 : decode cX0_move 58 = .ok (.iload_n 1, 1) := by decide +kernel
theorem dX0_move_59 : decode cX0_move 59 = .ok (.iaload, 1) := by decide +kernel
theorem dX0_move_60 : decode cX0_move 60 = .ok (.imul, 1) := by decide +kernel
theorem dX0_move_61 : decode cX0_move 61 = .ok (.istore_n 2, 1) := by decide +kernel
theorem dX0_move_62 : decode cX0_move 62 = .ok (.iload_n 2, 1) := by decide +kernel
theorem dX0_move_63 : decode cX0_move 63 = .ok (.ifCond .le 23, 3) := by decide +kernel
theorem dX0_move_66 : decode cX0_move 66 = .ok (.aload_n 0, 1) := by decide +kernel
theorem dX0_move_67 : decode cX0_move 67 = .ok (.getfield 36, 3) := by decide +kernel
theorem dX0_move_70 : decode cX0_move 70 = .ok (.iload_n 1, 1) := by decide +kernel
theorem dX0_move_71 : decode cX0_move 71 = .ok (.iconst 1, 1) := by decide +kernel
theorem dX0_move_72 : decode cX0_move 72 = .ok (.iadd, 1) := by decide +kernel
theorem dX0_move_73 : decode cX0_move 73 = .ok (.iaload, 1) := by decide +kernel
theorem dX0_move_74 : decode cX0_move 74 = .ok (.aload_n 0, 1) := by decide +kernel
theorem dX0_move_75 : decode cX0_move 75 = .ok (.getfield 36, 3) := by decide +kernel
theorem dX0_move_78 : decode cX0_move 78 = .ok (.iload_n 1, 1) := by decide +kernel
theorem dX0_move_79 : decode cX0_move 79 = .ok (.iaload, 1) := by decide +kernel
theorem dX0_move_80 : decode cX0_move 80 = .ok (.isub, 1) := by decide +kernel
theorem dX0_move_81 : decode cX0_move 81 = .ok (.iload_n 2, 1) := by decide +kernel
theorem dX0_move_82 : decode cX0_move 82 = .ok (.idiv, 1) := by decide +kernel
theorem dX0_move_83 : decode cX0_move 83 = .ok (.goto 4, 3) := by decide +kernel
theorem dX0_move_86 : decode cX0_move 86 = .ok (.iconst 0, 1) := by decide +kernel
theorem dX0_move_87 : decode cX0_move 87 = .ok (.istore_n 3, 1) := by decide +kernel
theorem dX0_move_88 : decode cX0_move 88 = .ok (.aload_n 0, 1) := by decide +kernel
theorem dX0_move_89 : decode cX0_move 89 = .ok (.iload_n 1, 1) := by decide +kernel
theorem dX0_move_90 : decode cX0_move 90 = .ok (.aload_n 0, 1) := by decide +kernel
theorem dX0_move_91 : decode cX0_move 91 = .ok (.aload_n 0, 1) := by decide +kernel
theorem dX0_move_92 : decode cX0_move 92 = .ok (.getfield 27, 3) := by decide +kernel
theorem dX0_move_95 : decode cX0_move 95 = .ok (.iload_n 1, 1) := by decide +kernel
theorem dX0_move_96 : decode cX0_move 96 = .ok (.iaload, 1) := by decide +kernel
theorem dX0_move_97 : decode cX0_move 97 = .ok (.iload_n 3, 1) := by decide +kernel
theorem dX0_move_98 : decode cX0_move 98 = .ok (.iadd, 1) := by decide +kernel
theorem dX0_move_99 : decode cX0_move 99 = .ok (.invokevirtual 107, 3) := by decide +kernel
theorem dX0_move_102 : decode cX0_move 102 = .ok (.invokestatic 84, 3) := by decide +kernel
theorem dX0_move_105 : decode cX0_move 105 = .ok (.invokevirtual 110, 3) := by decide +kernel
theorem dX0_move_108 : decode cX0_move 108 = .ok (.iinc 1 1, 3) := by decide +kernel
theorem dX0_move_111 : decode cX0_move 111 = .ok (.goto (-67), 3) := by decide +kernel
theorem dX0_move_114 : decode cX0_move 114 = .ok (.aload_n 0, 1) := by decide +kernel
theorem dX0_move_115 : decode cX0_move 115 = .ok (.dup, 1) := by decide +kernel
theorem dX0_move_116 : decode cX0_move 116 = .ok (.getfield 49, 3) := by decide +kernel
theorem dX0_move_119 : decode cX0_move 119 = .ok (.iconst 1, 1) := by decide +kernel
theorem dX0_move_120 : decode cX0_move 120 = .ok (.iadd, 1) := by decide +kernel
theorem dX0_move_121 : decode cX0_move 121 = .ok (.putfield 49, 3) := by decide +kernel
theorem dX0_move_124 : decode cX0_move 124 = .ok (.return_, 1) := by decide +kernel
theorem dX0_goOn_0 : decode cX0_goOn 0 = .ok (.aload_n 0, 1) := by decide +kernel
theorem dX0_goOn_1 : decode cX0_goOn 1 = .ok (.getfield 24, 3) := by decide +kernel
theorem dX0_goOn_4 : decode cX0_goOn 4 = .ok (.iload_n 1, 1) := by decide +kernel
theorem dX0_goOn_5 : decode cX0_goOn 5 = .ok (.iaload, 1) := by decide +kernel
theorem dX0_goOn_6 : decode cX0_goOn 6 = .ok (.iload_n 2, 1) := by decide +kernel
theorem dX0_goOn_7 : decode cX0_goOn 7 = .ok (.iadd, 1) := by decide +kernel
theorem dX0_goOn_8 : decode cX0_goOn 8 = .ok (.istore_n 3, 1) := by decide +kernel
theorem dX0_goOn_9 : decode cX0_goOn 9 = .ok (.iconst 0, 1) := by decide +kernel
theorem dX0_goOn_10 : decode cX0_goOn 10 = .ok (.sipush 300, 3) := by decide +kernel
theorem dX0_goOn_13 : decode cX0_goOn 13 = .ok (.iload_n 3, 1) := by decide +kernel
theorem dX0_goOn_14 : decode cX0_goOn 14 = .ok (.invokestatic 66, 3) := by decide +kernel
theorem dX0_goOn_17 : decode cX0_goOn 17 = .ok (.invokestatic 113, 3) := by decide +kernel
theorem dX0_goOn_20 : decode cX0_goOn 20 = .ok (.istore 4, 2) := by decide +kernel
theorem dX0_goOn_22 : decode cX0_goOn 22 = .ok (.iload 4, 2) := by decide +kernel
theorem dX0_goOn_24 : decode cX0_goOn 24 = .ok (.iload_n 3, 1) := by decide +kernel
theorem dX0_goOn_25 : decode cX0_goOn 25 = .ok (.if_icmp .ne 7, 3) := by decide +kernel
theorem dX0_goOn_28 : decode cX0_goOn 28 = .ok (.iload_n 2, 1) := by decide +kernel
theorem dX0_goOn_29 : decode cX0_goOn 29 = .ok (.goto 4, 3) := by decide +kernel
theorem dX0_goOn_32 : decode cX0_goOn 32 = .ok (.iconst 0, 1) := by decide +kernel
theorem dX0_goOn_33 : decode cX0_goOn 33 = .ok (.istore 5, 2) := by decide +kernel
theorem dX0_goOn_35 : decode cX0_goOn 35 = .ok (.iload 4, 2) := by decide +kernel
theorem dX0_goOn_37 : decode cX0_goOn 37 = .ok (.iload_n 3, 1) := by decide +kernel
theorem dX0_goOn_38 : decode cX0_goOn 38 = .ok (.if_icmp .eq 13, 3) := by decide +kernel
theorem dX0_goOn_41 : decode cX0_goOn 41 = .ok (.aload_n 0, 1) := by decide +kernel
theorem dX0_goOn_42 : decode cX0_goOn 42 = .ok (.dup, 1) := by decide +kernel
theorem dX0_goOn_43 : decode cX0_goOn 43 = .ok (.getfield 55, 3) := by decide +kernel
theorem dX0_goOn_46 : decode cX0_goOn 46 = .ok (.iconst 1, 1) := by decide +kernel
theorem dX0_goOn_47 : decode cX0_goOn 47 = .ok (.iadd, 1) := by decide +kernel
theorem dX0_goOn_48 : decode cX0_goOn 48 = .ok (.putfield 55, 3) := by decide +kernel
theorem dX0_goOn_51 : decode cX0_goOn 51 = .ok (.iload 4, 2) := by decide +kernel
theorem dX0_goOn_53 : decode cX0_goOn 53 = .ok (.aload_n 0, 1) := by decide +kernel
theorem dX0_goOn_54 : decode cX0_goOn 54 = .ok (.getfield 24, 3) := by decide +kernel
theorem dX0_goOn_57 : decode cX0_goOn 57 = .ok (.iload_n 1, 1) := by decide +kernel
theorem dX0_goOn_58 : decode cX0_goOn 58 = .ok (.iaload, 1) := by decide +kernel
theorem dX0_goOn_59 : decode cX0_goOn 59 = .ok (.if_icmp .ne 14, 3) := by decide +kernel
theorem dX0_goOn_62 : decode cX0_goOn 62 = .ok (.iload 5, 2) := by decide +kernel
theorem dX0_goOn_64 : decode cX0_goOn 64 = .ok (.aload_n 0, 1) := by decide +kernel
theorem dX0_goOn_65 : decode cX0_goOn 65 = .ok (.getfield 27, 3) := by decide +kernel
theorem dX0_goOn_68 : decode cX0_goOn 68 = .ok (.iload_n 1, 1) := by decide +kernel
theorem dX0_goOn_69 : decode cX0_goOn 69 = .ok (.iaload, 1) := by decide +kernel
theorem dX0_goOn_70 : decode cX0_goOn 70 = .ok (.if_icmp .eq 8, 3) := by decide +kernel
theorem dX0_goOn_73 : decode cX0_goOn 73 = .ok (.aload_n 0, 1) := by decide +kernel
theorem dX0_goOn_74 : decode cX0_goOn 74 = .ok (.iconst 1, 1) := by decide +kernel
theorem dX0_goOn_75 : decode cX0_goOn 75 = .ok (.putfield 103, 3) := by decide +kernel
theorem dX0_goOn_78 : decode cX0_goOn 78 = .ok (.aload_n 0, 1) := by decide +kernel
theorem dX0_goOn_79 : decode cX0_goOn 79 = .ok (.dup, 1) := by decide +kernel
theorem dX0_goOn_80 : decode cX0_goOn 80 = .ok (.getfield 52, 3) := by decide +kernel
theorem dX0_goOn_83 : decode cX0_goOn 83 = .ok (.iload 4, 2) := by decide +kernel
theorem dX0_goOn_85 : decode cX0_goOn 85 = .ok (.aload_n 0, 1) := by decide +kernel
theorem dX0_goOn_86 : decode cX0_goOn 86 = .ok (.getfield 24, 3) := by decide +kernel
theorem dX0_goOn_89 : decode cX0_goOn 89 = .ok (.iload_n 1, 1) := by decide +kernel
theorem dX0_goOn_90 : decode cX0_goOn 90 = .ok (.iaload, 1) := by decide +kernel
theorem dX0_goOn_91 : decode cX0_goOn 91 = .ok (.isub, 1) := by decide +kernel
theorem dX0_goOn_92 : decode cX0_goOn 92 = .ok (.invokestatic 116, 3) := by decide +kernel
theorem dX0_goOn_95 : decode cX0_goOn 95 = .ok (.iadd, 1) := by decide +kernel
theorem dX0_goOn_96 : decode cX0_goOn 96 = .ok (.putfield 52, 3) := by decide +kernel
theorem dX0_goOn_99 : decode cX0_goOn 99 = .ok (.aload_n 0, 1) := by decide +kernel
theorem dX0_goOn_100 : decode cX0_goOn 100 = .ok (.getfield 24, 3) := by decide +kernel
theorem dX0_goOn_103 : decode cX0_goOn 103 = .ok (.iload_n 1, 1) := by decide +kernel
theorem dX0_goOn_104 : decode cX0_goOn 104 = .ok (.iload 4, 2) := by decide +kernel
theorem dX0_goOn_106 : decode cX0_goOn 106 = .ok (.iastore, 1) := by decide +kernel
theorem dX0_goOn_107 : decode cX0_goOn 107 = .ok (.aload_n 0, 1) := by decide +kernel
theorem dX0_goOn_108 : decode cX0_goOn 108 = .ok (.getfield 27, 3) := by decide +kernel
theorem dX0_goOn_111 : decode cX0_goOn 111 = .ok (.iload_n 1, 1) := by decide +kernel
theorem dX0_goOn_112 : decode cX0_goOn 112 = .ok (.iload 5, 2) := by decide +kernel
theorem dX0_goOn_114 : decode cX0_goOn 114 = .ok (.iastore, 1) := by decide +kernel
theorem dX0_goOn_115 : decode cX0_goOn 115 = .ok (.return_, 1) := by decide +kernel
theorem dX0_slowed_0 : decode cX0_slowed 0 = .ok (.iload_n 1, 1) := by decide +kernel
theorem dX0_slowed_1 : decode cX0_slowed 1 = .ok (.ifCond .le 16, 3) := by decide +kernel
theorem dX0_slowed_4 : decode cX0_slowed 4 = .ok (.iconst 0, 1) := by decide +kernel
theorem dX0_slowed_5 : decode cX0_slowed 5 = .ok (.iload_n 1, 1) := by decide +kernel
theorem dX0_slowed_6 : decode cX0_slowed 6 = .ok (.aload_n 0, 1) := by decide +kernel
theorem dX0_slowed_7 : decode cX0_slowed 7 = .ok (.getfield 46, 3) := by decide +kernel
theorem dX0_slowed_10 : decode cX0_slowed 10 = .ok (.isub, 1) := by decide +kernel
theorem dX0_slowed_11 : decode cX0_slowed 11 = .ok (.invokestatic 113, 3) := by decide +kernel
theorem dX0_slowed_14 : decode cX0_slowed 14 = .ok (.goto 13, 3) := by decide +kernel
theorem dX0_slowed_17 : decode cX0_slowed 17 = .ok (.iconst 0, 1) := by decide +kernel
theorem dX0_slowed_18 : decode cX0_slowed 18 = .ok (.iload_n 1, 1) := by decide +kernel
theorem dX0_slowed_19 : decode cX0_slowed 19 = .ok (.aload_n 0, 1) := by decide +kernel
theorem dX0_slowed_20 : decode cX0_slowed 20 = .ok (.getfield 46, 3) := by decide +kernel
theorem dX0_slowed_23 : decode cX0_slowed 23 = .ok (.iadd, 1) := by decide +kernel
theorem dX0_slowed_24 : decode cX0_slowed 24 = .ok (.invokestatic 66, 3) := by decide +kernel
theorem dX0_slowed_27 : decode cX0_slowed 27 = .ok (.ireturn, 1) := by decide +kernel
theorem dX0_inBounds_0 : decode cX0_inBounds 0 = .ok (.iload_n 0, 1) := by decide +kernel
theorem dX0_inBounds_1 : decode cX0_inBounds 1 = .ok (.bipush 40, 2) := by decide +kernel
theorem dX0_inBounds_3 : decode cX0_inBounds 3 = .ok (.if_icmp .le 8, 3) := by decide +kernel
theorem dX0_inBounds_6 : decode cX0_inBounds 6 = .ok (.bipush 40, 2) := by decide +kernel
theorem dX0_inBounds_8 : decode cX0_inBounds 8 = .ok (.goto 15, 3) := by decide +kernel
theorem dX0_inBounds_11 : decode cX0_inBounds 11 = .ok (.iload_n 0, 1) := by decide +kernel
theorem dX0_inBounds_12 : decode cX0_inBounds 12 = .ok (.bipush (-40), 2) := by decide +kernel
theorem dX0_inBounds_14 : decode cX0_inBounds 14 = .ok (.if_icmp .ge 8, 3) := by decide +kernel
theorem dX0_inBounds_17 : decode cX0_inBounds 17 = .ok (.bipush (-40), 2) := by decide +kernel
theorem dX0_inBounds_19 : decode cX0_inBounds 19 = .ok (.goto 4, 3) := by decide +kernel
theorem dX0_inBounds_22 : decode cX0_inBounds 22 = .ok (.iload_n 0, 1) := by decide +kernel
theorem dX0_inBounds_23 : decode cX0_inBounds 23 = .ok (.ireturn, 1) := by decide +kernel
theorem dX0_greatestSwing_0 : decode cX0_greatestSwing 0 = .ok (.aload_n 0, 1) := by decide +kernel
theorem dX0_greatestSwing_1 : decode cX0_greatestSwing 1 = .ok (.invokevirtual 62, 3) := by decide +kernel
theorem dX0_greatestSwing_4 : decode cX0_greatestSwing 4 = .ok (.istore_n 3, 1) := by decide +kernel
theorem dX0_greatestSwing_5 : decode cX0_greatestSwing 5 = .ok (.iconst 0, 1) := by decide +kernel
theorem dX0_greatestSwing_6 : decode cX0_greatestSwing 6 = .ok (.istore 4, 2) := by decide +kernel
theorem dX0_greatestSwing_8 : decode cX0_greatestSwing 8 = .ok (.iconst 0, 1) := by decide +kernel
theorem dX0_greatestSwing_9 : decode cX0_greatestSwing 9 = .ok (.istore 5, 2) := by decide +kernel
theorem dX0_greatestSwing_11 : decode cX0_greatestSwing 11 = .ok (.iload 5, 2) := by decide +kernel
theorem dX0_greatestSwing_13 : decode cX0_greatestSwing 13 = .ok (.iload_n 1, 1) := by decide +kernel
theorem dX0_greatestSwing_14 : decode cX0_greatestSwing 14 = .ok (.if_icmp .ge 35, 3) := by decide +kernel
theorem dX0_greatestSwing_17 : decode cX0_greatestSwing 17 = .ok (.iload 4, 2) := by decide +kernel
theorem dX0_greatestSwing_19 : decode cX0_greatestSwing 19 = .ok (.iload_n 2, 1) := by decide +kernel
theorem dX0_greatestSwing_20 : decode cX0_greatestSwing 20 = .ok (.if_icmp .ge 29, 3) := by decide +kernel
theorem dX0_greatestSwing_23 : decode cX0_greatestSwing 23 = .ok (.aload_n 0, 1) := by decide +kernel
theorem dX0_greatestSwing_24 : decode cX0_greatestSwing 24 = .ok (.invokevirtual 97, 3) := by decide +kernel
theorem dX0_greatestSwing_27 : decode cX0_greatestSwing 27 = .ok (.iload 4, 2) := by decide +kernel
theorem dX0_greatestSwing_29 : decode cX0_greatestSwing 29 = .ok (.aload_n 0, 1) := by decide +kernel
theorem dX0_greatestSwing_30 : decode cX0_greatestSwing 30 = .ok (.invokevirtual 62, 3) := by decide +kernel
theorem dX0_greatestSwing_33 : decode cX0_greatestSwing 33 = .ok (.iload_n 3, 1) := by decide +kernel
theorem dX0_greatestSwing_34 : decode cX0_greatestSwing 34 = .ok (.isub, 1) := by decide +kernel
theorem dX0_greatestSwing_35 : decode cX0_greatestSwing 35 = .ok (.invokestatic 116, 3) := by decide +kernel
theorem dX0_greatestSwing_38 : decode cX0_greatestSwing 38 = .ok (.invokestatic 113, 3) := by decide +kernel
theorem dX0_greatestSwing_41 : decode cX0_greatestSwing 41 = .ok (.istore 4, 2) := by decide +kernel
theorem dX0_greatestSwing_43 : decode cX0_greatestSwing 43 = .ok (.iinc 5 1, 3) := by decide +kernel
theorem dX0_greatestSwing_46 : decode cX0_greatestSwing 46 = .ok (.goto (-35), 3) := by decide +kernel
theorem dX0_greatestSwing_49 : decode cX0_greatestSwing 49 = .ok (.iload 4, 2) := by decide +kernel
theorem dX0_greatestSwing_51 : decode cX0_greatestSwing 51 = .ok (.ireturn, 1) := by decide +kernel
theorem dX1_init_0 : decode cX1_init 0 = .ok (.aload_n 0, 1) := by decide +kernel
theorem dX1_init_1 : decode cX1_init 1 = .ok (.invokespecial 3, 3) := by decide +kernel
theorem dX1_init_4 : decode cX1_init 4 = .ok (.aload_n 0, 1) := by decide +kernel
theorem dX1_init_5 : decode cX1_init 5 = .ok (.bipush 6, 2) := by decide +kernel
theorem dX1_init_7 : decode cX1_init 7 = .ok (.newarray .int, 2) := by decide +kernel
theorem dX1_init_9 : decode cX1_init 9 = .ok (.putfield 9, 3) := by decide +kernel
theorem dX1_init_12 : decode cX1_init 12 = .ok (.aload_n 0, 1) := by decide +kernel
theorem dX1_init_13 : decode cX1_init 13 = .ok (.bipush 6, 2) := by decide +kernel
theorem dX1_init_15 : decode cX1_init 15 = .ok (.newarray .int, 2) := by decide +kernel
theorem dX1_init_17 : decode cX1_init 17 = .ok (.putfield 15, 3) := by decide +kernel
theorem dX1_init_20 : decode cX1_init 20 = .ok (.aload_n 0, 1) := by decide +kernel
theorem dX1_init_21 : decode cX1_init 21 = .ok (.bipush 6, 2) := by decide +kernel
theorem dX1_init_23 : decode cX1_init 23 = .ok (.newarray .int, 2) := by decide +kernel
theorem dX1_init_25 : decode cX1_init 25 = .ok (.putfield 18, 3) := by decide +kernel
theorem dX1_init_28 : decode cX1_init 28 = .ok (.return_, 1) := by decide +kernel
theorem dX1_note_0 : decode cX1_note 0 = .ok (.aload_n 0, 1) := by decide +kernel
theorem dX1_note_1 : decode cX1_note 1 = .ok (.getfield 21, 3) := by decide +kernel
theorem dX1_note_4 : decode cX1_note 4 = .ok (.bipush 6, 2) := by decide +kernel
theorem dX1_note_6 : decode cX1_note 6 = .ok (.if_icmp .lt 5, 3) := by decide +kernel
theorem dX1_note_9 : decode cX1_note 9 = .ok (.iconst 0, 1) := by decide +kernel
theorem dX1_note_10 : decode cX1_note 10 = .ok (.ireturn, 1) := by decide +kernel
theorem dX1_note_11 : decode cX1_note 11 = .ok (.aload_n 0, 1) := by decide +kernel
theorem dX1_note_12 : decode cX1_note 12 = .ok (.getfield 9, 3) := by decide +kernel
theorem dX1_note_15 : decode cX1_note 15 = .ok (.aload_n 0, 1) := by decide +kernel
theorem dX1_note_16 : decode cX1_note 16 = .ok (.getfield 21, 3) := by decide +kernel
theorem dX1_note_19 : decode cX1_note 19 = .ok (.iload_n 1, 1) := by decide +kernel
theorem dX1_note_20 : decode cX1_note 20 = .ok (.iastore, 1) := by decide +kernel
theorem dX1_note_21 : decode cX1_note 21 = .ok (.aload_n 0, 1) := by decide +kernel
theorem dX1_note_22 : decode cX1_note 22 = .ok (.getfield 15, 3) := by decide +kernel
theorem dX1_note_25 : decode cX1_note 25 = .ok (.aload_n 0, 1) := by decide +kernel
theorem dX1_note_26 : decode cX1_note 26 = .ok (.getfield 21, 3) := by decide +kernel
theorem dX1_note_29 : decode cX1_note 29 = .ok (.iload_n 2, 1) := by decide +kernel
theorem dX1_note_30 : decode cX1_note 30 = .ok (.iastore, 1) := by decide +kernel
theorem dX1_note_31 : decode cX1_note 31 = .ok (.aload_n 0, 1) := by decide +kernel
theorem dX1_note_32 : decode cX1_note 32 = .ok (.getfield 18, 3) := by decide +kernel
theorem dX1_note_35 : decode cX1_note 35 = .ok (.aload_n 0, 1) := by decide +kernel
theorem dX1_note_36 : decode cX1_note 36 = .ok (.getfield 21, 3) := by decide +kernel
theorem dX1_note_39 : decode cX1_note 39 = .ok (.iload_n 3, 1) := by decide +kernel
theorem dX1_note_40 : decode cX1_note 40 = .ok (.iastore, 1) := by decide +kernel
theorem dX1_note_41 : decode cX1_note 41 = .ok (.aload_n 0, 1) := by decide +kernel
theorem dX1_note_42 : decode cX1_note 42 = .ok (.dup, 1) := by decide +kernel
theorem dX1_note_43 : decode cX1_note 43 = .ok (.getfield 21, 3) := by decide +kernel
theorem dX1_note_46 : decode cX1_note 46 = .ok (.iconst 1, 1) := by decide +kernel
theorem dX1_note_47 : decode cX1_note 47 = .ok (.iadd, 1) := by decide +kernel
theorem dX1_note_48 : decode cX1_note 48 = .ok (.putfield 21, 3) := by decide +kernel
theorem dX1_note_51 : decode cX1_note 51 = .ok (.iconst 1, 1) := by decide +kernel
theorem dX1_note_52 : decode cX1_note 52 = .ok (.ireturn, 1) := by decide +kernel
theorem dX1_isSoOf_0 : decode cX1_isSoOf 0 = .ok (.aload_n 0, 1) := by decide +kernel
theorem dX1_isSoOf_1 : decode cX1_isSoOf 1 = .ok (.invokevirtual 25, 3) := by decide +kernel
theorem dX1_isSoOf_4 : decode cX1_isSoOf 4 = .ok (.istore_n 2, 1) := by decide +kernel
theorem dX1_isSoOf_5 : decode cX1_isSoOf 5 = .ok (.iconst 0, 1) := by decide +kernel
theorem dX1_isSoOf_6 : decode cX1_isSoOf 6 = .ok (.istore_n 3, 1) := by decide +kernel
theorem dX1_isSoOf_7 : decode cX1_isSoOf 7 = .ok (.iload_n 3, 1) := by decide +kernel
theorem dX1_isSoOf_8 : decode cX1_isSoOf 8 = .ok (.iload_n 2, 1) := by decide +kernel
theorem dX1_isSoOf_9 : decode cX1_isSoOf 9 = .ok (.if_icmp .gt 24, 3) := by decide +kernel
theorem dX1_isSoOf_12 : decode cX1_isSoOf 12 = .ok (.aload_n 0, 1) := by decide +kernel
theorem dX1_isSoOf_13 : decode cX1_isSoOf 13 = .ok (.aload_n 1, 1) := by decide +kernel
theorem dX1_isSoOf_14 : decode cX1_isSoOf 14 = .ok (.iload_n 3, 1) := by decide +kernel
theorem dX1_isSoOf_15 : decode cX1_isSoOf 15 = .ok (.invokevirtual 29, 3) := by decide +kernel
theorem dX1_isSoOf_18 : decode cX1_isSoOf 18 = .ok (.ifCond .ne 5, 3) := by decide +kernel
theorem dX1_isSoOf_21 : decode cX1_isSoOf 21 = .ok (.iconst 0, 1) := by decide +kernel
theorem dX1_isSoOf_22 : decode cX1_isSoOf 22 = .ok (.ireturn, 1) := by decide +kernel
theorem dX1_isSoOf_23 : decode cX1_isSoOf 23 = .ok (.aload_n 1, 1) := by decide +kernel
theorem dX1_isSoOf_24 : decode cX1_isSoOf 24 = .ok (.invokevirtual 33, 3) := by decide +kernel
theorem dX1_isSoOf_27 : decode cX1_isSoOf 27 = .ok (.iinc 3 1, 3) := by decide +kernel
theorem dX1_isSoOf_30 : decode cX1_isSoOf 30 = .ok (.goto (-23), 3) := by decide +kernel
theorem dX1_isSoOf_33 : decode cX1_isSoOf 33 = .ok (.iconst 1, 1) := by decide +kernel
theorem dX1_isSoOf_34 : decode cX1_isSoOf 34 = .ok (.ireturn, 1) := by decide +kernel
theorem dX1_latestTick_0 : decode cX1_latestTick 0 = .ok (.iconst (-1), 1) := by decide +kernel
theorem dX1_latestTick_1 : decode cX1_latestTick 1 = .ok (.istore_n 1, 1) := by decide +kernel
theorem dX1_latestTick_2 : decode cX1_latestTick 2 = .ok (.iconst 0, 1) := by decide +kernel
theorem dX1_latestTick_3 : decode cX1_latestTick 3 = .ok (.istore_n 2, 1) := by decide +kernel
theorem dX1_latestTick_4 : decode cX1_latestTick 4 = .ok (.iload_n 2, 1) := by decide +kernel
theorem dX1_latestTick_5 : decode cX1_latestTick 5 = .ok (.aload_n 0, 1) := by decide +kernel
theorem dX1_latestTick_6 : decode cX1_latestTick 6 = .ok (.getfield 21, 3) := by decide +kernel
theorem dX1_latestTick_9 : decode cX1_latestTick 9 = .ok (.if_icmp .ge 20, 3) := by decide +kernel
theorem dX1_latestTick_12 : decode cX1_latestTick 12 = .ok (.iload_n 1, 1) := by decide +kernel
theorem dX1_latestTick_13 : decode cX1_latestTick 13 = .ok (.aload_n 0, 1) := by decide +kernel
theorem dX1_latestTick_14 : decode cX1_latestTick 14 = .ok (.getfield 9, 3) := by decide +kernel
theorem dX1_latestTick_17 : decode cX1_latestTick 17 = .ok (.iload_n 2, 1) := by decide +kernel
theorem dX1_latestTick_18 : decode cX1_latestTick 18 = .ok (.iaload, 1) := by decide +kernel
theorem dX1_latestTick_19 : decode cX1_latestTick 19 = .ok (.invokestatic 38, 3) := by decide +kernel
theorem dX1_latestTick_22 : decode cX1_latestTick 22 = .ok (.istore_n 1, 1) := by decide +kernel
theorem dX1_latestTick_23 : decode cX1_latestTick 23 = .ok (.iinc 2 1, 3) := by decide +kernel
theorem dX1_latestTick_26 : decode cX1_latestTick 26 = .ok (.goto (-22), 3) := by decide +kernel
theorem dX1_latestTick_29 : decode cX1_latestTick 29 = .ok (.iload_n 1, 1) := by decide +kernel
theorem dX1_latestTick_30 : decode cX1_latestTick 30 = .ok (.ireturn, 1) := by decide +kernel
theorem dX1_agrees_0 : decode cX1_agrees 0 = .ok (.iconst 0, 1) := by decide +kernel
theorem dX1_agrees_1 : decode cX1_agrees 1 = .ok (.istore_n 3, 1) := by decide +kernel
theorem dX1_agrees_2 : decode cX1_agrees 2 = .ok (.iload_n 3, 1) := by decide +kernel
theorem dX1_agrees_3 : decode cX1_agrees 3 = .ok (.aload_n 0, 1) := by decide +kernel
theorem dX1_agrees_4 : decode cX1_agrees 4 = .ok (.getfield 21, 3) := by decide +kernel
theorem dX1_agrees_7 : decode cX1_agrees 7 = .ok (.if_icmp .ge 54, 3) := by decide +kernel
theorem dX1_agrees_10 : decode cX1_agrees 10 = .ok (.aload_n 0, 1) := by decide +kernel
theorem dX1_agrees_11 : decode cX1_agrees 11 = .ok (.getfield 9, 3) := by decide +kernel
theorem dX1_agrees_14 : decode cX1_agrees 14 = .ok (.iload_n 3, 1) := by decide +kernel
theorem dX1_agrees_15 : decode cX1_agrees 15 = .ok (.iaload, 1) := by decide +kernel
theorem dX1_agrees_16 : decode cX1_agrees 16 = .ok (.iload_n 2, 1) := by decide +kernel
theorem dX1_agrees_17 : decode cX1_agrees 17 = .ok (.if_icmp .ne 38, 3) := by decide +kernel
theorem dX1_agrees_20 : decode cX1_agrees 20 = .ok (.aload_n 1, 1) := by decide +kernel
theorem dX1_agrees_21 : decode cX1_agrees 21 = .ok (.aload_n 0, 1) := by decide +kernel
theorem dX1_agrees_22 : decode cX1_agrees 22 = .ok (.getfield 15, 3) := by decide +kernel
theorem dX1_agrees_25 : decode cX1_agrees 25 = .ok (.iload_n 3, 1) := by decide +kernel
theorem dX1_agrees_26 : decode cX1_agrees 26 = .ok (.iaload, 1) := by decide +kernel
theorem dX1_agrees_27 : decode cX1_agrees 27 = .ok (.invokevirtual 44, 3) := by decide +kernel
theorem dX1_agrees_30 : decode cX1_agrees 30 = .ok (.ifCond .eq 23, 3) := by decide +kernel
theorem dX1_agrees_33 : decode cX1_agrees 33 = .ok (.aload_n 1, 1) := by decide +kernel
theorem dX1_agrees_34 : decode cX1_agrees 34 = .ok (.getfield 48, 3) := by decide +kernel
theorem dX1_agrees_37 : decode cX1_agrees 37 = .ok (.aload_n 0, 1) := by decide +kernel
theorem dX1_agrees_38 : decode cX1_agrees 38 = .ok (.getfield 15, 3) := by decide +kernel
theorem dX1_agrees_41 : decode cX1_agrees 41 = .ok (.iload_n 3, 1) := by decide +kernel
theorem dX1_agrees_42 : decode cX1_agrees 42 = .ok (.iaload, 1) := by decide +kernel
theorem dX1_agrees_43 : decode cX1_agrees 43 = .ok (.iaload, 1) := by decide +kernel
theorem dX1_agrees_44 : decode cX1_agrees 44 = .ok (.aload_n 0, 1) := by decide +kernel
theorem dX1_agrees_45 : decode cX1_agrees 45 = .ok (.getfield 18, 3) := by decide +kernel
theorem dX1_agrees_48 : decode cX1_agrees 48 = .ok (.iload_n 3, 1) := by decide +kernel
theorem dX1_agrees_49 : decode cX1_agrees 49 = .ok (.iaload, 1) := by decide +kernel
theorem dX1_agrees_50 : decode cX1_agrees 50 = .ok (.if_icmp .eq 5, 3) := by decide +kernel
theorem dX1_agrees_53 : decode cX1_agrees 53 = .ok (.iconst 0, 1) := by decide +kernel
theorem dX1_agrees_54 : decode cX1_agrees 54 = .ok (.ireturn, 1) := by decide +kernel
theorem dX1_agrees_55 : decode cX1_agrees 55 = .ok (.iinc 3 1, 3) := by decide +kernel
theorem dX1_agrees_58 : decode cX1_agrees 58 = .ok (.goto (-56), 3) := by decide +kernel
theorem dX1_agrees_61 : decode cX1_agrees 61 = .ok (.iconst 1, 1) := by decide +kernel
theorem dX1_agrees_62 : decode cX1_agrees 62 = .ok (.ireturn, 1) := by decide +kernel
theorem dX2_init_0 : decode cX2_init 0 = .ok (.aload_n 0, 1) := by decide +kernel
theorem dX2_init_1 : decode cX2_init 1 = .ok (.invokespecial 3, 3) := by decide +kernel
theorem dX2_init_4 : decode cX2_init 4 = .ok (.aload_n 0, 1) := by decide +kernel
theorem dX2_init_5 : decode cX2_init 5 = .ok (.iconst 4, 1) := by decide +kernel
theorem dX2_init_6 : decode cX2_init 6 = .ok (.bipush 40, 2) := by decide +kernel
theorem dX2_init_8 : decode cX2_init 8 = .ok (.multianewarray 9 2, 4) := by decide +kernel
theorem dX2_init_12 : decode cX2_init 12 = .ok (.putfield 11, 3) := by decide +kernel
theorem dX2_init_15 : decode cX2_init 15 = .ok (.aload_n 0, 1) := by decide +kernel
theorem dX2_init_16 : decode cX2_init 16 = .ok (.iconst 4, 1) := by decide +kernel
theorem dX2_init_17 : decode cX2_init 17 = .ok (.newarray .int, 2) := by decide +kernel
theorem dX2_init_19 : decode cX2_init 19 = .ok (.dup, 1) := by decide +kernel
theorem dX2_init_20 : decode cX2_init 20 = .ok (.iconst 0, 1) := by decide +kernel
theorem dX2_init_21 : decode cX2_init 21 = .ok (.iconst (-1), 1) := by decide +kernel
theorem dX2_init_22 : decode cX2_init 22 = .ok (.iastore, 1) := by decide +kernel
theorem dX2_init_23 : decode cX2_init 23 = .ok (.dup, 1) := by decide +kernel
theorem dX2_init_24 : decode cX2_init 24 = .ok (.iconst 1, 1) := by decide +kernel
theorem dX2_init_25 : decode cX2_init 25 = .ok (.iconst (-1), 1) := by decide +kernel
theorem dX2_init_26 : decode cX2_init 26 = .ok (.iastore, 1) := by decide +kernel
theorem dX2_init_27 : decode cX2_init 27 = .ok (.dup, 1) := by decide +kernel
theorem dX2_init_28 : decode cX2_init 28 = .ok (.iconst 2, 1) := by decide +kernel
theorem dX2_init_29 : decode cX2_init 29 = .ok (.iconst (-1), 1) := by decide +kernel
theorem dX2_init_30 : decode cX2_init 30 = .ok (.iastore, 1) := by decide +kernel
theorem dX2_init_31 : decode cX2_init 31 = .ok (.dup, 1) := by decide +kernel
theorem dX2_init_32 : decode cX2_init 32 = .ok (.iconst 3, 1) := by decide +kernel
theorem dX2_init_33 : decode cX2_init 33 = .ok (.iconst (-1), 1) := by decide +kernel
theorem dX2_init_34 : decode cX2_init 34 = .ok (.iastore, 1) := by decide +kernel
theorem dX2_init_35 : decode cX2_init 35 = .ok (.putfield 16, 3) := by decide +kernel
theorem dX2_init_38 : decode cX2_init 38 = .ok (.aload_n 0, 1) := by decide +kernel
theorem dX2_init_39 : decode cX2_init 39 = .ok (.iconst 4, 1) := by decide +kernel
theorem dX2_init_40 : decode cX2_init 40 = .ok (.newarray .int, 2) := by decide +kernel
theorem dX2_init_42 : decode cX2_init 42 = .ok (.putfield 20, 3) := by decide +kernel
theorem dX2_init_45 : decode cX2_init 45 = .ok (.return_, 1) := by decide +kernel
theorem dX2_isNothing_0 : decode cX2_isNothing 0 = .ok (.aload_n 0, 1) := by decide +kernel
theorem dX2_isNothing_1 : decode cX2_isNothing 1 = .ok (.getfield 16, 3) := by decide +kernel
theorem dX2_isNothing_4 : decode cX2_isNothing 4 = .ok (.iload_n 1, 1) := by decide +kernel
theorem dX2_isNothing_5 : decode cX2_isNothing 5 = .ok (.iaload, 1) := by decide +kernel
theorem dX2_isNothing_6 : decode cX2_isNothing 6 = .ok (.iconst (-1), 1) := by decide +kernel
theorem dX2_isNothing_7 : decode cX2_isNothing 7 = .ok (.if_icmp .ne 7, 3) := by decide +kernel
theorem dX2_isNothing_10 : decode cX2_isNothing 10 = .ok (.iconst 1, 1) := by decide +kernel
theorem dX2_isNothing_11 : decode cX2_isNothing 11 = .ok (.goto 4, 3) := by decide +kernel
theorem dX2_isNothing_14 : decode cX2_isNothing 14 = .ok (.iconst 0, 1) := by decide +kernel
theorem dX2_isNothing_15 : decode cX2_isNothing 15 = .ok (.ireturn, 1) := by decide +kernel
theorem dX2_make_0 : decode cX2_make 0 = .ok (.aload_n 0, 1) := by decide +kernel
theorem dX2_make_1 : decode cX2_make 1 = .ok (.getfield 20, 3) := by decide +kernel
theorem dX2_make_4 : decode cX2_make 4 = .ok (.iload_n 1, 1) := by decide +kernel
theorem dX2_make_5 : decode cX2_make 5 = .ok (.iload_n 2, 1) := by decide +kernel
theorem dX2_make_6 : decode cX2_make 6 = .ok (.iastore, 1) := by decide +kernel
theorem dX2_make_7 : decode cX2_make 7 = .ok (.aload_n 0, 1) := by decide +kernel
theorem dX2_make_8 : decode cX2_make 8 = .ok (.getfield 16, 3) := by decide +kernel
theorem dX2_make_11 : decode cX2_make 11 = .ok (.iload_n 1, 1) := by decide +kernel
theorem dX2_make_12 : decode cX2_make 12 = .ok (.iload_n 3, 1) := by decide +kernel
theorem dX2_make_13 : decode cX2_make 13 = .ok (.iastore, 1) := by decide +kernel
theorem dX2_make_14 : decode cX2_make 14 = .ok (.iconst 0, 1) := by decide +kernel
theorem dX2_make_15 : decode cX2_make 15 = .ok (.istore 4, 2) := by decide +kernel
theorem dX2_make_17 : decode cX2_make 17 = .ok (.iload 4, 2) := by decide +kernel
theorem dX2_make_19 : decode cX2_make 19 = .ok (.iload_n 3, 1) := by decide +kernel
theorem dX2_make_20 : decode cX2_make 20 = .ok (.if_icmp .ge 19, 3) := by decide +kernel
theorem dX2_make_23 : decode cX2_make 23 = .ok (.aload_n 0, 1) := by decide +kernel
theorem dX2_make_24 : decode cX2_make 24 = .ok (.getfield 11, 3) := by decide +kernel
theorem dX2_make_27 : decode cX2_make 27 = .ok (.iload_n 1, 1) := by decide +kernel
theorem dX2_make_28 : decode cX2_make 28 = .ok (.aaload, 1) := by decide +kernel
theorem dX2_make_29 : decode cX2_make 29 = .ok (.iload 4, 2) := by decide +kernel
theorem dX2_make_31 : decode cX2_make 31 = .ok (.iconst 0, 1) := by decide +kernel
theorem dX2_make_32 : decode cX2_make 32 = .ok (.iastore, 1) := by decide +kernel
theorem dX2_make_33 : decode cX2_make 33 = .ok (.iinc 4 1, 3) := by decide +kernel
theorem dX2_make_36 : decode cX2_make 36 = .ok (.goto (-19), 3) := by decide +kernel
theorem dX2_make_39 : decode cX2_make 39 = .ok (.return_, 1) := by decide +kernel
theorem dX2_put_0 : decode cX2_put 0 = .ok (.aload_n 0, 1) := by decide +kernel
theorem dX2_put_1 : decode cX2_put 1 = .ok (.getfield 20, 3) := by decide +kernel
theorem dX2_put_4 : decode cX2_put 4 = .ok (.iload_n 1, 1) := by decide +kernel
theorem dX2_put_5 : decode cX2_put 5 = .ok (.iaload, 1) := by decide +kernel
theorem dX2_put_6 : decode cX2_put 6 = .ok (.lookupswitch 52 #[(0, 26), (1, 39)], 26) := by decide +kernel
theorem dX2_put_32 : decode cX2_put 32 = .ok (.aload_n 0, 1) := by decide +kernel
theorem dX2_put_33 : decode cX2_put 33 = .ok (.getfield 11, 3) := by decide +kernel
theorem dX2_put_36 : decode cX2_put 36 = .ok (.iload_n 1, 1) := by decide +kernel
theorem dX2_put_37 : decode cX2_put 37 = .ok (.aaload, 1) := by decide +kernel
theorem dX2_put_38 : decode cX2_put 38 = .ok (.iload_n 2, 1) := by decide +kernel
theorem dX2_put_39 : decode cX2_put 39 = .ok (.iload_n 3, 1) := by decide +kernel
theorem dX2_put_40 : decode cX2_put 40 = .ok (.i2b, 1) := by decide +kernel
theorem dX2_put_41 : decode cX2_put 41 = .ok (.iastore, 1) := by decide +kernel
theorem dX2_put_42 : decode cX2_put 42 = .ok (.goto 25, 3) := by decide +kernel
theorem dX2_put_45 : decode cX2_put 45 = .ok (.aload_n 0, 1) := by decide +kernel
theorem dX2_put_46 : decode cX2_put 46 = .ok (.getfield 11, 3) := by decide +kernel
theorem dX2_put_49 : decode cX2_put 49 = .ok (.iload_n 1, 1) := by decide +kernel
theorem dX2_put_50 : decode cX2_put 50 = .ok (.aaload, 1) := by decide +kernel
theorem dX2_put_51 : decode cX2_put 51 = .ok (.iload_n 2, 1) := by decide +kernel
theorem dX2_put_52 : decode cX2_put 52 = .ok (.iload_n 3, 1) := by decide +kernel
theorem dX2_put_53 : decode cX2_put 53 = .ok (.i2s, 1) := by decide +kernel
theorem dX2_put_54 : decode cX2_put 54 = .ok (.iastore, 1) := by decide +kernel
theorem dX2_put_55 : decode cX2_put 55 = .ok (.goto 12, 3) := by decide +kernel
theorem dX2_put_58 : decode cX2_put 58 = .ok (.aload_n 0, 1) := by decide +kernel
theorem dX2_put_59 : decode cX2_put 59 = .ok (.getfield 11, 3) := by decide +kernel
theorem dX2_put_62 : decode cX2_put 62 = .ok (.iload_n 1, 1) := by decide +kernel
theorem dX2_put_63 : decode cX2_put 63 = .ok (.aaload, 1) := by decide +kernel
theorem dX2_put_64 : decode cX2_put 64 = .ok (.iload_n 2, 1) := by decide +kernel
theorem dX2_put_65 : decode cX2_put 65 = .ok (.iload_n 3, 1) := by decide +kernel
theorem dX2_put_66 : decode cX2_put 66 = .ok (.iastore, 1) := by decide +kernel
theorem dX2_put_67 : decode cX2_put 67 = .ok (.return_, 1) := by decide +kernel
theorem dX2_faultAt_0 : decode cX2_faultAt 0 = .ok (.aload_n 0, 1) := by decide +kernel
theorem dX2_faultAt_1 : decode cX2_faultAt 1 = .ok (.iload_n 1, 1) := by decide +kernel
theorem dX2_faultAt_2 : decode cX2_faultAt 2 = .ok (.invokevirtual 23, 3) := by decide +kernel
theorem dX2_faultAt_5 : decode cX2_faultAt 5 = .ok (.ifCond .eq 5, 3) := by decide +kernel
theorem dX2_faultAt_8 : decode cX2_faultAt 8 = .ok (.iconst 1, 1) := by decide +kernel
theorem dX2_faultAt_9 : decode cX2_faultAt 9 = .ok (.ireturn, 1) := by decide +kernel
theorem dX2_faultAt_10 : decode cX2_faultAt 10 = .ok (.iload_n 2, 1) := by decide +kernel
theorem dX2_faultAt_11 : decode cX2_faultAt 11 = .ok (.iconst 0, 1) := by decide +kernel
theorem dX2_faultAt_12 : decode cX2_faultAt 12 = .ok (.aload_n 0, 1) := by decide +kernel
theorem dX2_faultAt_13 : decode cX2_faultAt 13 = .ok (.getfield 16, 3) := by decide +kernel
theorem dX2_faultAt_16 : decode cX2_faultAt 16 = .ok (.iload_n 1, 1) := by decide +kernel
theorem dX2_faultAt_17 : decode cX2_faultAt 17 = .ok (.iaload, 1) := by decide +kernel
theorem dX2_faultAt_18 : decode cX2_faultAt 18 = .ok (.iconst 1, 1) := by decide +kernel
theorem dX2_faultAt_19 : decode cX2_faultAt 19 = .ok (.isub, 1) := by decide +kernel
theorem dX2_faultAt_20 : decode cX2_faultAt 20 = .ok (.invokestatic 27, 3) := by decide +kernel
theorem dX2_faultAt_23 : decode cX2_faultAt 23 = .ok (.ifCond .eq 7, 3) := by decide +kernel
theorem dX2_faultAt_26 : decode cX2_faultAt 26 = .ok (.iconst 0, 1) := by decide +kernel
theorem dX2_faultAt_27 : decode cX2_faultAt 27 = .ok (.goto 4, 3) := by decide +kernel
theorem dX2_faultAt_30 : decode cX2_faultAt 30 = .ok (.iconst 2, 1) := by decide +kernel
theorem dX2_faultAt_31 : decode cX2_faultAt 31 = .ok (.ireturn, 1) := by decide +kernel
theorem dX2_faultAs_0 : decode cX2_faultAs 0 = .ok (.aload_n 0, 1) := by decide +kernel
theorem dX2_faultAs_1 : decode cX2_faultAs 1 = .ok (.iload_n 1, 1) := by decide +kernel
theorem dX2_faultAs_2 : decode cX2_faultAs 2 = .ok (.invokevirtual 23, 3) := by decide +kernel
theorem dX2_faultAs_5 : decode cX2_faultAs 5 = .ok (.ifCond .ne 13, 3) := by decide +kernel
theorem dX2_faultAs_8 : decode cX2_faultAs 8 = .ok (.aload_n 0, 1) := by decide +kernel
theorem dX2_faultAs_9 : decode cX2_faultAs 9 = .ok (.getfield 20, 3) := by decide +kernel
theorem dX2_faultAs_12 : decode cX2_faultAs 12 = .ok (.iload_n 1, 1) := by decide +kernel
theorem dX2_faultAs_13 : decode cX2_faultAs 13 = .ok (.iaload, 1) := by decide +kernel
theorem dX2_faultAs_14 : decode cX2_faultAs 14 = .ok (.iload_n 2, 1) := by decide +kernel
theorem dX2_faultAs_15 : decode cX2_faultAs 15 = .ok (.if_icmp .ne 7, 3) := by decide +kernel
theorem dX2_faultAs_18 : decode cX2_faultAs 18 = .ok (.iconst 0, 1) := by decide +kernel
theorem dX2_faultAs_19 : decode cX2_faultAs 19 = .ok (.goto 4, 3) := by decide +kernel
theorem dX2_faultAs_22 : decode cX2_faultAs 22 = .ok (.iconst 3, 1) := by decide +kernel
theorem dX2_faultAs_23 : decode cX2_faultAs 23 = .ok (.ireturn, 1) := by decide +kernel
theorem dX2_faultOfPair_0 : decode cX2_faultOfPair 0 = .ok (.aload_n 0, 1) := by decide +kernel
theorem dX2_faultOfPair_1 : decode cX2_faultOfPair 1 = .ok (.iload_n 1, 1) := by decide +kernel
theorem dX2_faultOfPair_2 : decode cX2_faultOfPair 2 = .ok (.iload_n 2, 1) := by decide +kernel
theorem dX2_faultOfPair_3 : decode cX2_faultOfPair 3 = .ok (.invokevirtual 31, 3) := by decide +kernel
theorem dX2_faultOfPair_6 : decode cX2_faultOfPair 6 = .ok (.istore 5, 2) := by decide +kernel
theorem dX2_faultOfPair_8 : decode cX2_faultOfPair 8 = .ok (.iload 5, 2) := by decide +kernel
theorem dX2_faultOfPair_10 : decode cX2_faultOfPair 10 = .ok (.ifCond .ne 11, 3) := by decide +kernel
theorem dX2_faultOfPair_13 : decode cX2_faultOfPair 13 = .ok (.aload_n 0, 1) := by decide +kernel
theorem dX2_faultOfPair_14 : decode cX2_faultOfPair 14 = .ok (.iload_n 1, 1) := by decide +kernel
theorem dX2_faultOfPair_15 : decode cX2_faultOfPair 15 = .ok (.iload_n 3, 1) := by decide +kernel
theorem dX2_faultOfPair_16 : decode cX2_faultOfPair 16 = .ok (.invokevirtual 35, 3) := by decide +kernel
theorem dX2_faultOfPair_19 : decode cX2_faultOfPair 19 = .ok (.istore 5, 2) := by decide +kernel
theorem dX2_faultOfPair_21 : decode cX2_faultOfPair 21 = .ok (.iload 5, 2) := by decide +kernel
theorem dX2_faultOfPair_23 : decode cX2_faultOfPair 23 = .ok (.ifCond .eq 8, 3) := by decide +kernel
theorem dX2_faultOfPair_26 : decode cX2_faultOfPair 26 = .ok (.iload 5, 2) := by decide +kernel
theorem dX2_faultOfPair_28 : decode cX2_faultOfPair 28 = .ok (.goto 16, 3) := by decide +kernel
theorem dX2_faultOfPair_31 : decode cX2_faultOfPair 31 = .ok (.aload_n 0, 1) := by decide +kernel
theorem dX2_faultOfPair_32 : decode cX2_faultOfPair 32 = .ok (.iload_n 1, 1) := by decide +kernel
theorem dX2_faultOfPair_33 : decode cX2_faultOfPair 33 = .ok (.iload_n 3, 1) := by decide +kernel
theorem dX2_faultOfPair_34 : decode cX2_faultOfPair 34 = .ok (.iconst 2, 1) := by decide +kernel
theorem dX2_faultOfPair_35 : decode cX2_faultOfPair 35 = .ok (.iload 4, 2) := by decide +kernel
theorem dX2_faultOfPair_37 : decode cX2_faultOfPair 37 = .ok (.imul, 1) := by decide +kernel
theorem dX2_faultOfPair_38 : decode cX2_faultOfPair 38 = .ok (.iadd, 1) := by decide +kernel
theorem dX2_faultOfPair_39 : decode cX2_faultOfPair 39 = .ok (.iconst 1, 1) := by decide +kernel
theorem dX2_faultOfPair_40 : decode cX2_faultOfPair 40 = .ok (.iadd, 1) := by decide +kernel
theorem dX2_faultOfPair_41 : decode cX2_faultOfPair 41 = .ok (.invokevirtual 35, 3) := by decide +kernel
theorem dX2_faultOfPair_44 : decode cX2_faultOfPair 44 = .ok (.ireturn, 1) := by decide +kernel
theorem dX3_init_0 : decode cX3_init 0 = .ok (.aload_n 0, 1) := by decide +kernel
theorem dX3_init_1 : decode cX3_init 1 = .ok (.invokespecial 3, 3) := by decide +kernel
theorem dX3_init_4 : decode cX3_init 4 = .ok (.aload_n 0, 1) := by decide +kernel
theorem dX3_init_5 : decode cX3_init 5 = .ok (.sipush 160, 3) := by decide +kernel
theorem dX3_init_8 : decode cX3_init 8 = .ok (.newarray .byte, 2) := by decide +kernel
theorem dX3_init_10 : decode cX3_init 10 = .ok (.putfield 11, 3) := by decide +kernel
theorem dX3_init_13 : decode cX3_init 13 = .ok (.return_, 1) := by decide +kernel
theorem dX3_put_0 : decode cX3_put 0 = .ok (.aload_n 0, 1) := by decide +kernel
theorem dX3_put_1 : decode cX3_put 1 = .ok (.getfield 15, 3) := by decide +kernel
theorem dX3_put_4 : decode cX3_put 4 = .ok (.sipush 160, 3) := by decide +kernel
theorem dX3_put_7 : decode cX3_put 7 = .ok (.if_icmp .lt 5, 3) := by decide +kernel
theorem dX3_put_10 : decode cX3_put 10 = .ok (.iconst 0, 1) := by decide +kernel
theorem dX3_put_11 : decode cX3_put 11 = .ok (.ireturn, 1) := by decide +kernel
theorem dX3_put_12 : decode cX3_put 12 = .ok (.aload_n 0, 1) := by decide +kernel
theorem dX3_put_13 : decode cX3_put 13 = .ok (.getfield 11, 3) := by decide +kernel
theorem dX3_put_16 : decode cX3_put 16 = .ok (.aload_n 0, 1) := by decide +kernel
theorem dX3_put_17 : decode cX3_put 17 = .ok (.getfield 15, 3) := by decide +kernel
theorem dX3_put_20 : decode cX3_put 20 = .ok (.iload_n 1, 1) := by decide +kernel
theorem dX3_put_21 : decode cX3_put 21 = .ok (.i2b, 1) := by decide +kernel
theorem dX3_put_22 : decode cX3_put 22 = .ok (.bastore, 1) := by decide +kernel
theorem dX3_put_23 : decode cX3_put 23 = .ok (.aload_n 0, 1) := by decide +kernel
theorem dX3_put_24 : decode cX3_put 24 = .ok (.dup, 1) := by decide +kernel
theorem dX3_put_25 : decode cX3_put 25 = .ok (.getfield 15, 3) := by decide +kernel
theorem dX3_put_28 : decode cX3_put 28 = .ok (.iconst 1, 1) := by decide +kernel
theorem dX3_put_29 : decode cX3_put 29 = .ok (.iadd, 1) := by decide +kernel
theorem dX3_put_30 : decode cX3_put 30 = .ok (.putfield 15, 3) := by decide +kernel
theorem dX3_put_33 : decode cX3_put 33 = .ok (.iconst 1, 1) := by decide +kernel
theorem dX3_put_34 : decode cX3_put 34 = .ok (.ireturn, 1) := by decide +kernel
theorem dX3_tellInto_0 : decode cX3_tellInto 0 = .ok (.aload_n 1, 1) := by decide +kernel
theorem dX3_tellInto_1 : decode cX3_tellInto 1 = .ok (.invokevirtual 19, 3) := by decide +kernel
theorem dX3_tellInto_4 : decode cX3_tellInto 4 = .ok (.aload_n 0, 1) := by decide +kernel
theorem dX3_tellInto_5 : decode cX3_tellInto 5 = .ok (.iconst 0, 1) := by decide +kernel
theorem dX3_tellInto_6 : decode cX3_tellInto 6 = .ok (.putfield 24, 3) := by decide +kernel
theorem dX3_tellInto_9 : decode cX3_tellInto 9 = .ok (.aload_n 0, 1) := by decide +kernel
theorem dX3_tellInto_10 : decode cX3_tellInto 10 = .ok (.iconst 0, 1) := by decide +kernel
theorem dX3_tellInto_11 : decode cX3_tellInto 11 = .ok (.putfield 27, 3) := by decide +kernel
theorem dX3_tellInto_14 : decode cX3_tellInto 14 = .ok (.aload_n 0, 1) := by decide +kernel
theorem dX3_tellInto_15 : decode cX3_tellInto 15 = .ok (.iconst 0, 1) := by decide +kernel
theorem dX3_tellInto_16 : decode cX3_tellInto 16 = .ok (.putfield 30, 3) := by decide +kernel
theorem dX3_tellInto_19 : decode cX3_tellInto 19 = .ok (.aload_n 0, 1) := by decide +kernel
theorem dX3_tellInto_20 : decode cX3_tellInto 20 = .ok (.iconst 0, 1) := by decide +kernel
theorem dX3_tellInto_21 : decode cX3_tellInto 21 = .ok (.putfield 33, 3) := by decide +kernel
theorem dX3_tellInto_24 : decode cX3_tellInto 24 = .ok (.iconst 0, 1) := by decide +kernel
theorem dX3_tellInto_25 : decode cX3_tellInto 25 = .ok (.istore_n 2, 1) := by decide +kernel
theorem dX3_tellInto_26 : decode cX3_tellInto 26 = .ok (.iconst 0, 1) := by decide +kernel
theorem dX3_tellInto_27 : decode cX3_tellInto 27 = .ok (.istore_n 3, 1) := by decide +kernel
theorem dX3_tellInto_28 : decode cX3_tellInto 28 = .ok (.iload_n 3, 1) := by decide +kernel
theorem dX3_tellInto_29 : decode cX3_tellInto 29 = .ok (.sipush 160, 3) := by decide +kernel
theorem dX3_tellInto_32 : decode cX3_tellInto 32 = .ok (.if_icmp .gt 40, 3) := by decide +kernel
theorem dX3_tellInto_35 : decode cX3_tellInto 35 = .ok (.aload_n 0, 1) := by decide +kernel
theorem dX3_tellInto_36 : decode cX3_tellInto 36 = .ok (.invokevirtual 37, 3) := by decide +kernel
theorem dX3_tellInto_39 : decode cX3_tellInto 39 = .ok (.aload_n 0, 1) := by decide +kernel
theorem dX3_tellInto_40 : decode cX3_tellInto 40 = .ok (.getfield 40, 3) := by decide +kernel
theorem dX3_tellInto_43 : decode cX3_tellInto 43 = .ok (.iconst 4, 1) := by decide +kernel
theorem dX3_tellInto_44 : decode cX3_tellInto 44 = .ok (.if_icmp .ne 5, 3) := by decide +kernel
theorem dX3_tellInto_47 : decode cX3_tellInto 47 = .ok (.iload_n 2, 1) := by decide +kernel
theorem dX3_tellInto_48 : decode cX3_tellInto 48 = .ok (.ireturn, 1) := by decide +kernel
theorem dX3_tellInto_49 : decode cX3_tellInto 49 = .ok (.aload_n 0, 1) := by decide +kernel
theorem dX3_tellInto_50 : decode cX3_tellInto 50 = .ok (.aload_n 1, 1) := by decide +kernel
theorem dX3_tellInto_51 : decode cX3_tellInto 51 = .ok (.invokevirtual 43, 3) := by decide +kernel
theorem dX3_tellInto_54 : decode cX3_tellInto 54 = .ok (.aload_n 0, 1) := by decide +kernel
theorem dX3_tellInto_55 : decode cX3_tellInto 55 = .ok (.getfield 24, 3) := by decide +kernel
theorem dX3_tellInto_58 : decode cX3_tellInto 58 = .ok (.ifCond .eq 5, 3) := by decide +kernel
theorem dX3_tellInto_61 : decode cX3_tellInto 61 = .ok (.iload_n 2, 1) := by decide +kernel
theorem dX3_tellInto_62 : decode cX3_tellInto 62 = .ok (.ireturn, 1) := by decide +kernel
theorem dX3_tellInto_63 : decode cX3_tellInto 63 = .ok (.iinc 2 1, 3) := by decide +kernel
theorem dX3_tellInto_66 : decode cX3_tellInto 66 = .ok (.iinc 3 1, 3) := by decide +kernel
theorem dX3_tellInto_69 : decode cX3_tellInto 69 = .ok (.goto (-41), 3) := by decide +kernel
theorem dX3_tellInto_72 : decode cX3_tellInto 72 = .ok (.iload_n 2, 1) := by decide +kernel
theorem dX3_tellInto_73 : decode cX3_tellInto 73 = .ok (.ireturn, 1) := by decide +kernel
theorem dX3_blame_0 : decode cX3_blame 0 = .ok (.aload_n 0, 1) := by decide +kernel
theorem dX3_blame_1 : decode cX3_blame 1 = .ok (.getfield 24, 3) := by decide +kernel
theorem dX3_blame_4 : decode cX3_blame 4 = .ok (.ifCond .ne 16, 3) := by decide +kernel
theorem dX3_blame_7 : decode cX3_blame 7 = .ok (.aload_n 0, 1) := by decide +kernel
theorem dX3_blame_8 : decode cX3_blame 8 = .ok (.iload_n 1, 1) := by decide +kernel
theorem dX3_blame_9 : decode cX3_blame 9 = .ok (.putfield 24, 3) := by decide +kernel
theorem dX3_blame_12 : decode cX3_blame 12 = .ok (.aload_n 0, 1) := by decide +kernel
theorem dX3_blame_13 : decode cX3_blame 13 = .ok (.aload_n 0, 1) := by decide +kernel
theorem dX3_blame_14 : decode cX3_blame 14 = .ok (.getfield 47, 3) := by decide +kernel
theorem dX3_blame_17 : decode cX3_blame 17 = .ok (.putfield 27, 3) := by decide +kernel
theorem dX3_blame_20 : decode cX3_blame 20 = .ok (.return_, 1) := by decide +kernel
theorem dX3_takeLine_0 : decode cX3_takeLine 0 = .ok (.aload_n 0, 1) := by decide +kernel
theorem dX3_takeLine_1 : decode cX3_takeLine 1 = .ok (.getfield 40, 3) := by decide +kernel
theorem dX3_takeLine_4 : decode cX3_takeLine 4 = .ok (.iconst 1, 1) := by decide +kernel
theorem dX3_takeLine_5 : decode cX3_takeLine 5 = .ok (.if_icmp .ne 10, 3) := by decide +kernel
theorem dX3_takeLine_8 : decode cX3_takeLine 8 = .ok (.aload_n 0, 1) := by decide +kernel
theorem dX3_takeLine_9 : decode cX3_takeLine 9 = .ok (.invokevirtual 50, 3) := by decide +kernel
theorem dX3_takeLine_12 : decode cX3_takeLine 12 = .ok (.goto 5, 3) := by decide +kernel
theorem dX3_takeLine_15 : decode cX3_takeLine 15 = .ok (.bipush 7, 2) := by decide +kernel
theorem dX3_takeLine_17 : decode cX3_takeLine 17 = .ok (.istore_n 2, 1) := by decide +kernel
theorem dX3_takeLine_18 : decode cX3_takeLine 18 = .ok (.iload_n 2, 1) := by decide +kernel
theorem dX3_takeLine_19 : decode cX3_takeLine 19 = .ok (.bipush 7, 2) := by decide +kernel
theorem dX3_takeLine_21 : decode cX3_takeLine 21 = .ok (.if_icmp .ne 11, 3) := by decide +kernel
theorem dX3_takeLine_24 : decode cX3_takeLine 24 = .ok (.aload_n 0, 1) := by decide +kernel
theorem dX3_takeLine_25 : decode cX3_takeLine 25 = .ok (.iconst 2, 1) := by decide +kernel
theorem dX3_takeLine_26 : decode cX3_takeLine 26 = .ok (.invokevirtual 54, 3) := by decide +kernel
theorem dX3_takeLine_29 : decode cX3_takeLine 29 = .ok (.goto 52, 3) := by decide +kernel
theorem dX3_takeLine_32 : decode cX3_takeLine 32 = .ok (.iload_n 2, 1) := by decide +kernel
theorem dX3_takeLine_33 : decode cX3_takeLine 33 = .ok (.iconst 4, 1) := by decide +kernel
theorem dX3_takeLine_34 : decode cX3_takeLine 34 = .ok (.if_icmp .ne 11, 3) := by decide +kernel
theorem dX3_takeLine_37 : decode cX3_takeLine 37 = .ok (.aload_n 0, 1) := by decide +kernel
theorem dX3_takeLine_38 : decode cX3_takeLine 38 = .ok (.aload_n 1, 1) := by decide +kernel
theorem dX3_takeLine_39 : decode cX3_takeLine 39 = .ok (.invokevirtual 58, 3) := by decide +kernel
theorem dX3_takeLine_42 : decode cX3_takeLine 42 = .ok (.goto 39, 3) := by decide +kernel
theorem dX3_takeLine_45 : decode cX3_takeLine 45 = .ok (.iload_n 2, 1) := by decide +kernel
theorem dX3_takeLine_46 : decode cX3_takeLine 46 = .ok (.iconst 5, 1) := by decide +kernel
theorem dX3_takeLine_47 : decode cX3_takeLine 47 = .ok (.if_icmp .eq 9, 3) := by decide +kernel
theorem dX3_takeLine_50 : decode cX3_takeLine 50 = .ok (.iload_n 2, 1) := by decide +kernel
theorem dX3_takeLine_51 : decode cX3_takeLine 51 = .ok (.bipush 6, 2) := by decide +kernel
theorem dX3_takeLine_53 : decode cX3_takeLine 53 = .ok (.if_icmp .ne 22, 3) := by decide +kernel
theorem dX3_takeLine_56 : decode cX3_takeLine 56 = .ok (.aload_n 0, 1) := by decide +kernel
theorem dX3_takeLine_57 : decode cX3_takeLine 57 = .ok (.aload_n 1, 1) := by decide +kernel
theorem dX3_takeLine_58 : decode cX3_takeLine 58 = .ok (.iload_n 2, 1) := by decide +kernel
theorem dX3_takeLine_59 : decode cX3_takeLine 59 = .ok (.bipush 6, 2) := by decide +kernel
theorem dX3_takeLine_61 : decode cX3_takeLine 61 = .ok (.if_icmp .ne 7, 3) := by decide +kernel
theorem dX3_takeLine_64 : decode cX3_takeLine 64 = .ok (.iconst 1, 1) := by decide +kernel
theorem dX3_takeLine_65 : decode cX3_takeLine 65 = .ok (.goto 4, 3) := by decide +kernel
theorem dX3_takeLine_68 : decode cX3_takeLine 68 = .ok (.iconst 0, 1) := by decide +kernel
theorem dX3_takeLine_69 : decode cX3_takeLine 69 = .ok (.invokevirtual 61, 3) := by decide +kernel
theorem dX3_takeLine_72 : decode cX3_takeLine 72 = .ok (.goto 9, 3) := by decide +kernel
theorem dX3_takeLine_75 : decode cX3_takeLine 75 = .ok (.aload_n 0, 1) := by decide +kernel
theorem dX3_takeLine_76 : decode cX3_takeLine 76 = .ok (.aload_n 1, 1) := by decide +kernel
theorem dX3_takeLine_77 : decode cX3_takeLine 77 = .ok (.iload_n 2, 1) := by decide +kernel
theorem dX3_takeLine_78 : decode cX3_takeLine 78 = .ok (.invokevirtual 65, 3) := by decide +kernel
theorem dX3_takeLine_81 : decode cX3_takeLine 81 = .ok (.return_, 1) := by decide +kernel
theorem dX3_takeBead_0 : decode cX3_takeBead 0 = .ok (.aload_n 1, 1) := by decide +kernel
theorem dX3_takeBead_1 : decode cX3_takeBead 1 = .ok (.getfield 69, 3) := by decide +kernel
theorem dX3_takeBead_4 : decode cX3_takeBead 4 = .ok (.iconst 4, 1) := by decide +kernel
theorem dX3_takeBead_5 : decode cX3_takeBead 5 = .ok (.if_icmp .lt 8, 3) := by decide +kernel
theorem dX3_takeBead_8 : decode cX3_takeBead 8 = .ok (.aload_n 0, 1) := by decide +kernel
theorem dX3_takeBead_9 : decode cX3_takeBead 9 = .ok (.iconst 5, 1) := by decide +kernel
theorem dX3_takeBead_10 : decode cX3_takeBead 10 = .ok (.invokevirtual 54, 3) := by decide +kernel
theorem dX3_takeBead_13 : decode cX3_takeBead 13 = .ok (.aload_n 0, 1) := by decide +kernel
theorem dX3_takeBead_14 : decode cX3_takeBead 14 = .ok (.getstatic 72, 3) := by decide +kernel
theorem dX3_takeBead_17 : decode cX3_takeBead 17 = .ok (.iconst 1, 1) := by decide +kernel
theorem dX3_takeBead_18 : decode cX3_takeBead 18 = .ok (.iaload, 1) := by decide +kernel
theorem dX3_takeBead_19 : decode cX3_takeBead 19 = .ok (.getstatic 76, 3) := by decide +kernel
theorem dX3_takeBead_22 : decode cX3_takeBead 22 = .ok (.iconst 1, 1) := by decide +kernel
theorem dX3_takeBead_23 : decode cX3_takeBead 23 = .ok (.iaload, 1) := by decide +kernel
theorem dX3_takeBead_24 : decode cX3_takeBead 24 = .ok (.invokevirtual 79, 3) := by decide +kernel
theorem dX3_takeBead_27 : decode cX3_takeBead 27 = .ok (.istore_n 3, 1) := by decide +kernel
theorem dX3_takeBead_28 : decode cX3_takeBead 28 = .ok (.aload_n 0, 1) := by decide +kernel
theorem dX3_takeBead_29 : decode cX3_takeBead 29 = .ok (.getstatic 72, 3) := by decide +kernel
theorem dX3_takeBead_32 : decode cX3_takeBead 32 = .ok (.iconst 2, 1) := by decide +kernel
theorem dX3_takeBead_33 : decode cX3_takeBead 33 = .ok (.iaload, 1) := by decide +kernel
theorem dX3_takeBead_34 : decode cX3_takeBead 34 = .ok (.getstatic 76, 3) := by decide +kernel
theorem dX3_takeBead_37 : decode cX3_takeBead 37 = .ok (.iconst 2, 1) := by decide +kernel
theorem dX3_takeBead_38 : decode cX3_takeBead 38 = .ok (.iaload, 1) := by decide +kernel
theorem dX3_takeBead_39 : decode cX3_takeBead 39 = .ok (.invokevirtual 79, 3) := by decide +kernel
theorem dX3_takeBead_42 : decode cX3_takeBead 42 = .ok (.istore 4, 2) := by decide +kernel
theorem dX3_takeBead_44 : decode cX3_takeBead 44 = .ok (.aload_n 0, 1) := by decide +kernel
theorem dX3_takeBead_45 : decode cX3_takeBead 45 = .ok (.getstatic 72, 3) := by decide +kernel
theorem dX3_takeBead_48 : decode cX3_takeBead 48 = .ok (.iconst 3, 1) := by decide +kernel
theorem dX3_takeBead_49 : decode cX3_takeBead 49 = .ok (.iaload, 1) := by decide +kernel
theorem dX3_takeBead_50 : decode cX3_takeBead 50 = .ok (.getstatic 76, 3) := by decide +kernel
theorem dX3_takeBead_53 : decode cX3_takeBead 53 = .ok (.iconst 3, 1) := by decide +kernel
theorem dX3_takeBead_54 : decode cX3_takeBead 54 = .ok (.iaload, 1) := by decide +kernel
theorem dX3_takeBead_55 : decode cX3_takeBead 55 = .ok (.invokevirtual 79, 3) := by decide +kernel
theorem dX3_takeBead_58 : decode cX3_takeBead 58 = .ok (.istore 5, 2) := by decide +kernel
theorem dX3_takeBead_60 : decode cX3_takeBead 60 = .ok (.aload_n 0, 1) := by decide +kernel
theorem dX3_takeBead_61 : decode cX3_takeBead 61 = .ok (.invokevirtual 83, 3) := by decide +kernel
theorem dX3_takeBead_64 : decode cX3_takeBead 64 = .ok (.aload_n 0, 1) := by decide +kernel
theorem dX3_takeBead_65 : decode cX3_takeBead 65 = .ok (.getfield 24, 3) := by decide +kernel
theorem dX3_takeBead_68 : decode cX3_takeBead 68 = .ok (.ifCond .ne 14, 3) := by decide +kernel
theorem dX3_takeBead_71 : decode cX3_takeBead 71 = .ok (.aload_n 1, 1) := by decide +kernel
theorem dX3_takeBead_72 : decode cX3_takeBead 72 = .ok (.iload_n 2, 1) := by decide +kernel
theorem dX3_takeBead_73 : decode cX3_takeBead 73 = .ok (.iload_n 3, 1) := by decide +kernel
theorem dX3_takeBead_74 : decode cX3_takeBead 74 = .ok (.iload 4, 2) := by decide +kernel
theorem dX3_takeBead_76 : decode cX3_takeBead 76 = .ok (.iload 5, 2) := by decide +kernel
theorem dX3_takeBead_78 : decode cX3_takeBead 78 = .ok (.invokevirtual 86, 3) := by decide +kernel
theorem dX3_takeBead_81 : decode cX3_takeBead 81 = .ok (.pop, 1) := by decide +kernel
theorem dX3_takeBead_82 : decode cX3_takeBead 82 = .ok (.return_, 1) := by decide +kernel
theorem dX3_takeDrag_0 : decode cX3_takeDrag 0 = .ok (.aload_n 0, 1) := by decide +kernel
theorem dX3_takeDrag_1 : decode cX3_takeDrag 1 = .ok (.getfield 33, 3) := by decide +kernel
theorem dX3_takeDrag_4 : decode cX3_takeDrag 4 = .ok (.ifCond .eq 8, 3) := by decide +kernel
theorem dX3_takeDrag_7 : decode cX3_takeDrag 7 = .ok (.aload_n 0, 1) := by decide +kernel
theorem dX3_takeDrag_8 : decode cX3_takeDrag 8 = .ok (.iconst 4, 1) := by decide +kernel
theorem dX3_takeDrag_9 : decode cX3_takeDrag 9 = .ok (.invokevirtual 54, 3) := by decide +kernel
theorem dX3_takeDrag_12 : decode cX3_takeDrag 12 = .ok (.aload_n 0, 1) := by decide +kernel
theorem dX3_takeDrag_13 : decode cX3_takeDrag 13 = .ok (.iconst 1, 1) := by decide +kernel
theorem dX3_takeDrag_14 : decode cX3_takeDrag 14 = .ok (.putfield 33, 3) := by decide +kernel
theorem dX3_takeDrag_17 : decode cX3_takeDrag 17 = .ok (.aload_n 0, 1) := by decide +kernel
theorem dX3_takeDrag_18 : decode cX3_takeDrag 18 = .ok (.iconst 0, 1) := by decide +kernel
theorem dX3_takeDrag_19 : decode cX3_takeDrag 19 = .ok (.iconst 3, 1) := by decide +kernel
theorem dX3_takeDrag_20 : decode cX3_takeDrag 20 = .ok (.invokevirtual 79, 3) := by decide +kernel
theorem dX3_takeDrag_23 : decode cX3_takeDrag 23 = .ok (.istore_n 2, 1) := by decide +kernel
theorem dX3_takeDrag_24 : decode cX3_takeDrag 24 = .ok (.aload_n 0, 1) := by decide +kernel
theorem dX3_takeDrag_25 : decode cX3_takeDrag 25 = .ok (.invokevirtual 83, 3) := by decide +kernel
theorem dX3_takeDrag_28 : decode cX3_takeDrag 28 = .ok (.aload_n 0, 1) := by decide +kernel
theorem dX3_takeDrag_29 : decode cX3_takeDrag 29 = .ok (.getfield 24, 3) := by decide +kernel
theorem dX3_takeDrag_32 : decode cX3_takeDrag 32 = .ok (.ifCond .ne 8, 3) := by decide +kernel
theorem dX3_takeDrag_35 : decode cX3_takeDrag 35 = .ok (.aload_n 1, 1) := by decide +kernel
theorem dX3_takeDrag_36 : decode cX3_takeDrag 36 = .ok (.iload_n 2, 1) := by decide +kernel
theorem dX3_takeDrag_37 : decode cX3_takeDrag 37 = .ok (.putfield 90, 3) := by decide +kernel
theorem dX3_takeDrag_40 : decode cX3_takeDrag 40 = .ok (.return_, 1) := by decide +kernel
theorem dX3_takeKnock_0 : decode cX3_takeKnock 0 = .ok (.aload_n 1, 1) := by decide +kernel
theorem dX3_takeKnock_1 : decode cX3_takeKnock 1 = .ok (.getfield 93, 3) := by decide +kernel
theorem dX3_takeKnock_4 : decode cX3_takeKnock 4 = .ok (.bipush 12, 2) := by decide +kernel
theorem dX3_takeKnock_6 : decode cX3_takeKnock 6 = .ok (.if_icmp .lt 8, 3) := by decide +kernel
theorem dX3_takeKnock_9 : decode cX3_takeKnock 9 = .ok (.aload_n 0, 1) := by decide +kernel
theorem dX3_takeKnock_10 : decode cX3_takeKnock 10 = .ok (.iconst 5, 1) := by decide +kernel
theorem dX3_takeKnock_11 : decode cX3_takeKnock 11 = .ok (.invokevirtual 54, 3) := by decide +kernel
theorem dX3_takeKnock_14 : decode cX3_takeKnock 14 = .ok (.aload_n 0, 1) := by decide +kernel
theorem dX3_takeKnock_15 : decode cX3_takeKnock 15 = .ok (.iconst 0, 1) := by decide +kernel
theorem dX3_takeKnock_16 : decode cX3_takeKnock 16 = .ok (.iconst 3, 1) := by decide +kernel
theorem dX3_takeKnock_17 : decode cX3_takeKnock 17 = .ok (.invokevirtual 79, 3) := by decide +kernel
theorem dX3_takeKnock_20 : decode cX3_takeKnock 20 = .ok (.istore_n 3, 1) := by decide +kernel
theorem dX3_takeKnock_21 : decode cX3_takeKnock 21 = .ok (.aload_n 0, 1) := by decide +kernel
theorem dX3_takeKnock_22 : decode cX3_takeKnock 22 = .ok (.iconst 0, 1) := by decide +kernel
theorem dX3_takeKnock_23 : decode cX3_takeKnock 23 = .ok (.bipush 9, 2) := by decide +kernel
theorem dX3_takeKnock_25 : decode cX3_takeKnock 25 = .ok (.invokevirtual 79, 3) := by decide +kernel
theorem dX3_takeKnock_28 : decode cX3_takeKnock 28 = .ok (.istore 4, 2) := by decide +kernel
theorem dX3_takeKnock_30 : decode cX3_takeKnock 30 = .ok (.aload_n 0, 1) := by decide +kernel
theorem dX3_takeKnock_31 : decode cX3_takeKnock 31 = .ok (.invokevirtual 83, 3) := by decide +kernel
theorem dX3_takeKnock_34 : decode cX3_takeKnock 34 = .ok (.aload_n 0, 1) := by decide +kernel
theorem dX3_takeKnock_35 : decode cX3_takeKnock 35 = .ok (.getfield 24, 3) := by decide +kernel
theorem dX3_takeKnock_38 : decode cX3_takeKnock 38 = .ok (.ifCond .ne 21, 3) := by decide +kernel
theorem dX3_takeKnock_41 : decode cX3_takeKnock 41 = .ok (.aload_n 1, 1) := by decide +kernel
theorem dX3_takeKnock_42 : decode cX3_takeKnock 42 = .ok (.iload_n 3, 1) := by decide +kernel
theorem dX3_takeKnock_43 : decode cX3_takeKnock 43 = .ok (.iload_n 2, 1) := by decide +kernel
theorem dX3_takeKnock_44 : decode cX3_takeKnock 44 = .ok (.ifCond .eq 9, 3) := by decide +kernel
theorem dX3_takeKnock_47 : decode cX3_takeKnock 47 = .ok (.iload 4, 2) := by decide +kernel
theorem dX3_takeKnock_49 : decode cX3_takeKnock 49 = .ok (.ineg, 1) := by decide +kernel
theorem dX3_takeKnock_50 : decode cX3_takeKnock 50 = .ok (.goto 5, 3) := by decide +kernel
theorem dX3_takeKnock_53 : decode cX3_takeKnock 53 = .ok (.iload 4, 2) := by decide +kernel
theorem dX3_takeKnock_55 : decode cX3_takeKnock 55 = .ok (.invokevirtual 96, 3) := by decide +kernel
theorem dX3_takeKnock_58 : decode cX3_takeKnock 58 = .ok (.pop, 1) := by decide +kernel
theorem dX3_takeKnock_59 : decode cX3_takeKnock 59 = .ok (.return_, 1) := by decide +kernel
theorem dX3_takeNumber_0 : decode cX3_takeNumber 0 = .ok (.aload_n 0, 1) := by decide +kernel
theorem dX3_takeNumber_1 : decode cX3_takeNumber 1 = .ok (.invokevirtual 37, 3) := by decide +kernel
theorem dX3_takeNumber_4 : decode cX3_takeNumber 4 = .ok (.aload_n 0, 1) := by decide +kernel
theorem dX3_takeNumber_5 : decode cX3_takeNumber 5 = .ok (.getfield 40, 3) := by decide +kernel
theorem dX3_takeNumber_8 : decode cX3_takeNumber 8 = .ok (.iconst 2, 1) := by decide +kernel
theorem dX3_takeNumber_9 : decode cX3_takeNumber 9 = .ok (.if_icmp .eq 10, 3) := by decide +kernel
theorem dX3_takeNumber_12 : decode cX3_takeNumber 12 = .ok (.aload_n 0, 1) := by decide +kernel
theorem dX3_takeNumber_13 : decode cX3_takeNumber 13 = .ok (.iconst 2, 1) := by decide +kernel
theorem dX3_takeNumber_14 : decode cX3_takeNumber 14 = .ok (.invokevirtual 54, 3) := by decide +kernel
theorem dX3_takeNumber_17 : decode cX3_takeNumber 17 = .ok (.iload_n 1, 1) := by decide +kernel
theorem dX3_takeNumber_18 : decode cX3_takeNumber 18 = .ok (.ireturn, 1) := by decide +kernel
theorem dX3_takeNumber_19 : decode cX3_takeNumber 19 = .ok (.aload_n 0, 1) := by decide +kernel
theorem dX3_takeNumber_20 : decode cX3_takeNumber 20 = .ok (.invokevirtual 100, 3) := by decide +kernel
theorem dX3_takeNumber_23 : decode cX3_takeNumber 23 = .ok (.istore_n 3, 1) := by decide +kernel
theorem dX3_takeNumber_24 : decode cX3_takeNumber 24 = .ok (.iload_n 3, 1) := by decide +kernel
theorem dX3_takeNumber_25 : decode cX3_takeNumber 25 = .ok (.iload_n 1, 1) := by decide +kernel
theorem dX3_takeNumber_26 : decode cX3_takeNumber 26 = .ok (.iload_n 2, 1) := by decide +kernel
theorem dX3_takeNumber_27 : decode cX3_takeNumber 27 = .ok (.invokestatic 103, 3) := by decide +kernel
theorem dX3_takeNumber_30 : decode cX3_takeNumber 30 = .ok (.ifCond .ne 8, 3) := by decide +kernel
theorem dX3_takeNumber_33 : decode cX3_takeNumber 33 = .ok (.aload_n 0, 1) := by decide +kernel
theorem dX3_takeNumber_34 : decode cX3_takeNumber 34 = .ok (.iconst 3, 1) := by decide +kernel
theorem dX3_takeNumber_35 : decode cX3_takeNumber 35 = .ok (.invokevirtual 54, 3) := by decide +kernel
theorem dX3_takeNumber_38 : decode cX3_takeNumber 38 = .ok (.iload_n 3, 1) := by decide +kernel
theorem dX3_takeNumber_39 : decode cX3_takeNumber 39 = .ok (.ireturn, 1) := by decide +kernel
theorem dX3_takeSemicolon_0 : decode cX3_takeSemicolon 0 = .ok (.aload_n 0, 1) := by decide +kernel
theorem dX3_takeSemicolon_1 : decode cX3_takeSemicolon 1 = .ok (.invokevirtual 37, 3) := by decide +kernel
theorem dX3_takeSemicolon_4 : decode cX3_takeSemicolon 4 = .ok (.aload_n 0, 1) := by decide +kernel
theorem dX3_takeSemicolon_5 : decode cX3_takeSemicolon 5 = .ok (.getfield 40, 3) := by decide +kernel
theorem dX3_takeSemicolon_8 : decode cX3_takeSemicolon 8 = .ok (.iconst 3, 1) := by decide +kernel
theorem dX3_takeSemicolon_9 : decode cX3_takeSemicolon 9 = .ok (.if_icmp .eq 8, 3) := by decide +kernel
theorem dX3_takeSemicolon_12 : decode cX3_takeSemicolon 12 = .ok (.aload_n 0, 1) := by decide +kernel
theorem dX3_takeSemicolon_13 : decode cX3_takeSemicolon 13 = .ok (.iconst 2, 1) := by decide +kernel
theorem dX3_takeSemicolon_14 : decode cX3_takeSemicolon 14 = .ok (.invokevirtual 54, 3) := by decide +kernel
theorem dX3_takeSemicolon_17 : decode cX3_takeSemicolon 17 = .ok (.return_, 1) := by decide +kernel
theorem dX3_readToken_0 : decode cX3_readToken 0 = .ok (.aload_n 0, 1) := by decide +kernel
theorem dX3_readToken_1 : decode cX3_readToken 1 = .ok (.aload_n 0, 1) := by decide +kernel
theorem dX3_readToken_2 : decode cX3_readToken 2 = .ok (.getfield 30, 3) := by decide +kernel
theorem dX3_readToken_5 : decode cX3_readToken 5 = .ok (.putfield 47, 3) := by decide +kernel
theorem dX3_readToken_8 : decode cX3_readToken 8 = .ok (.aload_n 0, 1) := by decide +kernel
theorem dX3_readToken_9 : decode cX3_readToken 9 = .ok (.getfield 47, 3) := by decide +kernel
theorem dX3_readToken_12 : decode cX3_readToken 12 = .ok (.aload_n 0, 1) := by decide +kernel
theorem dX3_readToken_13 : decode cX3_readToken 13 = .ok (.getfield 15, 3) := by decide +kernel
theorem dX3_readToken_16 : decode cX3_readToken 16 = .ok (.if_icmp .ge 30, 3) := by decide +kernel
theorem dX3_readToken_19 : decode cX3_readToken 19 = .ok (.aload_n 0, 1) := by decide +kernel
theorem dX3_readToken_20 : decode cX3_readToken 20 = .ok (.getfield 11, 3) := by decide +kernel
theorem dX3_readToken_23 : decode cX3_readToken 23 = .ok (.aload_n 0, 1) := by decide +kernel
theorem dX3_readToken_24 : decode cX3_readToken 24 = .ok (.getfield 47, 3) := by decide +kernel
theorem dX3_readToken_27 : decode cX3_readToken 27 = .ok (.baload, 1) := by decide +kernel
theorem dX3_readToken_28 : decode cX3_readToken 28 = .ok (.bipush 32, 2) := by decide +kernel
theorem dX3_readToken_30 : decode cX3_readToken 30 = .ok (.if_icmp .ne 16, 3) := by decide +kernel
theorem dX3_readToken_33 : decode cX3_readToken 33 = .ok (.aload_n 0, 1) := by decide +kernel
theorem dX3_readToken_34 : decode cX3_readToken 34 = .ok (.dup, 1) := by decide +kernel
theorem dX3_readToken_35 : decode cX3_readToken 35 = .ok (.getfield 47, 3) := by decide +kernel
theorem dX3_readToken_38 : decode cX3_readToken 38 = .ok (.iconst 1, 1) := by decide +kernel
theorem dX3_readToken_39 : decode cX3_readToken 39 = .ok (.iadd, 1) := by decide +kernel
theorem dX3_readToken_40 : decode cX3_readToken 40 = .ok (.putfield 47, 3) := by decide +kernel
theorem dX3_readToken_43 : decode cX3_readToken 43 = .ok (.goto (-35), 3) := by decide +kernel
theorem dX3_readToken_46 : decode cX3_readToken 46 = .ok (.aload_n 0, 1) := by decide +kernel
theorem dX3_readToken_47 : decode cX3_readToken 47 = .ok (.bipush 97, 2) := by decide +kernel
theorem dX3_readToken_49 : decode cX3_readToken 49 = .ok (.bipush 122, 2) := by decide +kernel
theorem dX3_readToken_51 : decode cX3_readToken 51 = .ok (.invokevirtual 107, 3) := by decide +kernel
theorem dX3_readToken_54 : decode cX3_readToken 54 = .ok (.istore_n 1, 1) := by decide +kernel
theorem dX3_readToken_55 : decode cX3_readToken 55 = .ok (.aload_n 0, 1) := by decide +kernel
theorem dX3_readToken_56 : decode cX3_readToken 56 = .ok (.bipush 48, 2) := by decide +kernel
theorem dX3_readToken_58 : decode cX3_readToken 58 = .ok (.bipush 57, 2) := by decide +kernel
theorem dX3_readToken_60 : decode cX3_readToken 60 = .ok (.invokevirtual 107, 3) := by decide +kernel
theorem dX3_readToken_63 : decode cX3_readToken 63 = .ok (.istore_n 2, 1) := by decide +kernel
theorem dX3_readToken_64 : decode cX3_readToken 64 = .ok (.aload_n 0, 1) := by decide +kernel
theorem dX3_readToken_65 : decode cX3_readToken 65 = .ok (.aload_n 0, 1) := by decide +kernel
theorem dX3_readToken_66 : decode cX3_readToken 66 = .ok (.getfield 47, 3) := by decide +kernel
theorem dX3_readToken_69 : decode cX3_readToken 69 = .ok (.iconst 1, 1) := by decide +kernel
theorem dX3_readToken_70 : decode cX3_readToken 70 = .ok (.iload_n 1, 1) := by decide +kernel
theorem dX3_readToken_71 : decode cX3_readToken 71 = .ok (.iload_n 2, 1) := by decide +kernel
theorem dX3_readToken_72 : decode cX3_readToken 72 = .ok (.iadd, 1) := by decide +kernel
theorem dX3_readToken_73 : decode cX3_readToken 73 = .ok (.invokestatic 111, 3) := by decide +kernel
theorem dX3_readToken_76 : decode cX3_readToken 76 = .ok (.iadd, 1) := by decide +kernel
theorem dX3_readToken_77 : decode cX3_readToken 77 = .ok (.putfield 30, 3) := by decide +kernel
theorem dX3_readToken_80 : decode cX3_readToken 80 = .ok (.aload_n 0, 1) := by decide +kernel
theorem dX3_readToken_81 : decode cX3_readToken 81 = .ok (.getfield 47, 3) := by decide +kernel
theorem dX3_readToken_84 : decode cX3_readToken 84 = .ok (.aload_n 0, 1) := by decide +kernel
theorem dX3_readToken_85 : decode cX3_readToken 85 = .ok (.getfield 15, 3) := by decide +kernel
theorem dX3_readToken_88 : decode cX3_readToken 88 = .ok (.if_icmp .lt 19, 3) := by decide +kernel
theorem dX3_readToken_91 : decode cX3_readToken 91 = .ok (.aload_n 0, 1) := by decide +kernel
theorem dX3_readToken_92 : decode cX3_readToken 92 = .ok (.iconst 4, 1) := by decide +kernel
theorem dX3_readToken_93 : decode cX3_readToken 93 = .ok (.putfield 40, 3) := by decide +kernel
theorem dX3_readToken_96 : decode cX3_readToken 96 = .ok (.aload_n 0, 1) := by decide +kernel
theorem dX3_readToken_97 : decode cX3_readToken 97 = .ok (.aload_n 0, 1) := by decide +kernel
theorem dX3_readToken_98 : decode cX3_readToken 98 = .ok (.getfield 47, 3) := by decide +kernel
theorem dX3_readToken_101 : decode cX3_readToken 101 = .ok (.putfield 30, 3) := by decide +kernel
theorem dX3_readToken_104 : decode cX3_readToken 104 = .ok (.goto 59, 3) := by decide +kernel
theorem dX3_readToken_107 : decode cX3_readToken 107 = .ok (.iload_n 1, 1) := by decide +kernel
theorem dX3_readToken_108 : decode cX3_readToken 108 = .ok (.ifCond .le 11, 3) := by decide +kernel
theorem dX3_readToken_111 : decode cX3_readToken 111 = .ok (.aload_n 0, 1) := by decide +kernel
theorem dX3_readToken_112 : decode cX3_readToken 112 = .ok (.iconst 1, 1) := by decide +kernel
theorem dX3_readToken_113 : decode cX3_readToken 113 = .ok (.putfield 40, 3) := by decide +kernel
theorem dX3_readToken_116 : decode cX3_readToken 116 = .ok (.goto 47, 3) := by decide +kernel
theorem dX3_readToken_119 : decode cX3_readToken 119 = .ok (.iload_n 2, 1) := by decide +kernel
theorem dX3_readToken_120 : decode cX3_readToken 120 = .ok (.ifCond .le 20, 3) := by decide +kernel
theorem dX3_readToken_123 : decode cX3_readToken 123 = .ok (.aload_n 0, 1) := by decide +kernel
theorem dX3_readToken_124 : decode cX3_readToken 124 = .ok (.iload_n 2, 1) := by decide +kernel
theorem dX3_readToken_125 : decode cX3_readToken 125 = .ok (.iconst 2, 1) := by decide +kernel
theorem dX3_readToken_126 : decode cX3_readToken 126 = .ok (.if_icmp .gt 7, 3) := by decide +kernel
theorem dX3_readToken_129 : decode cX3_readToken 129 = .ok (.iconst 2, 1) := by decide +kernel
theorem dX3_readToken_130 : decode cX3_readToken 130 = .ok (.goto 4, 3) := by decide +kernel
theorem dX3_readToken_133 : decode cX3_readToken 133 = .ok (.iconst 0, 1) := by decide +kernel
theorem dX3_readToken_134 : decode cX3_readToken 134 = .ok (.putfield 40, 3) := by decide +kernel
theorem dX3_readToken_137 : decode cX3_readToken 137 = .ok (.goto 26, 3) := by decide +kernel
theorem dX3_readToken_140 : decode cX3_readToken 140 = .ok (.aload_n 0, 1) := by decide +kernel
theorem dX3_readToken_141 : decode cX3_readToken 141 = .ok (.aload_n 0, 1) := by decide +kernel
theorem dX3_readToken_142 : decode cX3_readToken 142 = .ok (.getfield 11, 3) := by decide +kernel
theorem dX3_readToken_145 : decode cX3_readToken 145 = .ok (.aload_n 0, 1) := by decide +kernel
theorem dX3_readToken_146 : decode cX3_readToken 146 = .ok (.getfield 47, 3) := by decide +kernel
theorem dX3_readToken_149 : decode cX3_readToken 149 = .ok (.baload, 1) := by decide +kernel
theorem dX3_readToken_150 : decode cX3_readToken 150 = .ok (.bipush 59, 2) := by decide +kernel
theorem dX3_readToken_152 : decode cX3_readToken 152 = .ok (.if_icmp .ne 7, 3) := by decide +kernel
theorem dX3_readToken_155 : decode cX3_readToken 155 = .ok (.iconst 3, 1) := by decide +kernel
theorem dX3_readToken_156 : decode cX3_readToken 156 = .ok (.goto 4, 3) := by decide +kernel
theorem dX3_readToken_159 : decode cX3_readToken 159 = .ok (.iconst 0, 1) := by decide +kernel
theorem dX3_readToken_160 : decode cX3_readToken 160 = .ok (.putfield 40, 3) := by decide +kernel
theorem dX3_readToken_163 : decode cX3_readToken 163 = .ok (.aload_n 0, 1) := by decide +kernel
theorem dX3_readToken_164 : decode cX3_readToken 164 = .ok (.getfield 40, 3) := by decide +kernel
theorem dX3_readToken_167 : decode cX3_readToken 167 = .ok (.ifCond .ne 8, 3) := by decide +kernel
theorem dX3_readToken_170 : decode cX3_readToken 170 = .ok (.aload_n 0, 1) := by decide +kernel
theorem dX3_readToken_171 : decode cX3_readToken 171 = .ok (.iconst 1, 1) := by decide +kernel
theorem dX3_readToken_172 : decode cX3_readToken 172 = .ok (.invokevirtual 54, 3) := by decide +kernel
theorem dX3_readToken_175 : decode cX3_readToken 175 = .ok (.return_, 1) := by decide +kernel
theorem dX3_runOf_0 : decode cX3_runOf 0 = .ok (.aload_n 0, 1) := by decide +kernel
theorem dX3_runOf_1 : decode cX3_runOf 1 = .ok (.getfield 47, 3) := by decide +kernel
theorem dX3_runOf_4 : decode cX3_runOf 4 = .ok (.istore_n 3, 1) := by decide +kernel
theorem dX3_runOf_5 : decode cX3_runOf 5 = .ok (.iload_n 3, 1) := by decide +kernel
theorem dX3_runOf_6 : decode cX3_runOf 6 = .ok (.aload_n 0, 1) := by decide +kernel
theorem dX3_runOf_7 : decode cX3_runOf 7 = .ok (.getfield 15, 3) := by decide +kernel
theorem dX3_runOf_10 : decode cX3_runOf 10 = .ok (.if_icmp .ge 29, 3) := by decide +kernel
theorem dX3_runOf_13 : decode cX3_runOf 13 = .ok (.aload_n 0, 1) := by decide +kernel
theorem dX3_runOf_14 : decode cX3_runOf 14 = .ok (.getfield 11, 3) := by decide +kernel
theorem dX3_runOf_17 : decode cX3_runOf 17 = .ok (.iload_n 3, 1) := by decide +kernel
theorem dX3_runOf_18 : decode cX3_runOf 18 = .ok (.baload, 1) := by decide +kernel
theorem dX3_runOf_19 : decode cX3_runOf 19 = .ok (.iload_n 1, 1) := by decide +kernel
theorem dX3_runOf_20 : decode cX3_runOf 20 = .ok (.if_icmp .lt 19, 3) := by decide +kernel
theorem dX3_runOf_23 : decode cX3_runOf 23 = .ok (.aload_n 0, 1) := by decide +kernel
theorem dX3_runOf_24 : decode cX3_runOf 24 = .ok (.getfield 11, 3) := by decide +kernel
theorem dX3_runOf_27 : decode cX3_runOf 27 = .ok (.iload_n 3, 1) := by decide +kernel
theorem dX3_runOf_28 : decode cX3_runOf 28 = .ok (.baload, 1) := by decide +kernel
theorem dX3_runOf_29 : decode cX3_runOf 29 = .ok (.iload_n 2, 1) := by decide +kernel
theorem dX3_runOf_30 : decode cX3_runOf 30 = .ok (.if_icmp .gt 9, 3) := by decide +kernel
theorem dX3_runOf_33 : decode cX3_runOf 33 = .ok (.iinc 3 1, 3) := by decide +kernel
theorem dX3_runOf_36 : decode cX3_runOf 36 = .ok (.goto (-31), 3) := by decide +kernel
theorem dX3_runOf_39 : decode cX3_runOf 39 = .ok (.iload_n 3, 1) := by decide +kernel
theorem dX3_runOf_40 : decode cX3_runOf 40 = .ok (.aload_n 0, 1) := by decide +kernel
theorem dX3_runOf_41 : decode cX3_runOf 41 = .ok (.getfield 47, 3) := by decide +kernel
theorem dX3_runOf_44 : decode cX3_runOf 44 = .ok (.isub, 1) := by decide +kernel
theorem dX3_runOf_45 : decode cX3_runOf 45 = .ok (.ireturn, 1) := by decide +kernel
theorem dX3_numberRead_0 : decode cX3_numberRead 0 = .ok (.iconst 0, 1) := by decide +kernel
theorem dX3_numberRead_1 : decode cX3_numberRead 1 = .ok (.istore_n 1, 1) := by decide +kernel
theorem dX3_numberRead_2 : decode cX3_numberRead 2 = .ok (.aload_n 0, 1) := by decide +kernel
theorem dX3_numberRead_3 : decode cX3_numberRead 3 = .ok (.getfield 47, 3) := by decide +kernel
theorem dX3_numberRead_6 : decode cX3_numberRead 6 = .ok (.istore_n 2, 1) := by decide +kernel
theorem dX3_numberRead_7 : decode cX3_numberRead 7 = .ok (.iload_n 2, 1) := by decide +kernel
theorem dX3_numberRead_8 : decode cX3_numberRead 8 = .ok (.aload_n 0, 1) := by decide +kernel
theorem dX3_numberRead_9 : decode cX3_numberRead 9 = .ok (.getfield 30, 3) := by decide +kernel
theorem dX3_numberRead_12 : decode cX3_numberRead 12 = .ok (.if_icmp .ge 24, 3) := by decide +kernel
theorem dX3_numberRead_15 : decode cX3_numberRead 15 = .ok (.bipush 10, 2) := by decide +kernel
theorem dX3_numberRead_17 : decode cX3_numberRead 17 = .ok (.iload_n 1, 1) := by decide +kernel
theorem dX3_numberRead_18 : decode cX3_numberRead 18 = .ok (.imul, 1) := by decide +kernel
theorem dX3_numberRead_19 : decode cX3_numberRead 19 = .ok (.aload_n 0, 1) := by decide +kernel
theorem dX3_numberRead_20 : decode cX3_numberRead 20 = .ok (.getfield 11, 3) := by decide +kernel
theorem dX3_numberRead_23 : decode cX3_numberRead 23 = .ok (.iload_n 2, 1) := by decide +kernel
theorem dX3_numberRead_24 : decode cX3_numberRead 24 = .ok (.baload, 1) := by decide +kernel
theorem dX3_numberRead_25 : decode cX3_numberRead 25 = .ok (.iadd, 1) := by decide +kernel
theorem dX3_numberRead_26 : decode cX3_numberRead 26 = .ok (.bipush 48, 2) := by decide +kernel
theorem dX3_numberRead_28 : decode cX3_numberRead 28 = .ok (.isub, 1) := by decide +kernel
theorem dX3_numberRead_29 : decode cX3_numberRead 29 = .ok (.istore_n 1, 1) := by decide +kernel
theorem dX3_numberRead_30 : decode cX3_numberRead 30 = .ok (.iinc 2 1, 3) := by decide +kernel
theorem dX3_numberRead_33 : decode cX3_numberRead 33 = .ok (.goto (-26), 3) := by decide +kernel
theorem dX3_numberRead_36 : decode cX3_numberRead 36 = .ok (.iload_n 1, 1) := by decide +kernel
theorem dX3_numberRead_37 : decode cX3_numberRead 37 = .ok (.ireturn, 1) := by decide +kernel
theorem dX3_wordRead_0 : decode cX3_wordRead 0 = .ok (.iconst 0, 1) := by decide +kernel
theorem dX3_wordRead_1 : decode cX3_wordRead 1 = .ok (.istore_n 1, 1) := by decide +kernel
theorem dX3_wordRead_2 : decode cX3_wordRead 2 = .ok (.iload_n 1, 1) := by decide +kernel
theorem dX3_wordRead_3 : decode cX3_wordRead 3 = .ok (.bipush 7, 2) := by decide +kernel
theorem dX3_wordRead_5 : decode cX3_wordRead 5 = .ok (.if_icmp .ge 22, 3) := by decide +kernel
theorem dX3_wordRead_8 : decode cX3_wordRead 8 = .ok (.aload_n 0, 1) := by decide +kernel
theorem dX3_wordRead_9 : decode cX3_wordRead 9 = .ok (.iload_n 1, 1) := by decide +kernel
theorem dX3_wordRead_10 : decode cX3_wordRead 10 = .ok (.invokestatic 116, 3) := by decide +kernel
theorem dX3_wordRead_13 : decode cX3_wordRead 13 = .ok (.invokevirtual 120, 3) := by decide +kernel
theorem dX3_wordRead_16 : decode cX3_wordRead 16 = .ok (.ifCond .eq 5, 3) := by decide +kernel
theorem dX3_wordRead_19 : decode cX3_wordRead 19 = .ok (.iload_n 1, 1) := by decide +kernel
theorem dX3_wordRead_20 : decode cX3_wordRead 20 = .ok (.ireturn, 1) := by decide +kernel
theorem dX3_wordRead_21 : decode cX3_wordRead 21 = .ok (.iinc 1 1, 3) := by decide +kernel
theorem dX3_wordRead_24 : decode cX3_wordRead 24 = .ok (.goto (-22), 3) := by decide +kernel
theorem dX3_wordRead_27 : decode cX3_wordRead 27 = .ok (.bipush 7, 2) := by decide +kernel
theorem dX3_wordRead_29 : decode cX3_wordRead 29 = .ok (.ireturn, 1) := by decide +kernel
theorem dX3_wordOf_0 : decode cX3_wordOf 0 = .ok (.iload_n 0, 1) := by decide +kernel
theorem dX3_wordOf_1 : decode cX3_wordOf 1 = .ok (.tableswitch 57 0 5 #[39, 42, 45, 48, 51, 54], 39) := by decide +kernel
theorem dX3_wordOf_40 : decode cX3_wordOf 40 = .ok (.ldc 124, 2) := by decide +kernel
theorem dX3_wordOf_42 : decode cX3_wordOf 42 = .ok (.areturn, 1) := by decide +kernel
theorem dX3_wordOf_43 : decode cX3_wordOf 43 = .ok (.ldc 126, 2) := by decide +kernel
theorem dX3_wordOf_45 : decode cX3_wordOf 45 = .ok (.areturn, 1) := by decide +kernel
theorem dX3_wordOf_46 : decode cX3_wordOf 46 = .ok (.ldc 128, 2) := by decide +kernel
theorem dX3_wordOf_48 : decode cX3_wordOf 48 = .ok (.areturn, 1) := by decide +kernel
theorem dX3_wordOf_49 : decode cX3_wordOf 49 = .ok (.ldc 130, 2) := by decide +kernel
theorem dX3_wordOf_51 : decode cX3_wordOf 51 = .ok (.areturn, 1) := by decide +kernel
theorem dX3_wordOf_52 : decode cX3_wordOf 52 = .ok (.ldc 132, 2) := by decide +kernel
theorem dX3_wordOf_54 : decode cX3_wordOf 54 = .ok (.areturn, 1) := by decide +kernel
theorem dX3_wordOf_55 : decode cX3_wordOf 55 = .ok (.ldc 133, 2) := by decide +kernel
theorem dX3_wordOf_57 : decode cX3_wordOf 57 = .ok (.areturn, 1) := by decide +kernel
theorem dX3_wordOf_58 : decode cX3_wordOf 58 = .ok (.ldc 135, 2) := by decide +kernel
theorem dX3_wordOf_60 : decode cX3_wordOf 60 = .ok (.areturn, 1) := by decide +kernel
theorem dX3_isSpelt_0 : decode cX3_isSpelt 0 = .ok (.aload_n 0, 1) := by decide +kernel
theorem dX3_isSpelt_1 : decode cX3_isSpelt 1 = .ok (.getfield 30, 3) := by decide +kernel
theorem dX3_isSpelt_4 : decode cX3_isSpelt 4 = .ok (.aload_n 0, 1) := by decide +kernel
theorem dX3_isSpelt_5 : decode cX3_isSpelt 5 = .ok (.getfield 47, 3) := by decide +kernel
theorem dX3_isSpelt_8 : decode cX3_isSpelt 8 = .ok (.isub, 1) := by decide +kernel
theorem dX3_isSpelt_9 : decode cX3_isSpelt 9 = .ok (.aload_n 1, 1) := by decide +kernel
theorem dX3_isSpelt_10 : decode cX3_isSpelt 10 = .ok (.invokevirtual 137, 3) := by decide +kernel
theorem dX3_isSpelt_13 : decode cX3_isSpelt 13 = .ok (.if_icmp .eq 5, 3) := by decide +kernel
theorem dX3_isSpelt_16 : decode cX3_isSpelt 16 = .ok (.iconst 0, 1) := by decide +kernel
theorem dX3_isSpelt_17 : decode cX3_isSpelt 17 = .ok (.ireturn, 1) := by decide +kernel
theorem dX3_isSpelt_18 : decode cX3_isSpelt 18 = .ok (.iconst 0, 1) := by decide +kernel
theorem dX3_isSpelt_19 : decode cX3_isSpelt 19 = .ok (.istore_n 2, 1) := by decide +kernel
theorem dX3_isSpelt_20 : decode cX3_isSpelt 20 = .ok (.iload_n 2, 1) := by decide +kernel
theorem dX3_isSpelt_21 : decode cX3_isSpelt 21 = .ok (.aload_n 1, 1) := by decide +kernel
theorem dX3_isSpelt_22 : decode cX3_isSpelt 22 = .ok (.invokevirtual 137, 3) := by decide +kernel
theorem dX3_isSpelt_25 : decode cX3_isSpelt 25 = .ok (.if_icmp .ge 30, 3) := by decide +kernel
theorem dX3_isSpelt_28 : decode cX3_isSpelt 28 = .ok (.aload_n 0, 1) := by decide +kernel
theorem dX3_isSpelt_29 : decode cX3_isSpelt 29 = .ok (.getfield 11, 3) := by decide +kernel
theorem dX3_isSpelt_32 : decode cX3_isSpelt 32 = .ok (.aload_n 0, 1) := by decide +kernel
theorem dX3_isSpelt_33 : decode cX3_isSpelt 33 = .ok (.getfield 47, 3) := by decide +kernel
theorem dX3_isSpelt_36 : decode cX3_isSpelt 36 = .ok (.iload_n 2, 1) := by decide +kernel
theorem dX3_isSpelt_37 : decode cX3_isSpelt 37 = .ok (.iadd, 1) := by decide +kernel
theorem dX3_isSpelt_38 : decode cX3_isSpelt 38 = .ok (.baload, 1) := by decide +kernel
theorem dX3_isSpelt_39 : decode cX3_isSpelt 39 = .ok (.aload_n 1, 1) := by decide +kernel
theorem dX3_isSpelt_40 : decode cX3_isSpelt 40 = .ok (.iload_n 2, 1) := by decide +kernel
theorem dX3_isSpelt_41 : decode cX3_isSpelt 41 = .ok (.invokevirtual 141, 3) := by decide +kernel
theorem dX3_isSpelt_44 : decode cX3_isSpelt 44 = .ok (.if_icmp .eq 5, 3) := by decide +kernel
theorem dX3_isSpelt_47 : decode cX3_isSpelt 47 = .ok (.iconst 0, 1) := by decide +kernel
theorem dX3_isSpelt_48 : decode cX3_isSpelt 48 = .ok (.ireturn, 1) := by decide +kernel
theorem dX3_isSpelt_49 : decode cX3_isSpelt 49 = .ok (.iinc 2 1, 3) := by decide +kernel
theorem dX3_isSpelt_52 : decode cX3_isSpelt 52 = .ok (.goto (-32), 3) := by decide +kernel
theorem dX3_isSpelt_55 : decode cX3_isSpelt 55 = .ok (.iconst 1, 1) := by decide +kernel
theorem dX3_isSpelt_56 : decode cX3_isSpelt 56 = .ok (.ireturn, 1) := by decide +kernel
theorem dJ6_compare_7cf53_0 : decode cJ6_compare_7cf53 0 = .ok (.iload_n 0, 1) := by decide +kernel
theorem dJ6_compare_7cf53_1 : decode cJ6_compare_7cf53 1 = .ok (.iload_n 1, 1) := by decide +kernel
theorem dJ6_compare_7cf53_2 : decode cJ6_compare_7cf53 2 = .ok (.if_icmp .ge 7, 3) := by decide +kernel
theorem dJ6_compare_7cf53_5 : decode cJ6_compare_7cf53 5 = .ok (.iconst (-1), 1) := by decide +kernel
theorem dJ6_compare_7cf53_6 : decode cJ6_compare_7cf53 6 = .ok (.goto 13, 3) := by decide +kernel
theorem dJ6_compare_7cf53_9 : decode cJ6_compare_7cf53 9 = .ok (.iload_n 0, 1) := by decide +kernel
theorem dJ6_compare_7cf53_10 : decode cJ6_compare_7cf53 10 = .ok (.iload_n 1, 1) := by decide +kernel
theorem dJ6_compare_7cf53_11 : decode cJ6_compare_7cf53 11 = .ok (.if_icmp .ne 7, 3) := by decide +kernel
theorem dJ6_compare_7cf53_14 : decode cJ6_compare_7cf53 14 = .ok (.iconst 0, 1) := by decide +kernel
theorem dJ6_compare_7cf53_15 : decode cJ6_compare_7cf53 15 = .ok (.goto 4, 3) := by decide +kernel
theorem dJ6_compare_7cf53_18 : decode cJ6_compare_7cf53 18 = .ok (.iconst 1, 1) := by decide +kernel
theorem dJ6_compare_7cf53_19 : decode cJ6_compare_7cf53 19 = .ok (.ireturn, 1) := by decide +kernel
theorem dJ6_bitCount_0f7a4_0 : decode cJ6_bitCount_0f7a4 0 = .ok (.iload_n 0, 1) := by decide +kernel
theorem dJ6_bitCount_0f7a4_1 : decode cJ6_bitCount_0f7a4 1 = .ok (.iload_n 0, 1) := by decide +kernel
theorem dJ6_bitCount_0f7a4_2 : decode cJ6_bitCount_0f7a4 2 = .ok (.iconst 1, 1) := by decide +kernel
theorem dJ6_bitCount_0f7a4_3 : decode cJ6_bitCount_0f7a4 3 = .ok (.iushr, 1) := by decide +kernel
theorem dJ6_bitCount_0f7a4_4 : decode cJ6_bitCount_0f7a4 4 = .ok (.ldc_w 265, 3) := by decide +kernel
theorem dJ6_bitCount_0f7a4_7 : decode cJ6_bitCount_0f7a4 7 = .ok (.iand, 1) := by decide +kernel
theorem dJ6_bitCount_0f7a4_8 : decode cJ6_bitCount_0f7a4 8 = .ok (.isub, 1) := by decide +kernel
theorem dJ6_bitCount_0f7a4_9 : decode cJ6_bitCount_0f7a4 9 = .ok (.istore_n 0, 1) := by decide +kernel
theorem dJ6_bitCount_0f7a4_10 : decode cJ6_bitCount_0f7a4 10 = .ok (.iload_n 0, 1) := by decide +kernel
theorem dJ6_bitCount_0f7a4_11 : decode cJ6_bitCount_0f7a4 11 = .ok (.ldc_w 266, 3) := by decide +kernel
theorem dJ6_bitCount_0f7a4_14 : decode cJ6_bitCount_0f7a4 14 = .ok (.iand, 1) := by decide +kernel
theorem dJ6_bitCount_0f7a4_15 : decode cJ6_bitCount_0f7a4 15 = .ok (.iload_n 0, 1) := by decide +kernel
theorem dJ6_bitCount_0f7a4_16 : decode cJ6_bitCount_0f7a4 16 = .ok (.iconst 2, 1) := by decide +kernel
theorem dJ6_bitCount_0f7a4_17 : decode cJ6_bitCount_0f7a4 17 = .ok (.iushr, 1) := by decide +kernel
theorem dJ6_bitCount_0f7a4_18 : decode cJ6_bitCount_0f7a4 18 = .ok (.ldc_w 266, 3) := by decide +kernel
theorem dJ6_bitCount_0f7a4_21 : decode cJ6_bitCount_0f7a4 21 = .ok (.iand, 1) := by decide +kernel
theorem dJ6_bitCount_0f7a4_22 : decode cJ6_bitCount_0f7a4 22 = .ok (.iadd, 1) := by decide +kernel
theorem dJ6_bitCount_0f7a4_23 : decode cJ6_bitCount_0f7a4 23 = .ok (.istore_n 0, 1) := by decide +kernel
theorem dJ6_bitCount_0f7a4_24 : decode cJ6_bitCount_0f7a4 24 = .ok (.iload_n 0, 1) := by decide +kernel
theorem dJ6_bitCount_0f7a4_25 : decode cJ6_bitCount_0f7a4 25 = .ok (.iload_n 0, 1) := by decide +kernel
theorem dJ6_bitCount_0f7a4_26 : decode cJ6_bitCount_0f7a4 26 = .ok (.iconst 4, 1) := by decide +kernel
theorem dJ6_bitCount_0f7a4_27 : decode cJ6_bitCount_0f7a4 27 = .ok (.iushr, 1) := by decide +kernel
theorem dJ6_bitCount_0f7a4_28 : decode cJ6_bitCount_0f7a4 28 = .ok (.iadd, 1) := by decide +kernel
theorem dJ6_bitCount_0f7a4_29 : decode cJ6_bitCount_0f7a4 29 = .ok (.ldc_w 267, 3) := by decide +kernel
theorem dJ6_bitCount_0f7a4_32 : decode cJ6_bitCount_0f7a4 32 = .ok (.iand, 1) := by decide +kernel
theorem dJ6_bitCount_0f7a4_33 : decode cJ6_bitCount_0f7a4 33 = .ok (.istore_n 0, 1) := by decide +kernel
theorem dJ6_bitCount_0f7a4_34 : decode cJ6_bitCount_0f7a4 34 = .ok (.iload_n 0, 1) := by decide +kernel
theorem dJ6_bitCount_0f7a4_35 : decode cJ6_bitCount_0f7a4 35 = .ok (.iload_n 0, 1) := by decide +kernel
theorem dJ6_bitCount_0f7a4_36 : decode cJ6_bitCount_0f7a4 36 = .ok (.bipush 8, 2) := by decide +kernel
theorem dJ6_bitCount_0f7a4_38 : decode cJ6_bitCount_0f7a4 38 = .ok (.iushr, 1) := by decide +kernel
theorem dJ6_bitCount_0f7a4_39 : decode cJ6_bitCount_0f7a4 39 = .ok (.iadd, 1) := by decide +kernel
theorem dJ6_bitCount_0f7a4_40 : decode cJ6_bitCount_0f7a4 40 = .ok (.istore_n 0, 1) := by decide +kernel
theorem dJ6_bitCount_0f7a4_41 : decode cJ6_bitCount_0f7a4 41 = .ok (.iload_n 0, 1) := by decide +kernel
theorem dJ6_bitCount_0f7a4_42 : decode cJ6_bitCount_0f7a4 42 = .ok (.iload_n 0, 1) := by decide +kernel
theorem dJ6_bitCount_0f7a4_43 : decode cJ6_bitCount_0f7a4 43 = .ok (.bipush 16, 2) := by decide +kernel
theorem dJ6_bitCount_0f7a4_45 : decode cJ6_bitCount_0f7a4 45 = .ok (.iushr, 1) := by decide +kernel
theorem dJ6_bitCount_0f7a4_46 : decode cJ6_bitCount_0f7a4 46 = .ok (.iadd, 1) := by decide +kernel
theorem dJ6_bitCount_0f7a4_47 : decode cJ6_bitCount_0f7a4 47 = .ok (.istore_n 0, 1) := by decide +kernel
theorem dJ6_bitCount_0f7a4_48 : decode cJ6_bitCount_0f7a4 48 = .ok (.iload_n 0, 1) := by decide +kernel
theorem dJ6_bitCount_0f7a4_49 : decode cJ6_bitCount_0f7a4 49 = .ok (.bipush 63, 2) := by decide +kernel
theorem dJ6_bitCount_0f7a4_51 : decode cJ6_bitCount_0f7a4 51 = .ok (.iand, 1) := by decide +kernel
theorem dJ6_bitCount_0f7a4_52 : decode cJ6_bitCount_0f7a4 52 = .ok (.ireturn, 1) := by decide +kernel
theorem dJ9_abs_0f7a4_0 : decode cJ9_abs_0f7a4 0 = .ok (.iload_n 0, 1) := by decide +kernel
theorem dJ9_abs_0f7a4_1 : decode cJ9_abs_0f7a4 1 = .ok (.ifCond .ge 8, 3) := by decide +kernel
theorem dJ9_abs_0f7a4_4 : decode cJ9_abs_0f7a4 4 = .ok (.iload_n 0, 1) := by decide +kernel
theorem dJ9_abs_0f7a4_5 : decode cJ9_abs_0f7a4 5 = .ok (.ineg, 1) := by decide +kernel
theorem dJ9_abs_0f7a4_6 : decode cJ9_abs_0f7a4 6 = .ok (.goto 4, 3) := by decide +kernel
theorem dJ9_abs_0f7a4_9 : decode cJ9_abs_0f7a4 9 = .ok (.iload_n 0, 1) := by decide +kernel
theorem dJ9_abs_0f7a4_10 : decode cJ9_abs_0f7a4 10 = .ok (.ireturn, 1) := by decide +kernel
theorem dJ9_max_7cf53_0 : decode cJ9_max_7cf53 0 = .ok (.iload_n 0, 1) := by decide +kernel
theorem dJ9_max_7cf53_1 : decode cJ9_max_7cf53 1 = .ok (.iload_n 1, 1) := by decide +kernel
theorem dJ9_max_7cf53_2 : decode cJ9_max_7cf53 2 = .ok (.if_icmp .lt 7, 3) := by decide +kernel
theorem dJ9_max_7cf53_5 : decode cJ9_max_7cf53 5 = .ok (.iload_n 0, 1) := by decide +kernel
theorem dJ9_max_7cf53_6 : decode cJ9_max_7cf53 6 = .ok (.goto 4, 3) := by decide +kernel
theorem dJ9_max_7cf53_9 : decode cJ9_max_7cf53 9 = .ok (.iload_n 1, 1) := by decide +kernel
theorem dJ9_max_7cf53_10 : decode cJ9_max_7cf53 10 = .ok (.ireturn, 1) := by decide +kernel
theorem dJ9_min_7cf53_0 : decode cJ9_min_7cf53 0 = .ok (.iload_n 0, 1) := by decide +kernel
theorem dJ9_min_7cf53_1 : decode cJ9_min_7cf53 1 = .ok (.iload_n 1, 1) := by decide +kernel
theorem dJ9_min_7cf53_2 : decode cJ9_min_7cf53 2 = .ok (.if_icmp .gt 7, 3) := by decide +kernel
theorem dJ9_min_7cf53_5 : decode cJ9_min_7cf53 5 = .ok (.iload_n 0, 1) := by decide +kernel
theorem dJ9_min_7cf53_6 : decode cJ9_min_7cf53 6 = .ok (.goto 4, 3) := by decide +kernel
theorem dJ9_min_7cf53_9 : decode cJ9_min_7cf53 9 = .ok (.iload_n 1, 1) := by decide +kernel
theorem dJ9_min_7cf53_10 : decode cJ9_min_7cf53 10 = .ok (.ireturn, 1) := by decide +kernel
theorem dJ0_length_8abf5_0 : decode cJ0_length_8abf5 0 = .ok (.aload_n 0, 1) := by decide +kernel
theorem dJ0_length_8abf5_1 : decode cJ0_length_8abf5 1 = .ok (.getfield 9, 3) := by decide +kernel
theorem dJ0_length_8abf5_4 : decode cJ0_length_8abf5 4 = .ok (.arraylength, 1) := by decide +kernel
theorem dJ0_length_8abf5_5 : decode cJ0_length_8abf5 5 = .ok (.aload_n 0, 1) := by decide +kernel
theorem dJ0_length_8abf5_6 : decode cJ0_length_8abf5 6 = .ok (.invokevirtual 335, 3) := by decide +kernel
theorem dJ0_length_8abf5_9 : decode cJ0_length_8abf5 9 = .ok (.ishr, 1) := by decide +kernel
theorem dJ0_length_8abf5_10 : decode cJ0_length_8abf5 10 = .ok (.ireturn, 1) := by decide +kernel
theorem dJ0_charAt_5068e_0 : decode cJ0_charAt_5068e 0 = .ok (.aload_n 0, 1) := by decide +kernel
theorem dJ0_charAt_5068e_1 : decode cJ0_charAt_5068e 1 = .ok (.invokevirtual 492, 3) := by decide +kernel
theorem dJ0_charAt_5068e_4 : decode cJ0_charAt_5068e 4 = .ok (.ifCond .eq 12, 3) := by decide +kernel
theorem dJ0_charAt_5068e_7 : decode cJ0_charAt_5068e 7 = .ok (.aload_n 0, 1) := by decide +kernel
theorem dJ0_charAt_5068e_8 : decode cJ0_charAt_5068e 8 = .ok (.getfield 9, 3) := by decide +kernel
theorem dJ0_charAt_5068e_11 : decode cJ0_charAt_5068e 11 = .ok (.iload_n 1, 1) := by decide +kernel
theorem dJ0_charAt_5068e_12 : decode cJ0_charAt_5068e 12 = .ok (.invokestatic 495, 3) := by decide +kernel
theorem dJ0_charAt_5068e_15 : decode cJ0_charAt_5068e 15 = .ok (.ireturn, 1) := by decide +kernel
theorem dJ0_charAt_5068e_16 : decode cJ0_charAt_5068e 16 = .ok (.aload_n 0, 1) := by decide +kernel
theorem dJ0_charAt_5068e_17 : decode cJ0_charAt_5068e 17 = .ok (.getfield 9, 3) := by decide +kernel
theorem dJ0_charAt_5068e_20 : decode cJ0_charAt_5068e 20 = .ok (.iload_n 1, 1) := by decide +kernel
theorem dJ0_charAt_5068e_21 : decode cJ0_charAt_5068e 21 = .ok (.invokestatic 498, 3) := by decide +kernel
theorem dJ0_charAt_5068e_24 : decode cJ0_charAt_5068e 24 = .ok (.ireturn, 1) := by decide +kernel
theorem dJ0_coder_7d493_0 : decode cJ0_coder_7d493 0 = .ok (.getstatic 38, 3) := by decide +kernel
theorem dJ0_coder_7d493_3 : decode cJ0_coder_7d493 3 = .ok (.ifCond .eq 10, 3) := by decide +kernel
theorem dJ0_coder_7d493_6 : decode cJ0_coder_7d493 6 = .ok (.aload_n 0, 1) := by decide +kernel
theorem dJ0_coder_7d493_7 : decode cJ0_coder_7d493 7 = .ok (.getfield 15, 3) := by decide +kernel
theorem dJ0_coder_7d493_10 : decode cJ0_coder_7d493 10 = .ok (.goto 4, 3) := by decide +kernel
theorem dJ0_coder_7d493_13 : decode cJ0_coder_7d493 13 = .ok (.iconst 1, 1) := by decide +kernel
theorem dJ0_coder_7d493_14 : decode cJ0_coder_7d493 14 = .ok (.ireturn, 1) := by decide +kernel
theorem dJ0_isLatin1_aae02_0 : decode cJ0_isLatin1_aae02 0 = .ok (.getstatic 38, 3) := by decide +kernel
theorem dJ0_isLatin1_aae02_3 : decode cJ0_isLatin1_aae02 3 = .ok (.ifCond .eq 14, 3) := by decide +kernel
theorem dJ0_isLatin1_aae02_6 : decode cJ0_isLatin1_aae02 6 = .ok (.aload_n 0, 1) := by decide +kernel
theorem dJ0_isLatin1_aae02_7 : decode cJ0_isLatin1_aae02 7 = .ok (.getfield 15, 3) := by decide +kernel
theorem dJ0_isLatin1_aae02_10 : decode cJ0_isLatin1_aae02 10 = .ok (.ifCond .ne 7, 3) := by decide +kernel
theorem dJ0_isLatin1_aae02_13 : decode cJ0_isLatin1_aae02 13 = .ok (.iconst 1, 1) := by decide +kernel
theorem dJ0_isLatin1_aae02_14 : decode cJ0_isLatin1_aae02 14 = .ok (.goto 4, 3) := by decide +kernel
theorem dJ0_isLatin1_aae02_17 : decode cJ0_isLatin1_aae02 17 = .ok (.iconst 0, 1) := by decide +kernel
theorem dJ0_isLatin1_aae02_18 : decode cJ0_isLatin1_aae02 18 = .ok (.ireturn, 1) := by decide +kernel
theorem dJ0_checkIndex_df160_0 : decode cJ0_checkIndex_df160 0 = .ok (.iload_n 0, 1) := by decide +kernel
theorem dJ0_checkIndex_df160_1 : decode cJ0_checkIndex_df160 1 = .ok (.iload_n 1, 1) := by decide +kernel
theorem dJ0_checkIndex_df160_2 : decode cJ0_checkIndex_df160 2 = .ok (.getstatic 1053, 3) := by decide +kernel
theorem dJ0_checkIndex_df160_5 : decode cJ0_checkIndex_df160 5 = .ok (.invokestatic 1059, 3) := by decide +kernel
theorem dJ0_checkIndex_df160_8 : decode cJ0_checkIndex_df160 8 = .ok (.pop, 1) := by decide +kernel
theorem dJ0_checkIndex_df160_9 : decode cJ0_checkIndex_df160 9 = .ok (.return_, 1) := by decide +kernel
theorem dJ1_charAt_3b067_0 : decode cJ1_charAt_3b067 0 = .ok (.iload_n 1, 1) := by decide +kernel
theorem dJ1_charAt_3b067_1 : decode cJ1_charAt_3b067 1 = .ok (.aload_n 0, 1) := by decide +kernel
theorem dJ1_charAt_3b067_2 : decode cJ1_charAt_3b067 2 = .ok (.arraylength, 1) := by decide +kernel
theorem dJ1_charAt_3b067_3 : decode cJ1_charAt_3b067 3 = .ok (.invokestatic 9, 3) := by decide +kernel
theorem dJ1_charAt_3b067_6 : decode cJ1_charAt_3b067 6 = .ok (.aload_n 0, 1) := by decide +kernel
theorem dJ1_charAt_3b067_7 : decode cJ1_charAt_3b067 7 = .ok (.iload_n 1, 1) := by decide +kernel
theorem dJ1_charAt_3b067_8 : decode cJ1_charAt_3b067 8 = .ok (.baload, 1) := by decide +kernel
theorem dJ1_charAt_3b067_9 : decode cJ1_charAt_3b067 9 = .ok (.sipush 255, 3) := by decide +kernel
theorem dJ1_charAt_3b067_12 : decode cJ1_charAt_3b067 12 = .ok (.iand, 1) := by decide +kernel
theorem dJ1_charAt_3b067_13 : decode cJ1_charAt_3b067 13 = .ok (.i2c, 1) := by decide +kernel
theorem dJ1_charAt_3b067_14 : decode cJ1_charAt_3b067 14 = .ok (.ireturn, 1) := by decide +kernel
theorem dJ2_getChar_3b067_0 : decode cJ2_getChar_3b067 0 = .ok (.getstatic 44, 3) := by decide +kernel
theorem dJ2_getChar_3b067_3 : decode cJ2_getChar_3b067 3 = .ok (.ifCond .ne 25, 3) := by decide +kernel
theorem dJ2_getChar_3b067_6 : decode cJ2_getChar_3b067 6 = .ok (.iload_n 1, 1) := by decide +kernel
theorem dJ2_getChar_3b067_7 : decode cJ2_getChar_3b067 7 = .ok (.ifCond .lt 11, 3) := by decide +kernel
theorem dJ2_getChar_3b067_10 : decode cJ2_getChar_3b067 10 = .ok (.iload_n 1, 1) := by decide +kernel
theorem dJ2_getChar_3b067_11 : decode cJ2_getChar_3b067 11 = .ok (.aload_n 0, 1) := by decide +kernel
theorem dJ2_getChar_3b067_12 : decode cJ2_getChar_3b067 12 = .ok (.invokestatic 48, 3) := by decide +kernel
theorem dJ2_getChar_3b067_15 : decode cJ2_getChar_3b067 15 = .ok (.if_icmp .lt 13, 3) := by decide +kernel
theorem dJ2_getChar_3b067_18 : decode cJ2_getChar_3b067 18 = .ok (.new 52, 3) := by decide +kernel
theorem dJ2_getChar_3b067_21 : decode cJ2_getChar_3b067 21 = .ok (.dup, 1) := by decide +kernel
theorem dJ2_getChar_3b067_22 : decode cJ2_getChar_3b067 22 = .ok (.ldc 54, 2) := by decide +kernel
theorem dJ2_getChar_3b067_24 : decode cJ2_getChar_3b067 24 = .ok (.invokespecial 56, 3) := by decide +kernel
theorem dJ2_getChar_3b067_27 : decode cJ2_getChar_3b067 27 = .ok (.athrow, 1) := by decide +kernel
theorem dJ2_getChar_3b067_28 : decode cJ2_getChar_3b067 28 = .ok (.iload_n 1, 1) := by decide +kernel
theorem dJ2_getChar_3b067_29 : decode cJ2_getChar_3b067 29 = .ok (.iconst 1, 1) := by decide +kernel
theorem dJ2_getChar_3b067_30 : decode cJ2_getChar_3b067 30 = .ok (.ishl, 1) := by decide +kernel
theorem dJ2_getChar_3b067_31 : decode cJ2_getChar_3b067 31 = .ok (.istore_n 1, 1) := by decide +kernel
theorem dJ2_getChar_3b067_32 : decode cJ2_getChar_3b067 32 = .ok (.aload_n 0, 1) := by decide +kernel
theorem dJ2_getChar_3b067_33 : decode cJ2_getChar_3b067 33 = .ok (.iload_n 1, 1) := by decide +kernel
theorem dJ2_getChar_3b067_34 : decode cJ2_getChar_3b067 34 = .ok (.iinc 1 1, 3) := by decide +kernel
theorem dJ2_getChar_3b067_37 : decode cJ2_getChar_3b067 37 = .ok (.baload, 1) := by decide +kernel
theorem dJ2_getChar_3b067_38 : decode cJ2_getChar_3b067 38 = .ok (.sipush 255, 3) := by decide +kernel
theorem dJ2_getChar_3b067_41 : decode cJ2_getChar_3b067 41 = .ok (.iand, 1) := by decide +kernel
theorem dJ2_getChar_3b067_42 : decode cJ2_getChar_3b067 42 = .ok (.getstatic 59, 3) := by decide +kernel
theorem dJ2_getChar_3b067_45 : decode cJ2_getChar_3b067 45 = .ok (.ishl, 1) := by decide +kernel
theorem dJ2_getChar_3b067_46 : decode cJ2_getChar_3b067 46 = .ok (.aload_n 0, 1) := by decide +kernel
theorem dJ2_getChar_3b067_47 : decode cJ2_getChar_3b067 47 = .ok (.iload_n 1, 1) := by decide +kernel
theorem dJ2_getChar_3b067_48 : decode cJ2_getChar_3b067 48 = .ok (.baload, 1) := by decide +kernel
theorem dJ2_getChar_3b067_49 : decode cJ2_getChar_3b067 49 = .ok (.sipush 255, 3) := by decide +kernel
theorem dJ2_getChar_3b067_52 : decode cJ2_getChar_3b067 52 = .ok (.iand, 1) := by decide +kernel
theorem dJ2_getChar_3b067_53 : decode cJ2_getChar_3b067 53 = .ok (.getstatic 63, 3) := by decide +kernel
theorem dJ2_getChar_3b067_56 : decode cJ2_getChar_3b067 56 = .ok (.ishl, 1) := by decide +kernel
theorem dJ2_getChar_3b067_57 : decode cJ2_getChar_3b067 57 = .ok (.ior, 1) := by decide +kernel
theorem dJ2_getChar_3b067_58 : decode cJ2_getChar_3b067 58 = .ok (.i2c, 1) := by decide +kernel
theorem dJ2_getChar_3b067_59 : decode cJ2_getChar_3b067 59 = .ok (.ireturn, 1) := by decide +kernel
theorem dJ2_length_9d52b_0 : decode cJ2_length_9d52b 0 = .ok (.aload_n 0, 1) := by decide +kernel
theorem dJ2_length_9d52b_1 : decode cJ2_length_9d52b 1 = .ok (.arraylength, 1) := by decide +kernel
theorem dJ2_length_9d52b_2 : decode cJ2_length_9d52b 2 = .ok (.iconst 1, 1) := by decide +kernel
theorem dJ2_length_9d52b_3 : decode cJ2_length_9d52b 3 = .ok (.ishr, 1) := by decide +kernel
theorem dJ2_length_9d52b_4 : decode cJ2_length_9d52b 4 = .ok (.ireturn, 1) := by decide +kernel
theorem dJ2_charAt_3b067_0 : decode cJ2_charAt_3b067 0 = .ok (.iload_n 1, 1) := by decide +kernel
theorem dJ2_charAt_3b067_1 : decode cJ2_charAt_3b067 1 = .ok (.aload_n 0, 1) := by decide +kernel
theorem dJ2_charAt_3b067_2 : decode cJ2_charAt_3b067 2 = .ok (.invokestatic 67, 3) := by decide +kernel
theorem dJ2_charAt_3b067_5 : decode cJ2_charAt_3b067 5 = .ok (.aload_n 0, 1) := by decide +kernel
theorem dJ2_charAt_3b067_6 : decode cJ2_charAt_3b067 6 = .ok (.iload_n 1, 1) := by decide +kernel
theorem dJ2_charAt_3b067_7 : decode cJ2_charAt_3b067 7 = .ok (.invokestatic 71, 3) := by decide +kernel
theorem dJ2_charAt_3b067_10 : decode cJ2_charAt_3b067 10 = .ok (.ireturn, 1) := by decide +kernel
theorem dJ2_checkIndex_2214a_0 : decode cJ2_checkIndex_2214a 0 = .ok (.iload_n 0, 1) := by decide +kernel
theorem dJ2_checkIndex_2214a_1 : decode cJ2_checkIndex_2214a 1 = .ok (.aload_n 1, 1) := by decide +kernel
theorem dJ2_checkIndex_2214a_2 : decode cJ2_checkIndex_2214a 2 = .ok (.invokestatic 48, 3) := by decide +kernel
theorem dJ2_checkIndex_2214a_5 : decode cJ2_checkIndex_2214a 5 = .ok (.invokestatic 414, 3) := by decide +kernel
theorem dJ2_checkIndex_2214a_8 : decode cJ2_checkIndex_2214a 8 = .ok (.return_, 1) := by decide +kernel
theorem dJ3_checkIndex_8e157_0 : decode cJ3_checkIndex_8e157 0 = .ok (.iload_n 0, 1) := by decide +kernel
theorem dJ3_checkIndex_8e157_1 : decode cJ3_checkIndex_8e157 1 = .ok (.ifCond .lt 8, 3) := by decide +kernel
theorem dJ3_checkIndex_8e157_4 : decode cJ3_checkIndex_8e157 4 = .ok (.iload_n 0, 1) := by decide +kernel
theorem dJ3_checkIndex_8e157_5 : decode cJ3_checkIndex_8e157 5 = .ok (.iload_n 1, 1) := by decide +kernel
theorem dJ3_checkIndex_8e157_6 : decode cJ3_checkIndex_8e157 6 = .ok (.if_icmp .lt 10, 3) := by decide +kernel
theorem dJ3_checkIndex_8e157_9 : decode cJ3_checkIndex_8e157 9 = .ok (.aload_n 2, 1) := by decide +kernel
theorem dJ3_checkIndex_8e157_10 : decode cJ3_checkIndex_8e157 10 = .ok (.iload_n 0, 1) := by decide +kernel
theorem dJ3_checkIndex_8e157_11 : decode cJ3_checkIndex_8e157 11 = .ok (.iload_n 1, 1) := by decide +kernel
theorem dJ3_checkIndex_8e157_12 : decode cJ3_checkIndex_8e157 12 = .ok (.invokestatic 95, 3) := by decide +kernel
theorem dJ3_checkIndex_8e157_15 : decode cJ3_checkIndex_8e157 15 = .ok (.athrow, 1) := by decide +kernel
theorem dJ3_checkIndex_8e157_16 : decode cJ3_checkIndex_8e157 16 = .ok (.iload_n 0, 1) := by decide +kernel
theorem dJ3_checkIndex_8e157_17 : decode cJ3_checkIndex_8e157 17 = .ok (.ireturn, 1) := by decide +kernel
