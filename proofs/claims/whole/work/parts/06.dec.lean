theorem dX9_init_0 : decode cX9_init 0 = .ok (.aload_n 0, 1) := by decide +kernel
theorem dX9_init_1 : decode cX9_init 1 = .ok (.invokespecial 1, 3) := by decide +kernel
theorem dX9_init_4 : decode cX9_init 4 = .ok (.aload_n 0, 1) := by decide +kernel
theorem dX9_init_5 : decode cX9_init 5 = .ok (.bipush 8, 2) := by decide +kernel
theorem dX9_init_7 : decode cX9_init 7 = .ok (.newarray .int, 2) := by decide +kernel
theorem dX9_init_9 : decode cX9_init 9 = .ok (.dup, 1) := by decide +kernel
theorem dX9_init_10 : decode cX9_init 10 = .ok (.iconst 0, 1) := by decide +kernel
theorem dX9_init_11 : decode cX9_init 11 = .ok (.iconst (-1), 1) := by decide +kernel
theorem dX9_init_12 : decode cX9_init 12 = .ok (.iastore, 1) := by decide +kernel
theorem dX9_init_13 : decode cX9_init 13 = .ok (.dup, 1) := by decide +kernel
theorem dX9_init_14 : decode cX9_init 14 = .ok (.iconst 1, 1) := by decide +kernel
theorem dX9_init_15 : decode cX9_init 15 = .ok (.iconst (-1), 1) := by decide +kernel
theorem dX9_init_16 : decode cX9_init 16 = .ok (.iastore, 1) := by decide +kernel
theorem dX9_init_17 : decode cX9_init 17 = .ok (.dup, 1) := by decide +kernel
theorem dX9_init_18 : decode cX9_init 18 = .ok (.iconst 2, 1) := by decide +kernel
theorem dX9_init_19 : decode cX9_init 19 = .ok (.iconst (-1), 1) := by decide +kernel
theorem dX9_init_20 : decode cX9_init 20 = .ok (.iastore, 1) := by decide +kernel
theorem dX9_init_21 : decode cX9_init 21 = .ok (.dup, 1) := by decide +kernel
theorem dX9_init_22 : decode cX9_init 22 = .ok (.iconst 3, 1) := by decide +kernel
theorem dX9_init_23 : decode cX9_init 23 = .ok (.iconst (-1), 1) := by decide +kernel
theorem dX9_init_24 : decode cX9_init 24 = .ok (.iastore, 1) := by decide +kernel
theorem dX9_init_25 : decode cX9_init 25 = .ok (.dup, 1) := by decide +kernel
theorem dX9_init_26 : decode cX9_init 26 = .ok (.iconst 4, 1) := by decide +kernel
theorem dX9_init_27 : decode cX9_init 27 = .ok (.iconst (-1), 1) := by decide +kernel
theorem dX9_init_28 : decode cX9_init 28 = .ok (.iastore, 1) := by decide +kernel
theorem dX9_init_29 : decode cX9_init 29 = .ok (.dup, 1) := by decide +kernel
theorem dX9_init_30 : decode cX9_init 30 = .ok (.iconst 5, 1) := by decide +kernel
theorem dX9_init_31 : decode cX9_init 31 = .ok (.iconst (-1), 1) := by decide +kernel
theorem dX9_init_32 : decode cX9_init 32 = .ok (.iastore, 1) := by decide +kernel
theorem dX9_init_33 : decode cX9_init 33 = .ok (.dup, 1) := by decide +kernel
theorem dX9_init_34 : decode cX9_init 34 = .ok (.bipush 6, 2) := by decide +kernel
theorem dX9_init_36 : decode cX9_init 36 = .ok (.iconst (-1), 1) := by decide +kernel
theorem dX9_init_37 : decode cX9_init 37 = .ok (.iastore, 1) := by decide +kernel
theorem dX9_init_38 : decode cX9_init 38 = .ok (.dup, 1) := by decide +kernel
theorem dX9_init_39 : decode cX9_init 39 = .ok (.bipush 7, 2) := by decide +kernel
theorem dX9_init_41 : decode cX9_init 41 = .ok (.iconst (-1), 1) := by decide +kernel
theorem dX9_init_42 : decode cX9_init 42 = .ok (.iastore, 1) := by decide +kernel
theorem dX9_init_43 : decode cX9_init 43 = .ok (.putfield 7, 3) := by decide +kernel
theorem dX9_init_46 : decode cX9_init 46 = .ok (.aload_n 0, 1) := by decide +kernel
theorem dX9_init_47 : decode cX9_init 47 = .ok (.bipush 8, 2) := by decide +kernel
theorem dX9_init_49 : decode cX9_init 49 = .ok (.newarray .int, 2) := by decide +kernel
theorem dX9_init_51 : decode cX9_init 51 = .ok (.putfield 13, 3) := by decide +kernel
theorem dX9_init_54 : decode cX9_init 54 = .ok (.aload_n 0, 1) := by decide +kernel
theorem dX9_init_55 : decode cX9_init 55 = .ok (.sipush 1152, 3) := by decide +kernel
theorem dX9_init_58 : decode cX9_init 58 = .ok (.newarray .int, 2) := by decide +kernel
theorem dX9_init_60 : decode cX9_init 60 = .ok (.putfield 16, 3) := by decide +kernel
theorem dX9_init_63 : decode cX9_init 63 = .ok (.aload_n 0, 1) := by decide +kernel
theorem dX9_init_64 : decode cX9_init 64 = .ok (.bipush 64, 2) := by decide +kernel
theorem dX9_init_66 : decode cX9_init 66 = .ok (.newarray .int, 2) := by decide +kernel
theorem dX9_init_68 : decode cX9_init 68 = .ok (.putfield 19, 3) := by decide +kernel
theorem dX9_init_71 : decode cX9_init 71 = .ok (.aload_n 0, 1) := by decide +kernel
theorem dX9_init_72 : decode cX9_init 72 = .ok (.bipush 72, 2) := by decide +kernel
theorem dX9_init_74 : decode cX9_init 74 = .ok (.newarray .int, 2) := by decide +kernel
theorem dX9_init_76 : decode cX9_init 76 = .ok (.putfield 22, 3) := by decide +kernel
theorem dX9_init_79 : decode cX9_init 79 = .ok (.aload_n 0, 1) := by decide +kernel
theorem dX9_init_80 : decode cX9_init 80 = .ok (.bipush 6, 2) := by decide +kernel
theorem dX9_init_82 : decode cX9_init 82 = .ok (.newarray .int, 2) := by decide +kernel
theorem dX9_init_84 : decode cX9_init 84 = .ok (.putfield 25, 3) := by decide +kernel
theorem dX9_init_87 : decode cX9_init 87 = .ok (.aload_n 0, 1) := by decide +kernel
theorem dX9_init_88 : decode cX9_init 88 = .ok (.bipush 6, 2) := by decide +kernel
theorem dX9_init_90 : decode cX9_init 90 = .ok (.newarray .int, 2) := by decide +kernel
theorem dX9_init_92 : decode cX9_init 92 = .ok (.putfield 28, 3) := by decide +kernel
theorem dX9_init_95 : decode cX9_init 95 = .ok (.aload_n 0, 1) := by decide +kernel
theorem dX9_init_96 : decode cX9_init 96 = .ok (.iconst 2, 1) := by decide +kernel
theorem dX9_init_97 : decode cX9_init 97 = .ok (.newarray .int, 2) := by decide +kernel
theorem dX9_init_99 : decode cX9_init 99 = .ok (.putfield 31, 3) := by decide +kernel
theorem dX9_init_102 : decode cX9_init 102 = .ok (.aload_n 0, 1) := by decide +kernel
theorem dX9_init_103 : decode cX9_init 103 = .ok (.iconst 2, 1) := by decide +kernel
theorem dX9_init_104 : decode cX9_init 104 = .ok (.newarray .int, 2) := by decide +kernel
theorem dX9_init_106 : decode cX9_init 106 = .ok (.putfield 34, 3) := by decide +kernel
theorem dX9_init_109 : decode cX9_init 109 = .ok (.aload_n 0, 1) := by decide +kernel
theorem dX9_init_110 : decode cX9_init 110 = .ok (.sipush 288, 3) := by decide +kernel
theorem dX9_init_113 : decode cX9_init 113 = .ok (.newarray .int, 2) := by decide +kernel
theorem dX9_init_115 : decode cX9_init 115 = .ok (.putfield 37, 3) := by decide +kernel
theorem dX9_init_118 : decode cX9_init 118 = .ok (.aload_n 0, 1) := by decide +kernel
theorem dX9_init_119 : decode cX9_init 119 = .ok (.sipush 900, 3) := by decide +kernel
theorem dX9_init_122 : decode cX9_init 122 = .ok (.newarray .int, 2) := by decide +kernel
theorem dX9_init_124 : decode cX9_init 124 = .ok (.putfield 40, 3) := by decide +kernel
theorem dX9_init_127 : decode cX9_init 127 = .ok (.aload_n 0, 1) := by decide +kernel
theorem dX9_init_128 : decode cX9_init 128 = .ok (.bipush 60, 2) := by decide +kernel
theorem dX9_init_130 : decode cX9_init 130 = .ok (.newarray .int, 2) := by decide +kernel
theorem dX9_init_132 : decode cX9_init 132 = .ok (.putfield 43, 3) := by decide +kernel
theorem dX9_init_135 : decode cX9_init 135 = .ok (.aload_n 0, 1) := by decide +kernel
theorem dX9_init_136 : decode cX9_init 136 = .ok (.bipush 60, 2) := by decide +kernel
theorem dX9_init_138 : decode cX9_init 138 = .ok (.newarray .int, 2) := by decide +kernel
theorem dX9_init_140 : decode cX9_init 140 = .ok (.putfield 46, 3) := by decide +kernel
theorem dX9_init_143 : decode cX9_init 143 = .ok (.aload_n 0, 1) := by decide +kernel
theorem dX9_init_144 : decode cX9_init 144 = .ok (.bipush 16, 2) := by decide +kernel
theorem dX9_init_146 : decode cX9_init 146 = .ok (.newarray .int, 2) := by decide +kernel
theorem dX9_init_148 : decode cX9_init 148 = .ok (.putfield 49, 3) := by decide +kernel
theorem dX9_init_151 : decode cX9_init 151 = .ok (.return_, 1) := by decide +kernel
theorem dX9_isIn_0 : decode cX9_isIn 0 = .ok (.lload_n 0, 1) := by decide +kernel
theorem dX9_isIn_1 : decode cX9_isIn 1 = .ok (.lload_n 2, 1) := by decide +kernel
theorem dX9_isIn_2 : decode cX9_isIn 2 = .ok (.lcmp, 1) := by decide +kernel
theorem dX9_isIn_3 : decode cX9_isIn 3 = .ok (.ifCond .lt 14, 3) := by decide +kernel
theorem dX9_isIn_6 : decode cX9_isIn 6 = .ok (.lload_n 0, 1) := by decide +kernel
theorem dX9_isIn_7 : decode cX9_isIn 7 = .ok (.lload 4, 2) := by decide +kernel
theorem dX9_isIn_9 : decode cX9_isIn 9 = .ok (.lcmp, 1) := by decide +kernel
theorem dX9_isIn_10 : decode cX9_isIn 10 = .ok (.ifCond .gt 7, 3) := by decide +kernel
theorem dX9_isIn_13 : decode cX9_isIn 13 = .ok (.iconst 1, 1) := by decide +kernel
theorem dX9_isIn_14 : decode cX9_isIn 14 = .ok (.goto 4, 3) := by decide +kernel
theorem dX9_isIn_17 : decode cX9_isIn 17 = .ok (.iconst 0, 1) := by decide +kernel
theorem dX9_isIn_18 : decode cX9_isIn 18 = .ok (.ireturn, 1) := by decide +kernel
theorem dX9_found_0 : decode cX9_found 0 = .ok (.aload_n 0, 1) := by decide +kernel
theorem dX9_found_1 : decode cX9_found 1 = .ok (.iload_n 1, 1) := by decide +kernel
theorem dX9_found_2 : decode cX9_found 2 = .ok (.putfield 56, 3) := by decide +kernel
theorem dX9_found_5 : decode cX9_found 5 = .ok (.ldc 59, 2) := by decide +kernel
theorem dX9_found_7 : decode cX9_found 7 = .ok (.iload_n 1, 1) := by decide +kernel
theorem dX9_found_8 : decode cX9_found 8 = .ok (.isub, 1) := by decide +kernel
theorem dX9_found_9 : decode cX9_found 9 = .ok (.ireturn, 1) := by decide +kernel
theorem dX9_isSheet_0 : decode cX9_isSheet 0 = .ok (.iload_n 0, 1) := by decide +kernel
theorem dX9_isSheet_1 : decode cX9_isSheet 1 = .ok (.i2l, 1) := by decide +kernel
theorem dX9_isSheet_2 : decode cX9_isSheet 2 = .ok (.lconst 0, 1) := by decide +kernel
theorem dX9_isSheet_3 : decode cX9_isSheet 3 = .ok (.ldc2_w 60, 3) := by decide +kernel
theorem dX9_isSheet_6 : decode cX9_isSheet 6 = .ok (.invokestatic 62, 3) := by decide +kernel
theorem dX9_isSheet_9 : decode cX9_isSheet 9 = .ok (.ireturn, 1) := by decide +kernel
theorem dX9_sheet_0 : decode cX9_sheet 0 = .ok (.aload_n 0, 1) := by decide +kernel
theorem dX9_sheet_1 : decode cX9_sheet 1 = .ok (.iconst 0, 1) := by decide +kernel
theorem dX9_sheet_2 : decode cX9_sheet 2 = .ok (.putfield 52, 3) := by decide +kernel
theorem dX9_sheet_5 : decode cX9_sheet 5 = .ok (.iload_n 1, 1) := by decide +kernel
theorem dX9_sheet_6 : decode cX9_sheet 6 = .ok (.invokestatic 66, 3) := by decide +kernel
theorem dX9_sheet_9 : decode cX9_sheet 9 = .ok (.ifCond .eq 22, 3) := by decide +kernel
theorem dX9_sheet_12 : decode cX9_sheet 12 = .ok (.iload_n 2, 1) := by decide +kernel
theorem dX9_sheet_13 : decode cX9_sheet 13 = .ok (.i2l, 1) := by decide +kernel
theorem dX9_sheet_14 : decode cX9_sheet 14 = .ok (.lconst 0, 1) := by decide +kernel
theorem dX9_sheet_15 : decode cX9_sheet 15 = .ok (.ldc2_w 70, 3) := by decide +kernel
theorem dX9_sheet_18 : decode cX9_sheet 18 = .ok (.invokestatic 62, 3) := by decide +kernel
theorem dX9_sheet_21 : decode cX9_sheet 21 = .ok (.ifCond .eq 10, 3) := by decide +kernel
theorem dX9_sheet_24 : decode cX9_sheet 24 = .ok (.iload_n 3, 1) := by decide +kernel
theorem dX9_sheet_25 : decode cX9_sheet 25 = .ok (.sipush 144, 3) := by decide +kernel
theorem dX9_sheet_28 : decode cX9_sheet 28 = .ok (.if_icmp .le 6, 3) := by decide +kernel
theorem dX9_sheet_31 : decode cX9_sheet 31 = .ok (.ldc 72, 2) := by decide +kernel
theorem dX9_sheet_33 : decode cX9_sheet 33 = .ok (.ireturn, 1) := by decide +kernel
theorem dX9_sheet_34 : decode cX9_sheet 34 = .ok (.aload_n 0, 1) := by decide +kernel
theorem dX9_sheet_35 : decode cX9_sheet 35 = .ok (.iconst 0, 1) := by decide +kernel
theorem dX9_sheet_36 : decode cX9_sheet 36 = .ok (.putfield 56, 3) := by decide +kernel
theorem dX9_sheet_39 : decode cX9_sheet 39 = .ok (.iload_n 3, 1) := by decide +kernel
theorem dX9_sheet_40 : decode cX9_sheet 40 = .ok (.ifCond .ge 9, 3) := by decide +kernel
theorem dX9_sheet_43 : decode cX9_sheet 43 = .ok (.aload_n 0, 1) := by decide +kernel
theorem dX9_sheet_44 : decode cX9_sheet 44 = .ok (.iconst 4, 1) := by decide +kernel
theorem dX9_sheet_45 : decode cX9_sheet 45 = .ok (.invokevirtual 73, 3) := by decide +kernel
theorem dX9_sheet_48 : decode cX9_sheet 48 = .ok (.ireturn, 1) := by decide +kernel
theorem dX9_sheet_49 : decode cX9_sheet 49 = .ok (.aload_n 0, 1) := by decide +kernel
theorem dX9_sheet_50 : decode cX9_sheet 50 = .ok (.getfield 7, 3) := by decide +kernel
theorem dX9_sheet_53 : decode cX9_sheet 53 = .ok (.iload_n 1, 1) := by decide +kernel
theorem dX9_sheet_54 : decode cX9_sheet 54 = .ok (.iload_n 2, 1) := by decide +kernel
theorem dX9_sheet_55 : decode cX9_sheet 55 = .ok (.iastore, 1) := by decide +kernel
theorem dX9_sheet_56 : decode cX9_sheet 56 = .ok (.aload_n 0, 1) := by decide +kernel
theorem dX9_sheet_57 : decode cX9_sheet 57 = .ok (.getfield 13, 3) := by decide +kernel
theorem dX9_sheet_60 : decode cX9_sheet 60 = .ok (.iload_n 1, 1) := by decide +kernel
theorem dX9_sheet_61 : decode cX9_sheet 61 = .ok (.iload_n 3, 1) := by decide +kernel
theorem dX9_sheet_62 : decode cX9_sheet 62 = .ok (.iastore, 1) := by decide +kernel
theorem dX9_sheet_63 : decode cX9_sheet 63 = .ok (.iconst 0, 1) := by decide +kernel
theorem dX9_sheet_64 : decode cX9_sheet 64 = .ok (.istore 4, 2) := by decide +kernel
theorem dX9_sheet_66 : decode cX9_sheet 66 = .ok (.iload 4, 2) := by decide +kernel
theorem dX9_sheet_68 : decode cX9_sheet 68 = .ok (.sipush 144, 3) := by decide +kernel
theorem dX9_sheet_71 : decode cX9_sheet 71 = .ok (.if_icmp .ge 23, 3) := by decide +kernel
theorem dX9_sheet_74 : decode cX9_sheet 74 = .ok (.aload_n 0, 1) := by decide +kernel
theorem dX9_sheet_75 : decode cX9_sheet 75 = .ok (.getfield 16, 3) := by decide +kernel
theorem dX9_sheet_78 : decode cX9_sheet 78 = .ok (.sipush 144, 3) := by decide +kernel
theorem dX9_sheet_81 : decode cX9_sheet 81 = .ok (.iload_n 1, 1) := by decide +kernel
theorem dX9_sheet_82 : decode cX9_sheet 82 = .ok (.imul, 1) := by decide +kernel
theorem dX9_sheet_83 : decode cX9_sheet 83 = .ok (.iload 4, 2) := by decide +kernel
theorem dX9_sheet_85 : decode cX9_sheet 85 = .ok (.iadd, 1) := by decide +kernel
theorem dX9_sheet_86 : decode cX9_sheet 86 = .ok (.iconst 0, 1) := by decide +kernel
theorem dX9_sheet_87 : decode cX9_sheet 87 = .ok (.iastore, 1) := by decide +kernel
theorem dX9_sheet_88 : decode cX9_sheet 88 = .ok (.iinc 4 1, 3) := by decide +kernel
theorem dX9_sheet_91 : decode cX9_sheet 91 = .ok (.goto (-25), 3) := by decide +kernel
theorem dX9_sheet_94 : decode cX9_sheet 94 = .ok (.iload_n 3, 1) := by decide +kernel
theorem dX9_sheet_95 : decode cX9_sheet 95 = .ok (.ireturn, 1) := by decide +kernel
theorem dX9_set_0 : decode cX9_set 0 = .ok (.aload_n 0, 1) := by decide +kernel
theorem dX9_set_1 : decode cX9_set 1 = .ok (.iconst 0, 1) := by decide +kernel
theorem dX9_set_2 : decode cX9_set 2 = .ok (.putfield 52, 3) := by decide +kernel
theorem dX9_set_5 : decode cX9_set 5 = .ok (.iload_n 1, 1) := by decide +kernel
theorem dX9_set_6 : decode cX9_set 6 = .ok (.invokestatic 66, 3) := by decide +kernel
theorem dX9_set_9 : decode cX9_set 9 = .ok (.ifCond .ne 6, 3) := by decide +kernel
theorem dX9_set_12 : decode cX9_set 12 = .ok (.ldc 72, 2) := by decide +kernel
theorem dX9_set_14 : decode cX9_set 14 = .ok (.ireturn, 1) := by decide +kernel
theorem dX9_set_15 : decode cX9_set 15 = .ok (.aload_n 0, 1) := by decide +kernel
theorem dX9_set_16 : decode cX9_set 16 = .ok (.iconst 0, 1) := by decide +kernel
theorem dX9_set_17 : decode cX9_set 17 = .ok (.putfield 56, 3) := by decide +kernel
theorem dX9_set_20 : decode cX9_set 20 = .ok (.aload_n 0, 1) := by decide +kernel
theorem dX9_set_21 : decode cX9_set 21 = .ok (.getfield 7, 3) := by decide +kernel
theorem dX9_set_24 : decode cX9_set 24 = .ok (.iload_n 1, 1) := by decide +kernel
theorem dX9_set_25 : decode cX9_set 25 = .ok (.iaload, 1) := by decide +kernel
theorem dX9_set_26 : decode cX9_set 26 = .ok (.ifCond .ge 9, 3) := by decide +kernel
theorem dX9_set_29 : decode cX9_set 29 = .ok (.aload_n 0, 1) := by decide +kernel
theorem dX9_set_30 : decode cX9_set 30 = .ok (.iconst 1, 1) := by decide +kernel
theorem dX9_set_31 : decode cX9_set 31 = .ok (.invokevirtual 73, 3) := by decide +kernel
theorem dX9_set_34 : decode cX9_set 34 = .ok (.ireturn, 1) := by decide +kernel
theorem dX9_set_35 : decode cX9_set 35 = .ok (.iload_n 2, 1) := by decide +kernel
theorem dX9_set_36 : decode cX9_set 36 = .ok (.i2l, 1) := by decide +kernel
theorem dX9_set_37 : decode cX9_set 37 = .ok (.lconst 0, 1) := by decide +kernel
theorem dX9_set_38 : decode cX9_set 38 = .ok (.aload_n 0, 1) := by decide +kernel
theorem dX9_set_39 : decode cX9_set 39 = .ok (.getfield 13, 3) := by decide +kernel
theorem dX9_set_42 : decode cX9_set 42 = .ok (.iload_n 1, 1) := by decide +kernel
theorem dX9_set_43 : decode cX9_set 43 = .ok (.iaload, 1) := by decide +kernel
theorem dX9_set_44 : decode cX9_set 44 = .ok (.iconst 1, 1) := by decide +kernel
theorem dX9_set_45 : decode cX9_set 45 = .ok (.isub, 1) := by decide +kernel
theorem dX9_set_46 : decode cX9_set 46 = .ok (.i2l, 1) := by decide +kernel
theorem dX9_set_47 : decode cX9_set 47 = .ok (.invokestatic 62, 3) := by decide +kernel
theorem dX9_set_50 : decode cX9_set 50 = .ok (.ifCond .ne 9, 3) := by decide +kernel
theorem dX9_set_53 : decode cX9_set 53 = .ok (.aload_n 0, 1) := by decide +kernel
theorem dX9_set_54 : decode cX9_set 54 = .ok (.iconst 2, 1) := by decide +kernel
theorem dX9_set_55 : decode cX9_set 55 = .ok (.invokevirtual 73, 3) := by decide +kernel
theorem dX9_set_58 : decode cX9_set 58 = .ok (.ireturn, 1) := by decide +kernel
theorem dX9_set_59 : decode cX9_set 59 = .ok (.aload_n 0, 1) := by decide +kernel
theorem dX9_set_60 : decode cX9_set 60 = .ok (.getfield 16, 3) := by decide +kernel
theorem dX9_set_63 : decode cX9_set 63 = .ok (.sipush 144, 3) := by decide +kernel
theorem dX9_set_66 : decode cX9_set 66 = .ok (.iload_n 1, 1) := by decide +kernel
theorem dX9_set_67 : decode cX9_set 67 = .ok (.imul, 1) := by decide +kernel
theorem dX9_set_68 : decode cX9_set 68 = .ok (.iload_n 2, 1) := by decide +kernel
theorem dX9_set_69 : decode cX9_set 69 = .ok (.iadd, 1) := by decide +kernel
theorem dX9_set_70 : decode cX9_set 70 = .ok (.aload_n 0, 1) := by decide +kernel
theorem dX9_set_71 : decode cX9_set 71 = .ok (.getfield 7, 3) := by decide +kernel
theorem dX9_set_74 : decode cX9_set 74 = .ok (.iload_n 1, 1) := by decide +kernel
theorem dX9_set_75 : decode cX9_set 75 = .ok (.iaload, 1) := by decide +kernel
theorem dX9_set_76 : decode cX9_set 76 = .ok (.ifCond .ne 8, 3) := by decide +kernel
theorem dX9_set_79 : decode cX9_set 79 = .ok (.iload_n 3, 1) := by decide +kernel
theorem dX9_set_80 : decode cX9_set 80 = .ok (.i2b, 1) := by decide +kernel
theorem dX9_set_81 : decode cX9_set 81 = .ok (.goto 19, 3) := by decide +kernel
theorem dX9_set_84 : decode cX9_set 84 = .ok (.aload_n 0, 1) := by decide +kernel
theorem dX9_set_85 : decode cX9_set 85 = .ok (.getfield 7, 3) := by decide +kernel
theorem dX9_set_88 : decode cX9_set 88 = .ok (.iload_n 1, 1) := by decide +kernel
theorem dX9_set_89 : decode cX9_set 89 = .ok (.iaload, 1) := by decide +kernel
theorem dX9_set_90 : decode cX9_set 90 = .ok (.iconst 1, 1) := by decide +kernel
theorem dX9_set_91 : decode cX9_set 91 = .ok (.if_icmp .ne 8, 3) := by decide +kernel
theorem dX9_set_94 : decode cX9_set 94 = .ok (.iload_n 3, 1) := by decide +kernel
theorem dX9_set_95 : decode cX9_set 95 = .ok (.i2s, 1) := by decide +kernel
theorem dX9_set_96 : decode cX9_set 96 = .ok (.goto 4, 3) := by decide +kernel
theorem dX9_set_99 : decode cX9_set 99 = .ok (.iload_n 3, 1) := by decide +kernel
theorem dX9_set_100 : decode cX9_set 100 = .ok (.iastore, 1) := by decide +kernel
theorem dX9_set_101 : decode cX9_set 101 = .ok (.aload_n 0, 1) := by decide +kernel
theorem dX9_set_102 : decode cX9_set 102 = .ok (.getfield 16, 3) := by decide +kernel
theorem dX9_set_105 : decode cX9_set 105 = .ok (.sipush 144, 3) := by decide +kernel
theorem dX9_set_108 : decode cX9_set 108 = .ok (.iload_n 1, 1) := by decide +kernel
theorem dX9_set_109 : decode cX9_set 109 = .ok (.imul, 1) := by decide +kernel
theorem dX9_set_110 : decode cX9_set 110 = .ok (.iload_n 2, 1) := by decide +kernel
theorem dX9_set_111 : decode cX9_set 111 = .ok (.iadd, 1) := by decide +kernel
theorem dX9_set_112 : decode cX9_set 112 = .ok (.iaload, 1) := by decide +kernel
theorem dX9_set_113 : decode cX9_set 113 = .ok (.ireturn, 1) := by decide +kernel
theorem dX9_copy_0 : decode cX9_copy 0 = .ok (.aload_n 0, 1) := by decide +kernel
theorem dX9_copy_1 : decode cX9_copy 1 = .ok (.iconst 0, 1) := by decide +kernel
theorem dX9_copy_2 : decode cX9_copy 2 = .ok (.putfield 52, 3) := by decide +kernel
theorem dX9_copy_5 : decode cX9_copy 5 = .ok (.iload_n 1, 1) := by decide +kernel
theorem dX9_copy_6 : decode cX9_copy 6 = .ok (.invokestatic 66, 3) := by decide +kernel
theorem dX9_copy_9 : decode cX9_copy 9 = .ok (.ifCond .eq 10, 3) := by decide +kernel
theorem dX9_copy_12 : decode cX9_copy 12 = .ok (.iload_n 3, 1) := by decide +kernel
theorem dX9_copy_13 : decode cX9_copy 13 = .ok (.invokestatic 66, 3) := by decide +kernel
theorem dX9_copy_16 : decode cX9_copy 16 = .ok (.ifCond .ne 6, 3) := by decide +kernel
theorem dX9_copy_19 : decode cX9_copy 19 = .ok (.ldc 72, 2) := by decide +kernel
theorem dX9_copy_21 : decode cX9_copy 21 = .ok (.ireturn, 1) := by decide +kernel
theorem dX9_copy_22 : decode cX9_copy 22 = .ok (.aload_n 0, 1) := by decide +kernel
theorem dX9_copy_23 : decode cX9_copy 23 = .ok (.iconst 0, 1) := by decide +kernel
theorem dX9_copy_24 : decode cX9_copy 24 = .ok (.putfield 56, 3) := by decide +kernel
theorem dX9_copy_27 : decode cX9_copy 27 = .ok (.aload_n 0, 1) := by decide +kernel
theorem dX9_copy_28 : decode cX9_copy 28 = .ok (.getfield 7, 3) := by decide +kernel
theorem dX9_copy_31 : decode cX9_copy 31 = .ok (.iload_n 1, 1) := by decide +kernel
theorem dX9_copy_32 : decode cX9_copy 32 = .ok (.iaload, 1) := by decide +kernel
theorem dX9_copy_33 : decode cX9_copy 33 = .ok (.ifCond .lt 12, 3) := by decide +kernel
theorem dX9_copy_36 : decode cX9_copy 36 = .ok (.aload_n 0, 1) := by decide +kernel
theorem dX9_copy_37 : decode cX9_copy 37 = .ok (.getfield 7, 3) := by decide +kernel
theorem dX9_copy_40 : decode cX9_copy 40 = .ok (.iload_n 3, 1) := by decide +kernel
theorem dX9_copy_41 : decode cX9_copy 41 = .ok (.iaload, 1) := by decide +kernel
theorem dX9_copy_42 : decode cX9_copy 42 = .ok (.ifCond .ge 9, 3) := by decide +kernel
theorem dX9_copy_45 : decode cX9_copy 45 = .ok (.aload_n 0, 1) := by decide +kernel
theorem dX9_copy_46 : decode cX9_copy 46 = .ok (.iconst 1, 1) := by decide +kernel
theorem dX9_copy_47 : decode cX9_copy 47 = .ok (.invokevirtual 73, 3) := by decide +kernel
theorem dX9_copy_50 : decode cX9_copy 50 = .ok (.ireturn, 1) := by decide +kernel
theorem dX9_copy_51 : decode cX9_copy 51 = .ok (.aload_n 0, 1) := by decide +kernel
theorem dX9_copy_52 : decode cX9_copy 52 = .ok (.getfield 7, 3) := by decide +kernel
theorem dX9_copy_55 : decode cX9_copy 55 = .ok (.iload_n 1, 1) := by decide +kernel
theorem dX9_copy_56 : decode cX9_copy 56 = .ok (.iaload, 1) := by decide +kernel
theorem dX9_copy_57 : decode cX9_copy 57 = .ok (.aload_n 0, 1) := by decide +kernel
theorem dX9_copy_58 : decode cX9_copy 58 = .ok (.getfield 7, 3) := by decide +kernel
theorem dX9_copy_61 : decode cX9_copy 61 = .ok (.iload_n 3, 1) := by decide +kernel
theorem dX9_copy_62 : decode cX9_copy 62 = .ok (.iaload, 1) := by decide +kernel
theorem dX9_copy_63 : decode cX9_copy 63 = .ok (.if_icmp .eq 9, 3) := by decide +kernel
theorem dX9_copy_66 : decode cX9_copy 66 = .ok (.aload_n 0, 1) := by decide +kernel
theorem dX9_copy_67 : decode cX9_copy 67 = .ok (.iconst 5, 1) := by decide +kernel
theorem dX9_copy_68 : decode cX9_copy 68 = .ok (.invokevirtual 73, 3) := by decide +kernel
theorem dX9_copy_71 : decode cX9_copy 71 = .ok (.ireturn, 1) := by decide +kernel
theorem dX9_copy_72 : decode cX9_copy 72 = .ok (.iload_n 2, 1) := by decide +kernel
theorem dX9_copy_73 : decode cX9_copy 73 = .ok (.ifCond .lt 48, 3) := by decide +kernel
theorem dX9_copy_76 : decode cX9_copy 76 = .ok (.iload 4, 2) := by decide +kernel
theorem dX9_copy_78 : decode cX9_copy 78 = .ok (.ifCond .lt 43, 3) := by decide +kernel
theorem dX9_copy_81 : decode cX9_copy 81 = .ok (.iload 5, 2) := by decide +kernel
theorem dX9_copy_83 : decode cX9_copy 83 = .ok (.ifCond .lt 38, 3) := by decide +kernel
theorem dX9_copy_86 : decode cX9_copy 86 = .ok (.iload_n 2, 1) := by decide +kernel
theorem dX9_copy_87 : decode cX9_copy 87 = .ok (.i2l, 1) := by decide +kernel
theorem dX9_copy_88 : decode cX9_copy 88 = .ok (.iload 5, 2) := by decide +kernel
theorem dX9_copy_90 : decode cX9_copy 90 = .ok (.i2l, 1) := by decide +kernel
theorem dX9_copy_91 : decode cX9_copy 91 = .ok (.ladd, 1) := by decide +kernel
theorem dX9_copy_92 : decode cX9_copy 92 = .ok (.aload_n 0, 1) := by decide +kernel
theorem dX9_copy_93 : decode cX9_copy 93 = .ok (.getfield 13, 3) := by decide +kernel
theorem dX9_copy_96 : decode cX9_copy 96 = .ok (.iload_n 1, 1) := by decide +kernel
theorem dX9_copy_97 : decode cX9_copy 97 = .ok (.iaload, 1) := by decide +kernel
theorem dX9_copy_98 : decode cX9_copy 98 = .ok (.i2l, 1) := by decide +kernel
theorem dX9_copy_99 : decode cX9_copy 99 = .ok (.lcmp, 1) := by decide +kernel
theorem dX9_copy_100 : decode cX9_copy 100 = .ok (.ifCond .gt 21, 3) := by decide +kernel
theorem dX9_copy_103 : decode cX9_copy 103 = .ok (.iload 4, 2) := by decide +kernel
theorem dX9_copy_105 : decode cX9_copy 105 = .ok (.i2l, 1) := by decide +kernel
theorem dX9_copy_106 : decode cX9_copy 106 = .ok (.iload 5, 2) := by decide +kernel
theorem dX9_copy_108 : decode cX9_copy 108 = .ok (.i2l, 1) := by decide +kernel
theorem dX9_copy_109 : decode cX9_copy 109 = .ok (.ladd, 1) := by decide +kernel
theorem dX9_copy_110 : decode cX9_copy 110 = .ok (.aload_n 0, 1) := by decide +kernel
theorem dX9_copy_111 : decode cX9_copy 111 = .ok (.getfield 13, 3) := by decide +kernel
theorem dX9_copy_114 : decode cX9_copy 114 = .ok (.iload_n 3, 1) := by decide +kernel
theorem dX9_copy_115 : decode cX9_copy 115 = .ok (.iaload, 1) := by decide +kernel
theorem dX9_copy_116 : decode cX9_copy 116 = .ok (.i2l, 1) := by decide +kernel
theorem dX9_copy_117 : decode cX9_copy 117 = .ok (.lcmp, 1) := by decide +kernel
theorem dX9_copy_118 : decode cX9_copy 118 = .ok (.ifCond .le 9, 3) := by decide +kernel
theorem dX9_copy_121 : decode cX9_copy 121 = .ok (.aload_n 0, 1) := by decide +kernel
theorem dX9_copy_122 : decode cX9_copy 122 = .ok (.iconst 2, 1) := by decide +kernel
theorem dX9_copy_123 : decode cX9_copy 123 = .ok (.invokevirtual 73, 3) := by decide +kernel
theorem dX9_copy_126 : decode cX9_copy 126 = .ok (.ireturn, 1) := by decide +kernel
theorem dX9_copy_127 : decode cX9_copy 127 = .ok (.iload_n 2, 1) := by decide +kernel
theorem dX9_copy_128 : decode cX9_copy 128 = .ok (.iload 4, 2) := by decide +kernel
theorem dX9_copy_130 : decode cX9_copy 130 = .ok (.if_icmp .lt 7, 3) := by decide +kernel
theorem dX9_copy_133 : decode cX9_copy 133 = .ok (.iconst 1, 1) := by decide +kernel
theorem dX9_copy_134 : decode cX9_copy 134 = .ok (.goto 4, 3) := by decide +kernel
theorem dX9_copy_137 : decode cX9_copy 137 = .ok (.iconst 0, 1) := by decide +kernel
theorem dX9_copy_138 : decode cX9_copy 138 = .ok (.istore 6, 2) := by decide +kernel
theorem dX9_copy_140 : decode cX9_copy 140 = .ok (.iconst 0, 1) := by decide +kernel
theorem dX9_copy_141 : decode cX9_copy 141 = .ok (.istore 7, 2) := by decide +kernel
theorem dX9_copy_143 : decode cX9_copy 143 = .ok (.iload 7, 2) := by decide +kernel
theorem dX9_copy_145 : decode cX9_copy 145 = .ok (.iload 5, 2) := by decide +kernel
theorem dX9_copy_147 : decode cX9_copy 147 = .ok (.if_icmp .ge 59, 3) := by decide +kernel
theorem dX9_copy_150 : decode cX9_copy 150 = .ok (.iload 6, 2) := by decide +kernel
theorem dX9_copy_152 : decode cX9_copy 152 = .ok (.ifCond .eq 8, 3) := by decide +kernel
theorem dX9_copy_155 : decode cX9_copy 155 = .ok (.iload 7, 2) := by decide +kernel
theorem dX9_copy_157 : decode cX9_copy 157 = .ok (.goto 10, 3) := by decide +kernel
theorem dX9_copy_160 : decode cX9_copy 160 = .ok (.iload 5, 2) := by decide +kernel
theorem dX9_copy_162 : decode cX9_copy 162 = .ok (.iconst 1, 1) := by decide +kernel
theorem dX9_copy_163 : decode cX9_copy 163 = .ok (.isub, 1) := by decide +kernel
theorem dX9_copy_164 : decode cX9_copy 164 = .ok (.iload 7, 2) := by decide +kernel
theorem dX9_copy_166 : decode cX9_copy 166 = .ok (.isub, 1) := by decide +kernel
theorem dX9_copy_167 : decode cX9_copy 167 = .ok (.istore 8, 2) := by decide +kernel
theorem dX9_copy_169 : decode cX9_copy 169 = .ok (.aload_n 0, 1) := by decide +kernel
theorem dX9_copy_170 : decode cX9_copy 170 = .ok (.getfield 16, 3) := by decide +kernel
theorem dX9_copy_173 : decode cX9_copy 173 = .ok (.sipush 144, 3) := by decide +kernel
theorem dX9_copy_176 : decode cX9_copy 176 = .ok (.iload_n 3, 1) := by decide +kernel
theorem dX9_copy_177 : decode cX9_copy 177 = .ok (.imul, 1) := by decide +kernel
theorem dX9_copy_178 : decode cX9_copy 178 = .ok (.iload 4, 2) := by decide +kernel
theorem dX9_copy_180 : decode cX9_copy 180 = .ok (.iadd, 1) := by decide +kernel
theorem dX9_copy_181 : decode cX9_copy 181 = .ok (.iload 8, 2) := by decide +kernel
theorem dX9_copy_183 : decode cX9_copy 183 = .ok (.iadd, 1) := by decide +kernel
theorem dX9_copy_184 : decode cX9_copy 184 = .ok (.aload_n 0, 1) := by decide +kernel
theorem dX9_copy_185 : decode cX9_copy 185 = .ok (.getfield 16, 3) := by decide +kernel
theorem dX9_copy_188 : decode cX9_copy 188 = .ok (.sipush 144, 3) := by decide +kernel
theorem dX9_copy_191 : decode cX9_copy 191 = .ok (.iload_n 1, 1) := by decide +kernel
theorem dX9_copy_192 : decode cX9_copy 192 = .ok (.imul, 1) := by decide +kernel
theorem dX9_copy_193 : decode cX9_copy 193 = .ok (.iload_n 2, 1) := by decide +kernel
theorem dX9_copy_194 : decode cX9_copy 194 = .ok (.iadd, 1) := by decide +kernel
theorem dX9_copy_195 : decode cX9_copy 195 = .ok (.iload 8, 2) := by decide +kernel
theorem dX9_copy_197 : decode cX9_copy 197 = .ok (.iadd, 1) := by decide +kernel
theorem dX9_copy_198 : decode cX9_copy 198 = .ok (.iaload, 1) := by decide +kernel
theorem dX9_copy_199 : decode cX9_copy 199 = .ok (.iastore, 1) := by decide +kernel
theorem dX9_copy_200 : decode cX9_copy 200 = .ok (.iinc 7 1, 3) := by decide +kernel
theorem dX9_copy_203 : decode cX9_copy 203 = .ok (.goto (-60), 3) := by decide +kernel
theorem dX9_copy_206 : decode cX9_copy 206 = .ok (.iload 5, 2) := by decide +kernel
theorem dX9_copy_208 : decode cX9_copy 208 = .ok (.ireturn, 1) := by decide +kernel
theorem dX9_drop_0 : decode cX9_drop 0 = .ok (.aload_n 0, 1) := by decide +kernel
theorem dX9_drop_1 : decode cX9_drop 1 = .ok (.iconst 0, 1) := by decide +kernel
theorem dX9_drop_2 : decode cX9_drop 2 = .ok (.putfield 52, 3) := by decide +kernel
theorem dX9_drop_5 : decode cX9_drop 5 = .ok (.iload_n 1, 1) := by decide +kernel
theorem dX9_drop_6 : decode cX9_drop 6 = .ok (.invokestatic 66, 3) := by decide +kernel
theorem dX9_drop_9 : decode cX9_drop 9 = .ok (.ifCond .ne 6, 3) := by decide +kernel
theorem dX9_drop_12 : decode cX9_drop 12 = .ok (.ldc 72, 2) := by decide +kernel
theorem dX9_drop_14 : decode cX9_drop 14 = .ok (.ireturn, 1) := by decide +kernel
theorem dX9_drop_15 : decode cX9_drop 15 = .ok (.aload_n 0, 1) := by decide +kernel
theorem dX9_drop_16 : decode cX9_drop 16 = .ok (.iconst 0, 1) := by decide +kernel
theorem dX9_drop_17 : decode cX9_drop 17 = .ok (.putfield 56, 3) := by decide +kernel
theorem dX9_drop_20 : decode cX9_drop 20 = .ok (.aload_n 0, 1) := by decide +kernel
theorem dX9_drop_21 : decode cX9_drop 21 = .ok (.getfield 7, 3) := by decide +kernel
theorem dX9_drop_24 : decode cX9_drop 24 = .ok (.iload_n 1, 1) := by decide +kernel
theorem dX9_drop_25 : decode cX9_drop 25 = .ok (.iaload, 1) := by decide +kernel
theorem dX9_drop_26 : decode cX9_drop 26 = .ok (.ifCond .ge 9, 3) := by decide +kernel
theorem dX9_drop_29 : decode cX9_drop 29 = .ok (.aload_n 0, 1) := by decide +kernel
theorem dX9_drop_30 : decode cX9_drop 30 = .ok (.iconst 1, 1) := by decide +kernel
theorem dX9_drop_31 : decode cX9_drop 31 = .ok (.invokevirtual 73, 3) := by decide +kernel
theorem dX9_drop_34 : decode cX9_drop 34 = .ok (.ireturn, 1) := by decide +kernel
theorem dX9_drop_35 : decode cX9_drop 35 = .ok (.aload_n 0, 1) := by decide +kernel
theorem dX9_drop_36 : decode cX9_drop 36 = .ok (.getfield 7, 3) := by decide +kernel
theorem dX9_drop_39 : decode cX9_drop 39 = .ok (.iload_n 1, 1) := by decide +kernel
theorem dX9_drop_40 : decode cX9_drop 40 = .ok (.iconst (-1), 1) := by decide +kernel
theorem dX9_drop_41 : decode cX9_drop 41 = .ok (.iastore, 1) := by decide +kernel
theorem dX9_drop_42 : decode cX9_drop 42 = .ok (.aload_n 0, 1) := by decide +kernel
theorem dX9_drop_43 : decode cX9_drop 43 = .ok (.getfield 13, 3) := by decide +kernel
theorem dX9_drop_46 : decode cX9_drop 46 = .ok (.iload_n 1, 1) := by decide +kernel
theorem dX9_drop_47 : decode cX9_drop 47 = .ok (.iaload, 1) := by decide +kernel
theorem dX9_drop_48 : decode cX9_drop 48 = .ok (.ireturn, 1) := by decide +kernel
theorem dX9_isMark_0 : decode cX9_isMark 0 = .ok (.iload_n 1, 1) := by decide +kernel
theorem dX9_isMark_1 : decode cX9_isMark 1 = .ok (.i2l, 1) := by decide +kernel
theorem dX9_isMark_2 : decode cX9_isMark 2 = .ok (.lconst 0, 1) := by decide +kernel
theorem dX9_isMark_3 : decode cX9_isMark 3 = .ok (.aload_n 0, 1) := by decide +kernel
theorem dX9_isMark_4 : decode cX9_isMark 4 = .ok (.getfield 77, 3) := by decide +kernel
theorem dX9_isMark_7 : decode cX9_isMark 7 = .ok (.iconst 1, 1) := by decide +kernel
theorem dX9_isMark_8 : decode cX9_isMark 8 = .ok (.isub, 1) := by decide +kernel
theorem dX9_isMark_9 : decode cX9_isMark 9 = .ok (.i2l, 1) := by decide +kernel
theorem dX9_isMark_10 : decode cX9_isMark 10 = .ok (.invokestatic 62, 3) := by decide +kernel
theorem dX9_isMark_13 : decode cX9_isMark 13 = .ok (.ireturn, 1) := by decide +kernel
theorem dX9_isPlace_0 : decode cX9_isPlace 0 = .ok (.iload_n 0, 1) := by decide +kernel
theorem dX9_isPlace_1 : decode cX9_isPlace 1 = .ok (.i2l, 1) := by decide +kernel
theorem dX9_isPlace_2 : decode cX9_isPlace 2 = .ok (.lconst 0, 1) := by decide +kernel
theorem dX9_isPlace_3 : decode cX9_isPlace 3 = .ok (.ldc2_w 80, 3) := by decide +kernel
theorem dX9_isPlace_6 : decode cX9_isPlace 6 = .ok (.invokestatic 62, 3) := by decide +kernel
theorem dX9_isPlace_9 : decode cX9_isPlace 9 = .ok (.ifCond .eq 19, 3) := by decide +kernel
theorem dX9_isPlace_12 : decode cX9_isPlace 12 = .ok (.iload_n 1, 1) := by decide +kernel
theorem dX9_isPlace_13 : decode cX9_isPlace 13 = .ok (.i2l, 1) := by decide +kernel
theorem dX9_isPlace_14 : decode cX9_isPlace 14 = .ok (.lconst 0, 1) := by decide +kernel
theorem dX9_isPlace_15 : decode cX9_isPlace 15 = .ok (.ldc2_w 80, 3) := by decide +kernel
theorem dX9_isPlace_18 : decode cX9_isPlace 18 = .ok (.invokestatic 62, 3) := by decide +kernel
theorem dX9_isPlace_21 : decode cX9_isPlace 21 = .ok (.ifCond .eq 7, 3) := by decide +kernel
theorem dX9_isPlace_24 : decode cX9_isPlace 24 = .ok (.iconst 1, 1) := by decide +kernel
theorem dX9_isPlace_25 : decode cX9_isPlace 25 = .ok (.goto 4, 3) := by decide +kernel
theorem dX9_isPlace_28 : decode cX9_isPlace 28 = .ok (.iconst 0, 1) := by decide +kernel
theorem dX9_isPlace_29 : decode cX9_isPlace 29 = .ok (.ireturn, 1) := by decide +kernel
theorem dX9_isTick_0 : decode cX9_isTick 0 = .ok (.iload_n 1, 1) := by decide +kernel
theorem dX9_isTick_1 : decode cX9_isTick 1 = .ok (.i2l, 1) := by decide +kernel
theorem dX9_isTick_2 : decode cX9_isTick 2 = .ok (.lconst 1, 1) := by decide +kernel
theorem dX9_isTick_3 : decode cX9_isTick 3 = .ok (.ldc2_w 82, 3) := by decide +kernel
theorem dX9_isTick_6 : decode cX9_isTick 6 = .ok (.invokestatic 62, 3) := by decide +kernel
theorem dX9_isTick_9 : decode cX9_isTick 9 = .ok (.ifCond .eq 18, 3) := by decide +kernel
theorem dX9_isTick_12 : decode cX9_isTick 12 = .ok (.iload_n 0, 1) := by decide +kernel
theorem dX9_isTick_13 : decode cX9_isTick 13 = .ok (.i2l, 1) := by decide +kernel
theorem dX9_isTick_14 : decode cX9_isTick 14 = .ok (.lconst 0, 1) := by decide +kernel
theorem dX9_isTick_15 : decode cX9_isTick 15 = .ok (.iload_n 1, 1) := by decide +kernel
theorem dX9_isTick_16 : decode cX9_isTick 16 = .ok (.i2l, 1) := by decide +kernel
theorem dX9_isTick_17 : decode cX9_isTick 17 = .ok (.invokestatic 62, 3) := by decide +kernel
theorem dX9_isTick_20 : decode cX9_isTick 20 = .ok (.ifCond .eq 7, 3) := by decide +kernel
theorem dX9_isTick_23 : decode cX9_isTick 23 = .ok (.iconst 1, 1) := by decide +kernel
theorem dX9_isTick_24 : decode cX9_isTick 24 = .ok (.goto 4, 3) := by decide +kernel
theorem dX9_isTick_27 : decode cX9_isTick 27 = .ok (.iconst 0, 1) := by decide +kernel
theorem dX9_isTick_28 : decode cX9_isTick 28 = .ok (.ireturn, 1) := by decide +kernel
theorem dX9_mark_0 : decode cX9_mark 0 = .ok (.aload_n 0, 1) := by decide +kernel
theorem dX9_mark_1 : decode cX9_mark 1 = .ok (.iconst 0, 1) := by decide +kernel
theorem dX9_mark_2 : decode cX9_mark 2 = .ok (.putfield 52, 3) := by decide +kernel
theorem dX9_mark_5 : decode cX9_mark 5 = .ok (.iload_n 1, 1) := by decide +kernel
theorem dX9_mark_6 : decode cX9_mark 6 = .ok (.iload_n 2, 1) := by decide +kernel
theorem dX9_mark_7 : decode cX9_mark 7 = .ok (.invokestatic 84, 3) := by decide +kernel
theorem dX9_mark_10 : decode cX9_mark 10 = .ok (.ifCond .eq 12, 3) := by decide +kernel
theorem dX9_mark_13 : decode cX9_mark 13 = .ok (.iload_n 3, 1) := by decide +kernel
theorem dX9_mark_14 : decode cX9_mark 14 = .ok (.iload 4, 2) := by decide +kernel
theorem dX9_mark_16 : decode cX9_mark 16 = .ok (.invokestatic 84, 3) := by decide +kernel
theorem dX9_mark_19 : decode cX9_mark 19 = .ok (.ifCond .ne 6, 3) := by decide +kernel
theorem dX9_mark_22 : decode cX9_mark 22 = .ok (.ldc 72, 2) := by decide +kernel
theorem dX9_mark_24 : decode cX9_mark 24 = .ok (.ireturn, 1) := by decide +kernel
theorem dX9_mark_25 : decode cX9_mark 25 = .ok (.aload_n 0, 1) := by decide +kernel
theorem dX9_mark_26 : decode cX9_mark 26 = .ok (.getfield 77, 3) := by decide +kernel
theorem dX9_mark_29 : decode cX9_mark 29 = .ok (.bipush 16, 2) := by decide +kernel
theorem dX9_mark_31 : decode cX9_mark 31 = .ok (.if_icmp .ne 6, 3) := by decide +kernel
theorem dX9_mark_34 : decode cX9_mark 34 = .ok (.ldc 88, 2) := by decide +kernel
theorem dX9_mark_36 : decode cX9_mark 36 = .ok (.ireturn, 1) := by decide +kernel
theorem dX9_mark_37 : decode cX9_mark 37 = .ok (.aload_n 0, 1) := by decide +kernel
theorem dX9_mark_38 : decode cX9_mark 38 = .ok (.getfield 19, 3) := by decide +kernel
theorem dX9_mark_41 : decode cX9_mark 41 = .ok (.iconst 4, 1) := by decide +kernel
theorem dX9_mark_42 : decode cX9_mark 42 = .ok (.aload_n 0, 1) := by decide +kernel
theorem dX9_mark_43 : decode cX9_mark 43 = .ok (.getfield 77, 3) := by decide +kernel
theorem dX9_mark_46 : decode cX9_mark 46 = .ok (.imul, 1) := by decide +kernel
theorem dX9_mark_47 : decode cX9_mark 47 = .ok (.iload_n 1, 1) := by decide +kernel
theorem dX9_mark_48 : decode cX9_mark 48 = .ok (.iastore, 1) := by decide +kernel
theorem dX9_mark_49 : decode cX9_mark 49 = .ok (.aload_n 0, 1) := by decide +kernel
theorem dX9_mark_50 : decode cX9_mark 50 = .ok (.getfield 19, 3) := by decide +kernel
theorem dX9_mark_53 : decode cX9_mark 53 = .ok (.iconst 4, 1) := by decide +kernel
theorem dX9_mark_54 : decode cX9_mark 54 = .ok (.aload_n 0, 1) := by decide +kernel
theorem dX9_mark_55 : decode cX9_mark 55 = .ok (.getfield 77, 3) := by decide +kernel
theorem dX9_mark_58 : decode cX9_mark 58 = .ok (.imul, 1) := by decide +kernel
theorem dX9_mark_59 : decode cX9_mark 59 = .ok (.iconst 1, 1) := by decide +kernel
theorem dX9_mark_60 : decode cX9_mark 60 = .ok (.iadd, 1) := by decide +kernel
theorem dX9_mark_61 : decode cX9_mark 61 = .ok (.iload_n 2, 1) := by decide +kernel
theorem dX9_mark_62 : decode cX9_mark 62 = .ok (.iastore, 1) := by decide +kernel
theorem dX9_mark_63 : decode cX9_mark 63 = .ok (.aload_n 0, 1) := by decide +kernel
theorem dX9_mark_64 : decode cX9_mark 64 = .ok (.getfield 19, 3) := by decide +kernel
theorem dX9_mark_67 : decode cX9_mark 67 = .ok (.iconst 4, 1) := by decide +kernel
theorem dX9_mark_68 : decode cX9_mark 68 = .ok (.aload_n 0, 1) := by decide +kernel
theorem dX9_mark_69 : decode cX9_mark 69 = .ok (.getfield 77, 3) := by decide +kernel
theorem dX9_mark_72 : decode cX9_mark 72 = .ok (.imul, 1) := by decide +kernel
theorem dX9_mark_73 : decode cX9_mark 73 = .ok (.iconst 2, 1) := by decide +kernel
theorem dX9_mark_74 : decode cX9_mark 74 = .ok (.iadd, 1) := by decide +kernel
theorem dX9_mark_75 : decode cX9_mark 75 = .ok (.iload_n 3, 1) := by decide +kernel
theorem dX9_mark_76 : decode cX9_mark 76 = .ok (.iastore, 1) := by decide +kernel
theorem dX9_mark_77 : decode cX9_mark 77 = .ok (.aload_n 0, 1) := by decide +kernel
theorem dX9_mark_78 : decode cX9_mark 78 = .ok (.getfield 19, 3) := by decide +kernel
theorem dX9_mark_81 : decode cX9_mark 81 = .ok (.iconst 4, 1) := by decide +kernel
theorem dX9_mark_82 : decode cX9_mark 82 = .ok (.aload_n 0, 1) := by decide +kernel
theorem dX9_mark_83 : decode cX9_mark 83 = .ok (.getfield 77, 3) := by decide +kernel
theorem dX9_mark_86 : decode cX9_mark 86 = .ok (.imul, 1) := by decide +kernel
theorem dX9_mark_87 : decode cX9_mark 87 = .ok (.iconst 3, 1) := by decide +kernel
theorem dX9_mark_88 : decode cX9_mark 88 = .ok (.iadd, 1) := by decide +kernel
theorem dX9_mark_89 : decode cX9_mark 89 = .ok (.iload 4, 2) := by decide +kernel
theorem dX9_mark_91 : decode cX9_mark 91 = .ok (.iastore, 1) := by decide +kernel
theorem dX9_mark_92 : decode cX9_mark 92 = .ok (.aload_n 0, 1) := by decide +kernel
theorem dX9_mark_93 : decode cX9_mark 93 = .ok (.dup, 1) := by decide +kernel
theorem dX9_mark_94 : decode cX9_mark 94 = .ok (.getfield 77, 3) := by decide +kernel
theorem dX9_mark_97 : decode cX9_mark 97 = .ok (.iconst 1, 1) := by decide +kernel
theorem dX9_mark_98 : decode cX9_mark 98 = .ok (.iadd, 1) := by decide +kernel
theorem dX9_mark_99 : decode cX9_mark 99 = .ok (.putfield 77, 3) := by decide +kernel
theorem dX9_mark_102 : decode cX9_mark 102 = .ok (.aload_n 0, 1) := by decide +kernel
theorem dX9_mark_103 : decode cX9_mark 103 = .ok (.getfield 77, 3) := by decide +kernel
theorem dX9_mark_106 : decode cX9_mark 106 = .ok (.iconst 1, 1) := by decide +kernel
theorem dX9_mark_107 : decode cX9_mark 107 = .ok (.isub, 1) := by decide +kernel
theorem dX9_mark_108 : decode cX9_mark 108 = .ok (.ireturn, 1) := by decide +kernel
theorem dX9_move_0 : decode cX9_move 0 = .ok (.aload_n 0, 1) := by decide +kernel
theorem dX9_move_1 : decode cX9_move 1 = .ok (.iconst 0, 1) := by decide +kernel
theorem dX9_move_2 : decode cX9_move 2 = .ok (.putfield 52, 3) := by decide +kernel
theorem dX9_move_5 : decode cX9_move 5 = .ok (.aload_n 0, 1) := by decide +kernel
theorem dX9_move_6 : decode cX9_move 6 = .ok (.iload_n 1, 1) := by decide +kernel
theorem dX9_move_7 : decode cX9_move 7 = .ok (.invokevirtual 89, 3) := by decide +kernel
theorem dX9_move_10 : decode cX9_move 10 = .ok (.ifCond .eq 22, 3) := by decide +kernel
theorem dX9_move_13 : decode cX9_move 13 = .ok (.iload_n 2, 1) := by decide +kernel
theorem dX9_move_14 : decode cX9_move 14 = .ok (.i2l, 1) := by decide +kernel
theorem dX9_move_15 : decode cX9_move 15 = .ok (.lconst 0, 1) := by decide +kernel
theorem dX9_move_16 : decode cX9_move 16 = .ok (.lconst 1, 1) := by decide +kernel
theorem dX9_move_17 : decode cX9_move 17 = .ok (.invokestatic 62, 3) := by decide +kernel
theorem dX9_move_20 : decode cX9_move 20 = .ok (.ifCond .eq 12, 3) := by decide +kernel
theorem dX9_move_23 : decode cX9_move 23 = .ok (.iload_n 3, 1) := by decide +kernel
theorem dX9_move_24 : decode cX9_move 24 = .ok (.iload 4, 2) := by decide +kernel
theorem dX9_move_26 : decode cX9_move 26 = .ok (.invokestatic 84, 3) := by decide +kernel
theorem dX9_move_29 : decode cX9_move 29 = .ok (.ifCond .ne 6, 3) := by decide +kernel
theorem dX9_move_32 : decode cX9_move 32 = .ok (.ldc 72, 2) := by decide +kernel
theorem dX9_move_34 : decode cX9_move 34 = .ok (.ireturn, 1) := by decide +kernel
theorem dX9_move_35 : decode cX9_move 35 = .ok (.aload_n 0, 1) := by decide +kernel
theorem dX9_move_36 : decode cX9_move 36 = .ok (.getfield 19, 3) := by decide +kernel
theorem dX9_move_39 : decode cX9_move 39 = .ok (.iconst 4, 1) := by decide +kernel
theorem dX9_move_40 : decode cX9_move 40 = .ok (.iload_n 1, 1) := by decide +kernel
theorem dX9_move_41 : decode cX9_move 41 = .ok (.imul, 1) := by decide +kernel
theorem dX9_move_42 : decode cX9_move 42 = .ok (.iconst 2, 1) := by decide +kernel
theorem dX9_move_43 : decode cX9_move 43 = .ok (.iload_n 2, 1) := by decide +kernel
theorem dX9_move_44 : decode cX9_move 44 = .ok (.imul, 1) := by decide +kernel
theorem dX9_move_45 : decode cX9_move 45 = .ok (.iadd, 1) := by decide +kernel
theorem dX9_move_46 : decode cX9_move 46 = .ok (.iload_n 3, 1) := by decide +kernel
theorem dX9_move_47 : decode cX9_move 47 = .ok (.iastore, 1) := by decide +kernel
theorem dX9_move_48 : decode cX9_move 48 = .ok (.aload_n 0, 1) := by decide +kernel
theorem dX9_move_49 : decode cX9_move 49 = .ok (.getfield 19, 3) := by decide +kernel
theorem dX9_move_52 : decode cX9_move 52 = .ok (.iconst 4, 1) := by decide +kernel
theorem dX9_move_53 : decode cX9_move 53 = .ok (.iload_n 1, 1) := by decide +kernel
theorem dX9_move_54 : decode cX9_move 54 = .ok (.imul, 1) := by decide +kernel
theorem dX9_move_55 : decode cX9_move 55 = .ok (.iconst 2, 1) := by decide +kernel
theorem dX9_move_56 : decode cX9_move 56 = .ok (.iload_n 2, 1) := by decide +kernel
theorem dX9_move_57 : decode cX9_move 57 = .ok (.imul, 1) := by decide +kernel
theorem dX9_move_58 : decode cX9_move 58 = .ok (.iadd, 1) := by decide +kernel
theorem dX9_move_59 : decode cX9_move 59 = .ok (.iconst 1, 1) := by decide +kernel
theorem dX9_move_60 : decode cX9_move 60 = .ok (.iadd, 1) := by decide +kernel
theorem dX9_move_61 : decode cX9_move 61 = .ok (.iload 4, 2) := by decide +kernel
theorem dX9_move_63 : decode cX9_move 63 = .ok (.iastore, 1) := by decide +kernel
theorem dX9_move_64 : decode cX9_move 64 = .ok (.iconst 1, 1) := by decide +kernel
theorem dX9_move_65 : decode cX9_move 65 = .ok (.ireturn, 1) := by decide +kernel
theorem dX9_placeAt_0 : decode cX9_placeAt 0 = .ok (.iload_n 3, 1) := by decide +kernel
theorem dX9_placeAt_1 : decode cX9_placeAt 1 = .ok (.iload_n 2, 1) := by decide +kernel
theorem dX9_placeAt_2 : decode cX9_placeAt 2 = .ok (.isub, 1) := by decide +kernel
theorem dX9_placeAt_3 : decode cX9_placeAt 3 = .ok (.aload_n 0, 1) := by decide +kernel
theorem dX9_placeAt_4 : decode cX9_placeAt 4 = .ok (.getfield 19, 3) := by decide +kernel
theorem dX9_placeAt_7 : decode cX9_placeAt 7 = .ok (.iconst 4, 1) := by decide +kernel
theorem dX9_placeAt_8 : decode cX9_placeAt 8 = .ok (.iload_n 1, 1) := by decide +kernel
theorem dX9_placeAt_9 : decode cX9_placeAt 9 = .ok (.imul, 1) := by decide +kernel
theorem dX9_placeAt_10 : decode cX9_placeAt 10 = .ok (.iload 4, 2) := by decide +kernel
theorem dX9_placeAt_12 : decode cX9_placeAt 12 = .ok (.iadd, 1) := by decide +kernel
theorem dX9_placeAt_13 : decode cX9_placeAt 13 = .ok (.iaload, 1) := by decide +kernel
theorem dX9_placeAt_14 : decode cX9_placeAt 14 = .ok (.imul, 1) := by decide +kernel
theorem dX9_placeAt_15 : decode cX9_placeAt 15 = .ok (.iload_n 2, 1) := by decide +kernel
theorem dX9_placeAt_16 : decode cX9_placeAt 16 = .ok (.aload_n 0, 1) := by decide +kernel
theorem dX9_placeAt_17 : decode cX9_placeAt 17 = .ok (.getfield 19, 3) := by decide +kernel
theorem dX9_placeAt_20 : decode cX9_placeAt 20 = .ok (.iconst 4, 1) := by decide +kernel
theorem dX9_placeAt_21 : decode cX9_placeAt 21 = .ok (.iload_n 1, 1) := by decide +kernel
theorem dX9_placeAt_22 : decode cX9_placeAt 22 = .ok (.imul, 1) := by decide +kernel
theorem dX9_placeAt_23 : decode cX9_placeAt 23 = .ok (.iconst 2, 1) := by decide +kernel
theorem dX9_placeAt_24 : decode cX9_placeAt 24 = .ok (.iadd, 1) := by decide +kernel
theorem dX9_placeAt_25 : decode cX9_placeAt 25 = .ok (.iload 4, 2) := by decide +kernel
theorem dX9_placeAt_27 : decode cX9_placeAt 27 = .ok (.iadd, 1) := by decide +kernel
theorem dX9_placeAt_28 : decode cX9_placeAt 28 = .ok (.iaload, 1) := by decide +kernel
theorem dX9_placeAt_29 : decode cX9_placeAt 29 = .ok (.imul, 1) := by decide +kernel
theorem dX9_placeAt_30 : decode cX9_placeAt 30 = .ok (.iadd, 1) := by decide +kernel
theorem dX9_placeAt_31 : decode cX9_placeAt 31 = .ok (.ireturn, 1) := by decide +kernel
theorem dX9_at_0 : decode cX9_at 0 = .ok (.aload_n 0, 1) := by decide +kernel
theorem dX9_at_1 : decode cX9_at 1 = .ok (.iconst 0, 1) := by decide +kernel
theorem dX9_at_2 : decode cX9_at 2 = .ok (.putfield 52, 3) := by decide +kernel
theorem dX9_at_5 : decode cX9_at 5 = .ok (.aload_n 0, 1) := by decide +kernel
theorem dX9_at_6 : decode cX9_at 6 = .ok (.iload_n 1, 1) := by decide +kernel
theorem dX9_at_7 : decode cX9_at 7 = .ok (.invokevirtual 89, 3) := by decide +kernel
theorem dX9_at_10 : decode cX9_at 10 = .ok (.ifCond .eq 22, 3) := by decide +kernel
theorem dX9_at_13 : decode cX9_at 13 = .ok (.iload_n 2, 1) := by decide +kernel
theorem dX9_at_14 : decode cX9_at 14 = .ok (.iload_n 3, 1) := by decide +kernel
theorem dX9_at_15 : decode cX9_at 15 = .ok (.invokestatic 92, 3) := by decide +kernel
theorem dX9_at_18 : decode cX9_at 18 = .ok (.ifCond .eq 14, 3) := by decide +kernel
theorem dX9_at_21 : decode cX9_at 21 = .ok (.iload 4, 2) := by decide +kernel
theorem dX9_at_23 : decode cX9_at 23 = .ok (.i2l, 1) := by decide +kernel
theorem dX9_at_24 : decode cX9_at 24 = .ok (.lconst 0, 1) := by decide +kernel
theorem dX9_at_25 : decode cX9_at 25 = .ok (.lconst 1, 1) := by decide +kernel
theorem dX9_at_26 : decode cX9_at 26 = .ok (.invokestatic 62, 3) := by decide +kernel
theorem dX9_at_29 : decode cX9_at 29 = .ok (.ifCond .ne 8, 3) := by decide +kernel
theorem dX9_at_32 : decode cX9_at 32 = .ok (.ldc 72, 2) := by decide +kernel
theorem dX9_at_34 : decode cX9_at 34 = .ok (.goto 12, 3) := by decide +kernel
theorem dX9_at_37 : decode cX9_at 37 = .ok (.aload_n 0, 1) := by decide +kernel
theorem dX9_at_38 : decode cX9_at 38 = .ok (.iload_n 1, 1) := by decide +kernel
theorem dX9_at_39 : decode cX9_at 39 = .ok (.iload_n 2, 1) := by decide +kernel
theorem dX9_at_40 : decode cX9_at 40 = .ok (.iload_n 3, 1) := by decide +kernel
theorem dX9_at_41 : decode cX9_at 41 = .ok (.iload 4, 2) := by decide +kernel
theorem dX9_at_43 : decode cX9_at 43 = .ok (.invokevirtual 95, 3) := by decide +kernel
theorem dX9_at_46 : decode cX9_at 46 = .ok (.ireturn, 1) := by decide +kernel
theorem dX9_third_0 : decode cX9_third 0 = .ok (.aload_n 0, 1) := by decide +kernel
theorem dX9_third_1 : decode cX9_third 1 = .ok (.iconst 0, 1) := by decide +kernel
theorem dX9_third_2 : decode cX9_third 2 = .ok (.putfield 52, 3) := by decide +kernel
theorem dX9_third_5 : decode cX9_third 5 = .ok (.aload_n 0, 1) := by decide +kernel
theorem dX9_third_6 : decode cX9_third 6 = .ok (.iload_n 1, 1) := by decide +kernel
theorem dX9_third_7 : decode cX9_third 7 = .ok (.invokevirtual 89, 3) := by decide +kernel
theorem dX9_third_10 : decode cX9_third 10 = .ok (.ifCond .eq 34, 3) := by decide +kernel
theorem dX9_third_13 : decode cX9_third 13 = .ok (.aload_n 0, 1) := by decide +kernel
theorem dX9_third_14 : decode cX9_third 14 = .ok (.iload_n 2, 1) := by decide +kernel
theorem dX9_third_15 : decode cX9_third 15 = .ok (.invokevirtual 89, 3) := by decide +kernel
theorem dX9_third_18 : decode cX9_third 18 = .ok (.ifCond .eq 26, 3) := by decide +kernel
theorem dX9_third_21 : decode cX9_third 21 = .ok (.aload_n 0, 1) := by decide +kernel
theorem dX9_third_22 : decode cX9_third 22 = .ok (.iload_n 3, 1) := by decide +kernel
theorem dX9_third_23 : decode cX9_third 23 = .ok (.invokevirtual 89, 3) := by decide +kernel
theorem dX9_third_26 : decode cX9_third 26 = .ok (.ifCond .eq 18, 3) := by decide +kernel
theorem dX9_third_29 : decode cX9_third 29 = .ok (.iload_n 1, 1) := by decide +kernel
theorem dX9_third_30 : decode cX9_third 30 = .ok (.iload_n 2, 1) := by decide +kernel
theorem dX9_third_31 : decode cX9_third 31 = .ok (.if_icmp .eq 13, 3) := by decide +kernel
theorem dX9_third_34 : decode cX9_third 34 = .ok (.iload_n 1, 1) := by decide +kernel
theorem dX9_third_35 : decode cX9_third 35 = .ok (.iload_n 3, 1) := by decide +kernel
theorem dX9_third_36 : decode cX9_third 36 = .ok (.if_icmp .eq 8, 3) := by decide +kernel
theorem dX9_third_39 : decode cX9_third 39 = .ok (.iload_n 2, 1) := by decide +kernel
theorem dX9_third_40 : decode cX9_third 40 = .ok (.iload_n 3, 1) := by decide +kernel
theorem dX9_third_41 : decode cX9_third 41 = .ok (.if_icmp .ne 6, 3) := by decide +kernel
theorem dX9_third_44 : decode cX9_third 44 = .ok (.ldc 72, 2) := by decide +kernel
theorem dX9_third_46 : decode cX9_third 46 = .ok (.ireturn, 1) := by decide +kernel
theorem dX9_third_47 : decode cX9_third 47 = .ok (.iconst 1, 1) := by decide +kernel
theorem dX9_third_48 : decode cX9_third 48 = .ok (.iload_n 1, 1) := by decide +kernel
theorem dX9_third_49 : decode cX9_third 49 = .ok (.ishl, 1) := by decide +kernel
theorem dX9_third_50 : decode cX9_third 50 = .ok (.iconst 1, 1) := by decide +kernel
theorem dX9_third_51 : decode cX9_third 51 = .ok (.iload_n 2, 1) := by decide +kernel
theorem dX9_third_52 : decode cX9_third 52 = .ok (.ishl, 1) := by decide +kernel
theorem dX9_third_53 : decode cX9_third 53 = .ok (.ior, 1) := by decide +kernel
theorem dX9_third_54 : decode cX9_third 54 = .ok (.iconst 1, 1) := by decide +kernel
theorem dX9_third_55 : decode cX9_third 55 = .ok (.iload_n 3, 1) := by decide +kernel
theorem dX9_third_56 : decode cX9_third 56 = .ok (.ishl, 1) := by decide +kernel
theorem dX9_third_57 : decode cX9_third 57 = .ok (.ior, 1) := by decide +kernel
theorem dX9_third_58 : decode cX9_third 58 = .ok (.istore 4, 2) := by decide +kernel
theorem dX9_third_60 : decode cX9_third 60 = .ok (.iconst 0, 1) := by decide +kernel
theorem dX9_third_61 : decode cX9_third 61 = .ok (.istore 5, 2) := by decide +kernel
theorem dX9_third_63 : decode cX9_third 63 = .ok (.iload 5, 2) := by decide +kernel
theorem dX9_third_65 : decode cX9_third 65 = .ok (.aload_n 0, 1) := by decide +kernel
theorem dX9_third_66 : decode cX9_third 66 = .ok (.getfield 99, 3) := by decide +kernel
theorem dX9_third_69 : decode cX9_third 69 = .ok (.if_icmp .ge 56, 3) := by decide +kernel
theorem dX9_third_72 : decode cX9_third 72 = .ok (.iconst 1, 1) := by decide +kernel
theorem dX9_third_73 : decode cX9_third 73 = .ok (.aload_n 0, 1) := by decide +kernel
theorem dX9_third_74 : decode cX9_third 74 = .ok (.getfield 22, 3) := by decide +kernel
theorem dX9_third_77 : decode cX9_third 77 = .ok (.iconst 3, 1) := by decide +kernel
theorem dX9_third_78 : decode cX9_third 78 = .ok (.iload 5, 2) := by decide +kernel
theorem dX9_third_80 : decode cX9_third 80 = .ok (.imul, 1) := by decide +kernel
theorem dX9_third_81 : decode cX9_third 81 = .ok (.iaload, 1) := by decide +kernel
theorem dX9_third_82 : decode cX9_third 82 = .ok (.ishl, 1) := by decide +kernel
theorem dX9_third_83 : decode cX9_third 83 = .ok (.iconst 1, 1) := by decide +kernel
theorem dX9_third_84 : decode cX9_third 84 = .ok (.aload_n 0, 1) := by decide +kernel
theorem dX9_third_85 : decode cX9_third 85 = .ok (.getfield 22, 3) := by decide +kernel
theorem dX9_third_88 : decode cX9_third 88 = .ok (.iconst 3, 1) := by decide +kernel
theorem dX9_third_89 : decode cX9_third 89 = .ok (.iload 5, 2) := by decide +kernel
theorem dX9_third_91 : decode cX9_third 91 = .ok (.imul, 1) := by decide +kernel
theorem dX9_third_92 : decode cX9_third 92 = .ok (.iconst 1, 1) := by decide +kernel
theorem dX9_third_93 : decode cX9_third 93 = .ok (.iadd, 1) := by decide +kernel
theorem dX9_third_94 : decode cX9_third 94 = .ok (.iaload, 1) := by decide +kernel
theorem dX9_third_95 : decode cX9_third 95 = .ok (.ishl, 1) := by decide +kernel
theorem dX9_third_96 : decode cX9_third 96 = .ok (.ior, 1) := by decide +kernel
theorem dX9_third_97 : decode cX9_third 97 = .ok (.iconst 1, 1) := by decide +kernel
theorem dX9_third_98 : decode cX9_third 98 = .ok (.aload_n 0, 1) := by decide +kernel
theorem dX9_third_99 : decode cX9_third 99 = .ok (.getfield 22, 3) := by decide +kernel
theorem dX9_third_102 : decode cX9_third 102 = .ok (.iconst 3, 1) := by decide +kernel
theorem dX9_third_103 : decode cX9_third 103 = .ok (.iload 5, 2) := by decide +kernel
theorem dX9_third_105 : decode cX9_third 105 = .ok (.imul, 1) := by decide +kernel
theorem dX9_third_106 : decode cX9_third 106 = .ok (.iconst 2, 1) := by decide +kernel
theorem dX9_third_107 : decode cX9_third 107 = .ok (.iadd, 1) := by decide +kernel
theorem dX9_third_108 : decode cX9_third 108 = .ok (.iaload, 1) := by decide +kernel
theorem dX9_third_109 : decode cX9_third 109 = .ok (.ishl, 1) := by decide +kernel
theorem dX9_third_110 : decode cX9_third 110 = .ok (.ior, 1) := by decide +kernel
theorem dX9_third_111 : decode cX9_third 111 = .ok (.iload 4, 2) := by decide +kernel
theorem dX9_third_113 : decode cX9_third 113 = .ok (.if_icmp .ne 6, 3) := by decide +kernel
theorem dX9_third_116 : decode cX9_third 116 = .ok (.ldc 102, 2) := by decide +kernel
theorem dX9_third_118 : decode cX9_third 118 = .ok (.ireturn, 1) := by decide +kernel
theorem dX9_third_119 : decode cX9_third 119 = .ok (.iinc 5 1, 3) := by decide +kernel
theorem dX9_third_122 : decode cX9_third 122 = .ok (.goto (-59), 3) := by decide +kernel
theorem dX9_third_125 : decode cX9_third 125 = .ok (.aload_n 0, 1) := by decide +kernel
theorem dX9_third_126 : decode cX9_third 126 = .ok (.getfield 99, 3) := by decide +kernel
theorem dX9_third_129 : decode cX9_third 129 = .ok (.bipush 24, 2) := by decide +kernel
theorem dX9_third_131 : decode cX9_third 131 = .ok (.if_icmp .ne 6, 3) := by decide +kernel
theorem dX9_third_134 : decode cX9_third 134 = .ok (.ldc 88, 2) := by decide +kernel
theorem dX9_third_136 : decode cX9_third 136 = .ok (.ireturn, 1) := by decide +kernel
theorem dX9_third_137 : decode cX9_third 137 = .ok (.aload_n 0, 1) := by decide +kernel
theorem dX9_third_138 : decode cX9_third 138 = .ok (.getfield 22, 3) := by decide +kernel
theorem dX9_third_141 : decode cX9_third 141 = .ok (.iconst 3, 1) := by decide +kernel
theorem dX9_third_142 : decode cX9_third 142 = .ok (.aload_n 0, 1) := by decide +kernel
theorem dX9_third_143 : decode cX9_third 143 = .ok (.getfield 99, 3) := by decide +kernel
theorem dX9_third_146 : decode cX9_third 146 = .ok (.imul, 1) := by decide +kernel
theorem dX9_third_147 : decode cX9_third 147 = .ok (.iload_n 1, 1) := by decide +kernel
theorem dX9_third_148 : decode cX9_third 148 = .ok (.iastore, 1) := by decide +kernel
theorem dX9_third_149 : decode cX9_third 149 = .ok (.aload_n 0, 1) := by decide +kernel
theorem dX9_third_150 : decode cX9_third 150 = .ok (.getfield 22, 3) := by decide +kernel
theorem dX9_third_153 : decode cX9_third 153 = .ok (.iconst 3, 1) := by decide +kernel
theorem dX9_third_154 : decode cX9_third 154 = .ok (.aload_n 0, 1) := by decide +kernel
theorem dX9_third_155 : decode cX9_third 155 = .ok (.getfield 99, 3) := by decide +kernel
theorem dX9_third_158 : decode cX9_third 158 = .ok (.imul, 1) := by decide +kernel
theorem dX9_third_159 : decode cX9_third 159 = .ok (.iconst 1, 1) := by decide +kernel
theorem dX9_third_160 : decode cX9_third 160 = .ok (.iadd, 1) := by decide +kernel
theorem dX9_third_161 : decode cX9_third 161 = .ok (.iload_n 2, 1) := by decide +kernel
theorem dX9_third_162 : decode cX9_third 162 = .ok (.iastore, 1) := by decide +kernel
theorem dX9_third_163 : decode cX9_third 163 = .ok (.aload_n 0, 1) := by decide +kernel
theorem dX9_third_164 : decode cX9_third 164 = .ok (.getfield 22, 3) := by decide +kernel
theorem dX9_third_167 : decode cX9_third 167 = .ok (.iconst 3, 1) := by decide +kernel
theorem dX9_third_168 : decode cX9_third 168 = .ok (.aload_n 0, 1) := by decide +kernel
theorem dX9_third_169 : decode cX9_third 169 = .ok (.getfield 99, 3) := by decide +kernel
theorem dX9_third_172 : decode cX9_third 172 = .ok (.imul, 1) := by decide +kernel
theorem dX9_third_173 : decode cX9_third 173 = .ok (.iconst 2, 1) := by decide +kernel
theorem dX9_third_174 : decode cX9_third 174 = .ok (.iadd, 1) := by decide +kernel
theorem dX9_third_175 : decode cX9_third 175 = .ok (.iload_n 3, 1) := by decide +kernel
theorem dX9_third_176 : decode cX9_third 176 = .ok (.iastore, 1) := by decide +kernel
theorem dX9_third_177 : decode cX9_third 177 = .ok (.aload_n 0, 1) := by decide +kernel
theorem dX9_third_178 : decode cX9_third 178 = .ok (.dup, 1) := by decide +kernel
theorem dX9_third_179 : decode cX9_third 179 = .ok (.getfield 99, 3) := by decide +kernel
theorem dX9_third_182 : decode cX9_third 182 = .ok (.iconst 1, 1) := by decide +kernel
theorem dX9_third_183 : decode cX9_third 183 = .ok (.iadd, 1) := by decide +kernel
theorem dX9_third_184 : decode cX9_third 184 = .ok (.putfield 99, 3) := by decide +kernel
theorem dX9_third_187 : decode cX9_third 187 = .ok (.aload_n 0, 1) := by decide +kernel
theorem dX9_third_188 : decode cX9_third 188 = .ok (.getfield 99, 3) := by decide +kernel
theorem dX9_third_191 : decode cX9_third 191 = .ok (.iconst 1, 1) := by decide +kernel
theorem dX9_third_192 : decode cX9_third 192 = .ok (.isub, 1) := by decide +kernel
theorem dX9_third_193 : decode cX9_third 193 = .ok (.ireturn, 1) := by decide +kernel
theorem dX9_isThird_0 : decode cX9_isThird 0 = .ok (.iload_n 1, 1) := by decide +kernel
theorem dX9_isThird_1 : decode cX9_isThird 1 = .ok (.i2l, 1) := by decide +kernel
theorem dX9_isThird_2 : decode cX9_isThird 2 = .ok (.lconst 0, 1) := by decide +kernel
theorem dX9_isThird_3 : decode cX9_isThird 3 = .ok (.aload_n 0, 1) := by decide +kernel
theorem dX9_isThird_4 : decode cX9_isThird 4 = .ok (.getfield 99, 3) := by decide +kernel
theorem dX9_isThird_7 : decode cX9_isThird 7 = .ok (.iconst 1, 1) := by decide +kernel
theorem dX9_isThird_8 : decode cX9_isThird 8 = .ok (.isub, 1) := by decide +kernel
theorem dX9_isThird_9 : decode cX9_isThird 9 = .ok (.i2l, 1) := by decide +kernel
theorem dX9_isThird_10 : decode cX9_isThird 10 = .ok (.invokestatic 62, 3) := by decide +kernel
theorem dX9_isThird_13 : decode cX9_isThird 13 = .ok (.ireturn, 1) := by decide +kernel
theorem dX9_area_0 : decode cX9_area 0 = .ok (.lload 4, 2) := by decide +kernel
theorem dX9_area_2 : decode cX9_area 2 = .ok (.lload_n 0, 1) := by decide +kernel
theorem dX9_area_3 : decode cX9_area 3 = .ok (.lsub, 1) := by decide +kernel
theorem dX9_area_4 : decode cX9_area 4 = .ok (.lload 10, 2) := by decide +kernel
theorem dX9_area_6 : decode cX9_area 6 = .ok (.lload_n 2, 1) := by decide +kernel
theorem dX9_area_7 : decode cX9_area 7 = .ok (.lsub, 1) := by decide +kernel
theorem dX9_area_8 : decode cX9_area 8 = .ok (.lmul, 1) := by decide +kernel
theorem dX9_area_9 : decode cX9_area 9 = .ok (.lload 6, 2) := by decide +kernel
theorem dX9_area_11 : decode cX9_area 11 = .ok (.lload_n 2, 1) := by decide +kernel
theorem dX9_area_12 : decode cX9_area 12 = .ok (.lsub, 1) := by decide +kernel
theorem dX9_area_13 : decode cX9_area 13 = .ok (.lload 8, 2) := by decide +kernel
theorem dX9_area_15 : decode cX9_area 15 = .ok (.lload_n 0, 1) := by decide +kernel
theorem dX9_area_16 : decode cX9_area 16 = .ok (.lsub, 1) := by decide +kernel
theorem dX9_area_17 : decode cX9_area 17 = .ok (.lmul, 1) := by decide +kernel
theorem dX9_area_18 : decode cX9_area 18 = .ok (.lsub, 1) := by decide +kernel
theorem dX9_area_19 : decode cX9_area 19 = .ok (.lreturn, 1) := by decide +kernel
theorem dX9_areaAt_0 : decode cX9_areaAt 0 = .ok (.aload_n 0, 1) := by decide +kernel
theorem dX9_areaAt_1 : decode cX9_areaAt 1 = .ok (.getfield 22, 3) := by decide +kernel
theorem dX9_areaAt_4 : decode cX9_areaAt 4 = .ok (.iconst 3, 1) := by decide +kernel
theorem dX9_areaAt_5 : decode cX9_areaAt 5 = .ok (.iload_n 1, 1) := by decide +kernel
theorem dX9_areaAt_6 : decode cX9_areaAt 6 = .ok (.imul, 1) := by decide +kernel
theorem dX9_areaAt_7 : decode cX9_areaAt 7 = .ok (.iaload, 1) := by decide +kernel
theorem dX9_areaAt_8 : decode cX9_areaAt 8 = .ok (.istore 4, 2) := by decide +kernel
theorem dX9_areaAt_10 : decode cX9_areaAt 10 = .ok (.aload_n 0, 1) := by decide +kernel
theorem dX9_areaAt_11 : decode cX9_areaAt 11 = .ok (.getfield 22, 3) := by decide +kernel
theorem dX9_areaAt_14 : decode cX9_areaAt 14 = .ok (.iconst 3, 1) := by decide +kernel
theorem dX9_areaAt_15 : decode cX9_areaAt 15 = .ok (.iload_n 1, 1) := by decide +kernel
theorem dX9_areaAt_16 : decode cX9_areaAt 16 = .ok (.imul, 1) := by decide +kernel
theorem dX9_areaAt_17 : decode cX9_areaAt 17 = .ok (.iconst 1, 1) := by decide +kernel
theorem dX9_areaAt_18 : decode cX9_areaAt 18 = .ok (.iadd, 1) := by decide +kernel
theorem dX9_areaAt_19 : decode cX9_areaAt 19 = .ok (.iaload, 1) := by decide +kernel
theorem dX9_areaAt_20 : decode cX9_areaAt 20 = .ok (.istore 5, 2) := by decide +kernel
theorem dX9_areaAt_22 : decode cX9_areaAt 22 = .ok (.aload_n 0, 1) := by decide +kernel
theorem dX9_areaAt_23 : decode cX9_areaAt 23 = .ok (.getfield 22, 3) := by decide +kernel
theorem dX9_areaAt_26 : decode cX9_areaAt 26 = .ok (.iconst 3, 1) := by decide +kernel
theorem dX9_areaAt_27 : decode cX9_areaAt 27 = .ok (.iload_n 1, 1) := by decide +kernel
theorem dX9_areaAt_28 : decode cX9_areaAt 28 = .ok (.imul, 1) := by decide +kernel
theorem dX9_areaAt_29 : decode cX9_areaAt 29 = .ok (.iconst 2, 1) := by decide +kernel
theorem dX9_areaAt_30 : decode cX9_areaAt 30 = .ok (.iadd, 1) := by decide +kernel
theorem dX9_areaAt_31 : decode cX9_areaAt 31 = .ok (.iaload, 1) := by decide +kernel
theorem dX9_areaAt_32 : decode cX9_areaAt 32 = .ok (.istore 6, 2) := by decide +kernel
theorem dX9_areaAt_34 : decode cX9_areaAt 34 = .ok (.aload_n 0, 1) := by decide +kernel
theorem dX9_areaAt_35 : decode cX9_areaAt 35 = .ok (.iload 4, 2) := by decide +kernel
theorem dX9_areaAt_37 : decode cX9_areaAt 37 = .ok (.iload_n 2, 1) := by decide +kernel
theorem dX9_areaAt_38 : decode cX9_areaAt 38 = .ok (.iload_n 3, 1) := by decide +kernel
theorem dX9_areaAt_39 : decode cX9_areaAt 39 = .ok (.iconst 0, 1) := by decide +kernel
theorem dX9_areaAt_40 : decode cX9_areaAt 40 = .ok (.invokevirtual 95, 3) := by decide +kernel
theorem dX9_areaAt_43 : decode cX9_areaAt 43 = .ok (.i2l, 1) := by decide +kernel
theorem dX9_areaAt_44 : decode cX9_areaAt 44 = .ok (.aload_n 0, 1) := by decide +kernel
theorem dX9_areaAt_45 : decode cX9_areaAt 45 = .ok (.iload 4, 2) := by decide +kernel
theorem dX9_areaAt_47 : decode cX9_areaAt 47 = .ok (.iload_n 2, 1) := by decide +kernel
theorem dX9_areaAt_48 : decode cX9_areaAt 48 = .ok (.iload_n 3, 1) := by decide +kernel
theorem dX9_areaAt_49 : decode cX9_areaAt 49 = .ok (.iconst 1, 1) := by decide +kernel
theorem dX9_areaAt_50 : decode cX9_areaAt 50 = .ok (.invokevirtual 95, 3) := by decide +kernel
theorem dX9_areaAt_53 : decode cX9_areaAt 53 = .ok (.i2l, 1) := by decide +kernel
theorem dX9_areaAt_54 : decode cX9_areaAt 54 = .ok (.aload_n 0, 1) := by decide +kernel
theorem dX9_areaAt_55 : decode cX9_areaAt 55 = .ok (.iload 5, 2) := by decide +kernel
theorem dX9_areaAt_57 : decode cX9_areaAt 57 = .ok (.iload_n 2, 1) := by decide +kernel
theorem dX9_areaAt_58 : decode cX9_areaAt 58 = .ok (.iload_n 3, 1) := by decide +kernel
theorem dX9_areaAt_59 : decode cX9_areaAt 59 = .ok (.iconst 0, 1) := by decide +kernel
theorem dX9_areaAt_60 : decode cX9_areaAt 60 = .ok (.invokevirtual 95, 3) := by decide +kernel
theorem dX9_areaAt_63 : decode cX9_areaAt 63 = .ok (.i2l, 1) := by decide +kernel
theorem dX9_areaAt_64 : decode cX9_areaAt 64 = .ok (.aload_n 0, 1) := by decide +kernel
theorem dX9_areaAt_65 : decode cX9_areaAt 65 = .ok (.iload 5, 2) := by decide +kernel
theorem dX9_areaAt_67 : decode cX9_areaAt 67 = .ok (.iload_n 2, 1) := by decide +kernel
theorem dX9_areaAt_68 : decode cX9_areaAt 68 = .ok (.iload_n 3, 1) := by decide +kernel
theorem dX9_areaAt_69 : decode cX9_areaAt 69 = .ok (.iconst 1, 1) := by decide +kernel
theorem dX9_areaAt_70 : decode cX9_areaAt 70 = .ok (.invokevirtual 95, 3) := by decide +kernel
theorem dX9_areaAt_73 : decode cX9_areaAt 73 = .ok (.i2l, 1) := by decide +kernel
theorem dX9_areaAt_74 : decode cX9_areaAt 74 = .ok (.aload_n 0, 1) := by decide +kernel
theorem dX9_areaAt_75 : decode cX9_areaAt 75 = .ok (.iload 6, 2) := by decide +kernel
theorem dX9_areaAt_77 : decode cX9_areaAt 77 = .ok (.iload_n 2, 1) := by decide +kernel
theorem dX9_areaAt_78 : decode cX9_areaAt 78 = .ok (.iload_n 3, 1) := by decide +kernel
theorem dX9_areaAt_79 : decode cX9_areaAt 79 = .ok (.iconst 0, 1) := by decide +kernel
theorem dX9_areaAt_80 : decode cX9_areaAt 80 = .ok (.invokevirtual 95, 3) := by decide +kernel
theorem dX9_areaAt_83 : decode cX9_areaAt 83 = .ok (.i2l, 1) := by decide +kernel
theorem dX9_areaAt_84 : decode cX9_areaAt 84 = .ok (.aload_n 0, 1) := by decide +kernel
theorem dX9_areaAt_85 : decode cX9_areaAt 85 = .ok (.iload 6, 2) := by decide +kernel
theorem dX9_areaAt_87 : decode cX9_areaAt 87 = .ok (.iload_n 2, 1) := by decide +kernel
theorem dX9_areaAt_88 : decode cX9_areaAt 88 = .ok (.iload_n 3, 1) := by decide +kernel
theorem dX9_areaAt_89 : decode cX9_areaAt 89 = .ok (.iconst 1, 1) := by decide +kernel
theorem dX9_areaAt_90 : decode cX9_areaAt 90 = .ok (.invokevirtual 95, 3) := by decide +kernel
theorem dX9_areaAt_93 : decode cX9_areaAt 93 = .ok (.i2l, 1) := by decide +kernel
theorem dX9_areaAt_94 : decode cX9_areaAt 94 = .ok (.invokestatic 103, 3) := by decide +kernel
theorem dX9_areaAt_97 : decode cX9_areaAt 97 = .ok (.lreturn, 1) := by decide +kernel
theorem dX9_told_0 : decode cX9_told 0 = .ok (.aload_n 0, 1) := by decide +kernel
theorem dX9_told_1 : decode cX9_told 1 = .ok (.iconst 0, 1) := by decide +kernel
theorem dX9_told_2 : decode cX9_told 2 = .ok (.putfield 52, 3) := by decide +kernel
theorem dX9_told_5 : decode cX9_told 5 = .ok (.aload_n 0, 1) := by decide +kernel
theorem dX9_told_6 : decode cX9_told 6 = .ok (.iload_n 1, 1) := by decide +kernel
theorem dX9_told_7 : decode cX9_told 7 = .ok (.invokevirtual 107, 3) := by decide +kernel
theorem dX9_told_10 : decode cX9_told 10 = .ok (.ifCond .eq 15, 3) := by decide +kernel
theorem dX9_told_13 : decode cX9_told 13 = .ok (.iload_n 2, 1) := by decide +kernel
theorem dX9_told_14 : decode cX9_told 14 = .ok (.i2l, 1) := by decide +kernel
theorem dX9_told_15 : decode cX9_told 15 = .ok (.lconst 0, 1) := by decide +kernel
theorem dX9_told_16 : decode cX9_told 16 = .ok (.ldc2_w 110, 3) := by decide +kernel
theorem dX9_told_19 : decode cX9_told 19 = .ok (.invokestatic 62, 3) := by decide +kernel
theorem dX9_told_22 : decode cX9_told 22 = .ok (.ifCond .ne 6, 3) := by decide +kernel
theorem dX9_told_25 : decode cX9_told 25 = .ok (.ldc 72, 2) := by decide +kernel
theorem dX9_told_27 : decode cX9_told 27 = .ok (.ireturn, 1) := by decide +kernel
theorem dX9_told_28 : decode cX9_told 28 = .ok (.iload_n 2, 1) := by decide +kernel
theorem dX9_told_29 : decode cX9_told 29 = .ok (.iconst 3, 1) := by decide +kernel
theorem dX9_told_30 : decode cX9_told 30 = .ok (.if_icmp .ge 16, 3) := by decide +kernel
theorem dX9_told_33 : decode cX9_told 33 = .ok (.aload_n 0, 1) := by decide +kernel
theorem dX9_told_34 : decode cX9_told 34 = .ok (.getfield 22, 3) := by decide +kernel
theorem dX9_told_37 : decode cX9_told 37 = .ok (.iconst 3, 1) := by decide +kernel
theorem dX9_told_38 : decode cX9_told 38 = .ok (.iload_n 1, 1) := by decide +kernel
theorem dX9_told_39 : decode cX9_told 39 = .ok (.imul, 1) := by decide +kernel
theorem dX9_told_40 : decode cX9_told 40 = .ok (.iload_n 2, 1) := by decide +kernel
theorem dX9_told_41 : decode cX9_told 41 = .ok (.iadd, 1) := by decide +kernel
theorem dX9_told_42 : decode cX9_told 42 = .ok (.iaload, 1) := by decide +kernel
theorem dX9_told_43 : decode cX9_told 43 = .ok (.goto 13, 3) := by decide +kernel
theorem dX9_told_46 : decode cX9_told 46 = .ok (.aload_n 0, 1) := by decide +kernel
theorem dX9_told_47 : decode cX9_told 47 = .ok (.iload_n 1, 1) := by decide +kernel
theorem dX9_told_48 : decode cX9_told 48 = .ok (.iload_n 2, 1) := by decide +kernel
theorem dX9_told_49 : decode cX9_told 49 = .ok (.iconst 3, 1) := by decide +kernel
theorem dX9_told_50 : decode cX9_told 50 = .ok (.isub, 1) := by decide +kernel
theorem dX9_told_51 : decode cX9_told 51 = .ok (.iconst 1, 1) := by decide +kernel
theorem dX9_told_52 : decode cX9_told 52 = .ok (.invokevirtual 112, 3) := by decide +kernel
theorem dX9_told_55 : decode cX9_told 55 = .ok (.l2i, 1) := by decide +kernel
theorem dX9_told_56 : decode cX9_told 56 = .ok (.ireturn, 1) := by decide +kernel
theorem dX9_foldsAt_0 : decode cX9_foldsAt 0 = .ok (.iconst 0, 1) := by decide +kernel
theorem dX9_foldsAt_1 : decode cX9_foldsAt 1 = .ok (.istore_n 3, 1) := by decide +kernel
theorem dX9_foldsAt_2 : decode cX9_foldsAt 2 = .ok (.iload_n 3, 1) := by decide +kernel
theorem dX9_foldsAt_3 : decode cX9_foldsAt 3 = .ok (.iload_n 2, 1) := by decide +kernel
theorem dX9_foldsAt_4 : decode cX9_foldsAt 4 = .ok (.if_icmp .gt 23, 3) := by decide +kernel
theorem dX9_foldsAt_7 : decode cX9_foldsAt 7 = .ok (.aload_n 0, 1) := by decide +kernel
theorem dX9_foldsAt_8 : decode cX9_foldsAt 8 = .ok (.iload_n 1, 1) := by decide +kernel
theorem dX9_foldsAt_9 : decode cX9_foldsAt 9 = .ok (.iload_n 3, 1) := by decide +kernel
theorem dX9_foldsAt_10 : decode cX9_foldsAt 10 = .ok (.iload_n 2, 1) := by decide +kernel
theorem dX9_foldsAt_11 : decode cX9_foldsAt 11 = .ok (.invokevirtual 112, 3) := by decide +kernel
theorem dX9_foldsAt_14 : decode cX9_foldsAt 14 = .ok (.lconst 0, 1) := by decide +kernel
theorem dX9_foldsAt_15 : decode cX9_foldsAt 15 = .ok (.lcmp, 1) := by decide +kernel
theorem dX9_foldsAt_16 : decode cX9_foldsAt 16 = .ok (.ifCond .gt 5, 3) := by decide +kernel
theorem dX9_foldsAt_19 : decode cX9_foldsAt 19 = .ok (.iload_n 3, 1) := by decide +kernel
theorem dX9_foldsAt_20 : decode cX9_foldsAt 20 = .ok (.ireturn, 1) := by decide +kernel
theorem dX9_foldsAt_21 : decode cX9_foldsAt 21 = .ok (.iinc 3 1, 3) := by decide +kernel
theorem dX9_foldsAt_24 : decode cX9_foldsAt 24 = .ok (.goto (-22), 3) := by decide +kernel
theorem dX9_foldsAt_27 : decode cX9_foldsAt 27 = .ok (.ldc 116, 2) := by decide +kernel
theorem dX9_foldsAt_29 : decode cX9_foldsAt 29 = .ok (.ireturn, 1) := by decide +kernel
theorem dX9_folds_0 : decode cX9_folds 0 = .ok (.aload_n 0, 1) := by decide +kernel
theorem dX9_folds_1 : decode cX9_folds 1 = .ok (.iconst 0, 1) := by decide +kernel
theorem dX9_folds_2 : decode cX9_folds 2 = .ok (.putfield 52, 3) := by decide +kernel
theorem dX9_folds_5 : decode cX9_folds 5 = .ok (.aload_n 0, 1) := by decide +kernel
theorem dX9_folds_6 : decode cX9_folds 6 = .ok (.iload_n 1, 1) := by decide +kernel
theorem dX9_folds_7 : decode cX9_folds 7 = .ok (.invokevirtual 107, 3) := by decide +kernel
theorem dX9_folds_10 : decode cX9_folds 10 = .ok (.ifCond .eq 15, 3) := by decide +kernel
theorem dX9_folds_13 : decode cX9_folds 13 = .ok (.iload_n 2, 1) := by decide +kernel
theorem dX9_folds_14 : decode cX9_folds 14 = .ok (.i2l, 1) := by decide +kernel
theorem dX9_folds_15 : decode cX9_folds 15 = .ok (.lconst 1, 1) := by decide +kernel
theorem dX9_folds_16 : decode cX9_folds 16 = .ok (.ldc2_w 82, 3) := by decide +kernel
theorem dX9_folds_19 : decode cX9_folds 19 = .ok (.invokestatic 62, 3) := by decide +kernel
theorem dX9_folds_22 : decode cX9_folds 22 = .ok (.ifCond .ne 8, 3) := by decide +kernel
theorem dX9_folds_25 : decode cX9_folds 25 = .ok (.ldc 72, 2) := by decide +kernel
theorem dX9_folds_27 : decode cX9_folds 27 = .ok (.goto 9, 3) := by decide +kernel
theorem dX9_folds_30 : decode cX9_folds 30 = .ok (.aload_n 0, 1) := by decide +kernel
theorem dX9_folds_31 : decode cX9_folds 31 = .ok (.iload_n 1, 1) := by decide +kernel
theorem dX9_folds_32 : decode cX9_folds 32 = .ok (.iload_n 2, 1) := by decide +kernel
theorem dX9_folds_33 : decode cX9_folds 33 = .ok (.invokevirtual 117, 3) := by decide +kernel
theorem dX9_folds_36 : decode cX9_folds 36 = .ok (.ireturn, 1) := by decide +kernel
theorem dX9_first_0 : decode cX9_first 0 = .ok (.aload_n 0, 1) := by decide +kernel
theorem dX9_first_1 : decode cX9_first 1 = .ok (.iconst 0, 1) := by decide +kernel
theorem dX9_first_2 : decode cX9_first 2 = .ok (.putfield 52, 3) := by decide +kernel
theorem dX9_first_5 : decode cX9_first 5 = .ok (.iload_n 1, 1) := by decide +kernel
theorem dX9_first_6 : decode cX9_first 6 = .ok (.i2l, 1) := by decide +kernel
theorem dX9_first_7 : decode cX9_first 7 = .ok (.lconst 1, 1) := by decide +kernel
theorem dX9_first_8 : decode cX9_first 8 = .ok (.ldc2_w 82, 3) := by decide +kernel
theorem dX9_first_11 : decode cX9_first 11 = .ok (.invokestatic 62, 3) := by decide +kernel
theorem dX9_first_14 : decode cX9_first 14 = .ok (.ifCond .eq 13, 3) := by decide +kernel
theorem dX9_first_17 : decode cX9_first 17 = .ok (.iload_n 2, 1) := by decide +kernel
theorem dX9_first_18 : decode cX9_first 18 = .ok (.i2l, 1) := by decide +kernel
theorem dX9_first_19 : decode cX9_first 19 = .ok (.lconst 0, 1) := by decide +kernel
theorem dX9_first_20 : decode cX9_first 20 = .ok (.lconst 1, 1) := by decide +kernel
theorem dX9_first_21 : decode cX9_first 21 = .ok (.invokestatic 62, 3) := by decide +kernel
theorem dX9_first_24 : decode cX9_first 24 = .ok (.ifCond .ne 6, 3) := by decide +kernel
theorem dX9_first_27 : decode cX9_first 27 = .ok (.ldc 72, 2) := by decide +kernel
theorem dX9_first_29 : decode cX9_first 29 = .ok (.ireturn, 1) := by decide +kernel
theorem dX9_first_30 : decode cX9_first 30 = .ok (.ldc 116, 2) := by decide +kernel
theorem dX9_first_32 : decode cX9_first 32 = .ok (.istore_n 3, 1) := by decide +kernel
theorem dX9_first_33 : decode cX9_first 33 = .ok (.ldc 116, 2) := by decide +kernel
theorem dX9_first_35 : decode cX9_first 35 = .ok (.istore 4, 2) := by decide +kernel
theorem dX9_first_37 : decode cX9_first 37 = .ok (.iconst 0, 1) := by decide +kernel
theorem dX9_first_38 : decode cX9_first 38 = .ok (.istore 5, 2) := by decide +kernel
theorem dX9_first_40 : decode cX9_first 40 = .ok (.iload 5, 2) := by decide +kernel
theorem dX9_first_42 : decode cX9_first 42 = .ok (.aload_n 0, 1) := by decide +kernel
theorem dX9_first_43 : decode cX9_first 43 = .ok (.getfield 99, 3) := by decide +kernel
theorem dX9_first_46 : decode cX9_first 46 = .ok (.if_icmp .ge 46, 3) := by decide +kernel
theorem dX9_first_49 : decode cX9_first 49 = .ok (.aload_n 0, 1) := by decide +kernel
theorem dX9_first_50 : decode cX9_first 50 = .ok (.iload 5, 2) := by decide +kernel
theorem dX9_first_52 : decode cX9_first 52 = .ok (.iload_n 1, 1) := by decide +kernel
theorem dX9_first_53 : decode cX9_first 53 = .ok (.invokevirtual 117, 3) := by decide +kernel
theorem dX9_first_56 : decode cX9_first 56 = .ok (.istore 6, 2) := by decide +kernel
theorem dX9_first_58 : decode cX9_first 58 = .ok (.iload 6, 2) := by decide +kernel
theorem dX9_first_60 : decode cX9_first 60 = .ok (.ldc 116, 2) := by decide +kernel
theorem dX9_first_62 : decode cX9_first 62 = .ok (.if_icmp .eq 24, 3) := by decide +kernel
theorem dX9_first_65 : decode cX9_first 65 = .ok (.iload 4, 2) := by decide +kernel
theorem dX9_first_67 : decode cX9_first 67 = .ok (.ldc 116, 2) := by decide +kernel
theorem dX9_first_69 : decode cX9_first 69 = .ok (.if_icmp .eq 10, 3) := by decide +kernel
theorem dX9_first_72 : decode cX9_first 72 = .ok (.iload 6, 2) := by decide +kernel
theorem dX9_first_74 : decode cX9_first 74 = .ok (.iload 4, 2) := by decide +kernel
theorem dX9_first_76 : decode cX9_first 76 = .ok (.if_icmp .ge 10, 3) := by decide +kernel
theorem dX9_first_79 : decode cX9_first 79 = .ok (.iload 6, 2) := by decide +kernel
theorem dX9_first_81 : decode cX9_first 81 = .ok (.istore 4, 2) := by decide +kernel
theorem dX9_first_83 : decode cX9_first 83 = .ok (.iload 5, 2) := by decide +kernel
theorem dX9_first_85 : decode cX9_first 85 = .ok (.istore_n 3, 1) := by decide +kernel
theorem dX9_first_86 : decode cX9_first 86 = .ok (.iinc 5 1, 3) := by decide +kernel
theorem dX9_first_89 : decode cX9_first 89 = .ok (.goto (-49), 3) := by decide +kernel
theorem dX9_first_92 : decode cX9_first 92 = .ok (.iload_n 2, 1) := by decide +kernel
theorem dX9_first_93 : decode cX9_first 93 = .ok (.ifCond .ne 8, 3) := by decide +kernel
theorem dX9_first_96 : decode cX9_first 96 = .ok (.iload 4, 2) := by decide +kernel
theorem dX9_first_98 : decode cX9_first 98 = .ok (.goto 4, 3) := by decide +kernel
theorem dX9_first_101 : decode cX9_first 101 = .ok (.iload_n 3, 1) := by decide +kernel
theorem dX9_first_102 : decode cX9_first 102 = .ok (.ireturn, 1) := by decide +kernel
theorem dX9_sides_0 : decode cX9_sides 0 = .ok (.aload_n 0, 1) := by decide +kernel
theorem dX9_sides_1 : decode cX9_sides 1 = .ok (.iconst 0, 1) := by decide +kernel
theorem dX9_sides_2 : decode cX9_sides 2 = .ok (.putfield 52, 3) := by decide +kernel
theorem dX9_sides_5 : decode cX9_sides 5 = .ok (.iload_n 1, 1) := by decide +kernel
theorem dX9_sides_6 : decode cX9_sides 6 = .ok (.i2l, 1) := by decide +kernel
theorem dX9_sides_7 : decode cX9_sides 7 = .ok (.lconst 1, 1) := by decide +kernel
theorem dX9_sides_8 : decode cX9_sides 8 = .ok (.ldc2_w 121, 3) := by decide +kernel
theorem dX9_sides_11 : decode cX9_sides 11 = .ok (.invokestatic 62, 3) := by decide +kernel
theorem dX9_sides_14 : decode cX9_sides 14 = .ok (.ifCond .ne 6, 3) := by decide +kernel
theorem dX9_sides_17 : decode cX9_sides 17 = .ok (.ldc 72, 2) := by decide +kernel
theorem dX9_sides_19 : decode cX9_sides 19 = .ok (.ireturn, 1) := by decide +kernel
theorem dX9_sides_20 : decode cX9_sides 20 = .ok (.iconst 0, 1) := by decide +kernel
theorem dX9_sides_21 : decode cX9_sides 21 = .ok (.istore_n 2, 1) := by decide +kernel
theorem dX9_sides_22 : decode cX9_sides 22 = .ok (.iconst 0, 1) := by decide +kernel
theorem dX9_sides_23 : decode cX9_sides 23 = .ok (.istore_n 3, 1) := by decide +kernel
theorem dX9_sides_24 : decode cX9_sides 24 = .ok (.iload_n 3, 1) := by decide +kernel
theorem dX9_sides_25 : decode cX9_sides 25 = .ok (.aload_n 0, 1) := by decide +kernel
theorem dX9_sides_26 : decode cX9_sides 26 = .ok (.getfield 77, 3) := by decide +kernel
theorem dX9_sides_29 : decode cX9_sides 29 = .ok (.if_icmp .ge 136, 3) := by decide +kernel
theorem dX9_sides_32 : decode cX9_sides 32 = .ok (.iload_n 3, 1) := by decide +kernel
theorem dX9_sides_33 : decode cX9_sides 33 = .ok (.iconst 1, 1) := by decide +kernel
theorem dX9_sides_34 : decode cX9_sides 34 = .ok (.iadd, 1) := by decide +kernel
theorem dX9_sides_35 : decode cX9_sides 35 = .ok (.istore 4, 2) := by decide +kernel
theorem dX9_sides_37 : decode cX9_sides 37 = .ok (.iload 4, 2) := by decide +kernel
theorem dX9_sides_39 : decode cX9_sides 39 = .ok (.aload_n 0, 1) := by decide +kernel
theorem dX9_sides_40 : decode cX9_sides 40 = .ok (.getfield 77, 3) := by decide +kernel
theorem dX9_sides_43 : decode cX9_sides 43 = .ok (.if_icmp .ge 116, 3) := by decide +kernel
theorem dX9_sides_46 : decode cX9_sides 46 = .ok (.iconst 0, 1) := by decide +kernel
theorem dX9_sides_47 : decode cX9_sides 47 = .ok (.istore 5, 2) := by decide +kernel
theorem dX9_sides_49 : decode cX9_sides 49 = .ok (.iconst 0, 1) := by decide +kernel
theorem dX9_sides_50 : decode cX9_sides 50 = .ok (.istore 6, 2) := by decide +kernel
theorem dX9_sides_52 : decode cX9_sides 52 = .ok (.iload 6, 2) := by decide +kernel
theorem dX9_sides_54 : decode cX9_sides 54 = .ok (.aload_n 0, 1) := by decide +kernel
theorem dX9_sides_55 : decode cX9_sides 55 = .ok (.getfield 99, 3) := by decide +kernel
theorem dX9_sides_58 : decode cX9_sides 58 = .ok (.if_icmp .ge 81, 3) := by decide +kernel
theorem dX9_sides_61 : decode cX9_sides 61 = .ok (.iconst 1, 1) := by decide +kernel
theorem dX9_sides_62 : decode cX9_sides 62 = .ok (.aload_n 0, 1) := by decide +kernel
theorem dX9_sides_63 : decode cX9_sides 63 = .ok (.getfield 22, 3) := by decide +kernel
theorem dX9_sides_66 : decode cX9_sides 66 = .ok (.iconst 3, 1) := by decide +kernel
theorem dX9_sides_67 : decode cX9_sides 67 = .ok (.iload 6, 2) := by decide +kernel
theorem dX9_sides_69 : decode cX9_sides 69 = .ok (.imul, 1) := by decide +kernel
theorem dX9_sides_70 : decode cX9_sides 70 = .ok (.iaload, 1) := by decide +kernel
theorem dX9_sides_71 : decode cX9_sides 71 = .ok (.ishl, 1) := by decide +kernel
theorem dX9_sides_72 : decode cX9_sides 72 = .ok (.iconst 1, 1) := by decide +kernel
theorem dX9_sides_73 : decode cX9_sides 73 = .ok (.aload_n 0, 1) := by decide +kernel
theorem dX9_sides_74 : decode cX9_sides 74 = .ok (.getfield 22, 3) := by decide +kernel
theorem dX9_sides_77 : decode cX9_sides 77 = .ok (.iconst 3, 1) := by decide +kernel
theorem dX9_sides_78 : decode cX9_sides 78 = .ok (.iload 6, 2) := by decide +kernel
theorem dX9_sides_80 : decode cX9_sides 80 = .ok (.imul, 1) := by decide +kernel
theorem dX9_sides_81 : decode cX9_sides 81 = .ok (.iconst 1, 1) := by decide +kernel
theorem dX9_sides_82 : decode cX9_sides 82 = .ok (.iadd, 1) := by decide +kernel
theorem dX9_sides_83 : decode cX9_sides 83 = .ok (.iaload, 1) := by decide +kernel
theorem dX9_sides_84 : decode cX9_sides 84 = .ok (.ishl, 1) := by decide +kernel
theorem dX9_sides_85 : decode cX9_sides 85 = .ok (.ior, 1) := by decide +kernel
theorem dX9_sides_86 : decode cX9_sides 86 = .ok (.iconst 1, 1) := by decide +kernel
theorem dX9_sides_87 : decode cX9_sides 87 = .ok (.aload_n 0, 1) := by decide +kernel
theorem dX9_sides_88 : decode cX9_sides 88 = .ok (.getfield 22, 3) := by decide +kernel
theorem dX9_sides_91 : decode cX9_sides 91 = .ok (.iconst 3, 1) := by decide +kernel
theorem dX9_sides_92 : decode cX9_sides 92 = .ok (.iload 6, 2) := by decide +kernel
theorem dX9_sides_94 : decode cX9_sides 94 = .ok (.imul, 1) := by decide +kernel
theorem dX9_sides_95 : decode cX9_sides 95 = .ok (.iconst 2, 1) := by decide +kernel
theorem dX9_sides_96 : decode cX9_sides 96 = .ok (.iadd, 1) := by decide +kernel
theorem dX9_sides_97 : decode cX9_sides 97 = .ok (.iaload, 1) := by decide +kernel
theorem dX9_sides_98 : decode cX9_sides 98 = .ok (.ishl, 1) := by decide +kernel
theorem dX9_sides_99 : decode cX9_sides 99 = .ok (.ior, 1) := by decide +kernel
theorem dX9_sides_100 : decode cX9_sides 100 = .ok (.istore 7, 2) := by decide +kernel
theorem dX9_sides_102 : decode cX9_sides 102 = .ok (.iload 5, 2) := by decide +kernel
theorem dX9_sides_104 : decode cX9_sides 104 = .ok (.iload 7, 2) := by decide +kernel
theorem dX9_sides_106 : decode cX9_sides 106 = .ok (.iload_n 3, 1) := by decide +kernel
theorem dX9_sides_107 : decode cX9_sides 107 = .ok (.ishr, 1) := by decide +kernel
theorem dX9_sides_108 : decode cX9_sides 108 = .ok (.iconst 1, 1) := by decide +kernel
theorem dX9_sides_109 : decode cX9_sides 109 = .ok (.iand, 1) := by decide +kernel
theorem dX9_sides_110 : decode cX9_sides 110 = .ok (.iconst 1, 1) := by decide +kernel
theorem dX9_sides_111 : decode cX9_sides 111 = .ok (.if_icmp .ne 18, 3) := by decide +kernel
theorem dX9_sides_114 : decode cX9_sides 114 = .ok (.iload 7, 2) := by decide +kernel
theorem dX9_sides_116 : decode cX9_sides 116 = .ok (.iload 4, 2) := by decide +kernel
theorem dX9_sides_118 : decode cX9_sides 118 = .ok (.ishr, 1) := by decide +kernel
theorem dX9_sides_119 : decode cX9_sides 119 = .ok (.iconst 1, 1) := by decide +kernel
theorem dX9_sides_120 : decode cX9_sides 120 = .ok (.iand, 1) := by decide +kernel
theorem dX9_sides_121 : decode cX9_sides 121 = .ok (.iconst 1, 1) := by decide +kernel
theorem dX9_sides_122 : decode cX9_sides 122 = .ok (.if_icmp .ne 7, 3) := by decide +kernel
theorem dX9_sides_125 : decode cX9_sides 125 = .ok (.iconst 1, 1) := by decide +kernel
theorem dX9_sides_126 : decode cX9_sides 126 = .ok (.goto 4, 3) := by decide +kernel
theorem dX9_sides_129 : decode cX9_sides 129 = .ok (.iconst 0, 1) := by decide +kernel
theorem dX9_sides_130 : decode cX9_sides 130 = .ok (.iadd, 1) := by decide +kernel
theorem dX9_sides_131 : decode cX9_sides 131 = .ok (.istore 5, 2) := by decide +kernel
theorem dX9_sides_133 : decode cX9_sides 133 = .ok (.iinc 6 1, 3) := by decide +kernel
theorem dX9_sides_136 : decode cX9_sides 136 = .ok (.goto (-84), 3) := by decide +kernel
theorem dX9_sides_139 : decode cX9_sides 139 = .ok (.iload_n 2, 1) := by decide +kernel
theorem dX9_sides_140 : decode cX9_sides 140 = .ok (.iload 5, 2) := by decide +kernel
theorem dX9_sides_142 : decode cX9_sides 142 = .ok (.iload_n 1, 1) := by decide +kernel
theorem dX9_sides_143 : decode cX9_sides 143 = .ok (.if_icmp .ne 7, 3) := by decide +kernel
theorem dX9_sides_146 : decode cX9_sides 146 = .ok (.iconst 1, 1) := by decide +kernel
theorem dX9_sides_147 : decode cX9_sides 147 = .ok (.goto 4, 3) := by decide +kernel
theorem dX9_sides_150 : decode cX9_sides 150 = .ok (.iconst 0, 1) := by decide +kernel
theorem dX9_sides_151 : decode cX9_sides 151 = .ok (.iadd, 1) := by decide +kernel
theorem dX9_sides_152 : decode cX9_sides 152 = .ok (.istore_n 2, 1) := by decide +kernel
theorem dX9_sides_153 : decode cX9_sides 153 = .ok (.iinc 4 1, 3) := by decide +kernel
theorem dX9_sides_156 : decode cX9_sides 156 = .ok (.goto (-119), 3) := by decide +kernel
theorem dX9_sides_159 : decode cX9_sides 159 = .ok (.iinc 3 1, 3) := by decide +kernel
theorem dX9_sides_162 : decode cX9_sides 162 = .ok (.goto (-138), 3) := by decide +kernel
theorem dX9_sides_165 : decode cX9_sides 165 = .ok (.iload_n 2, 1) := by decide +kernel
theorem dX9_sides_166 : decode cX9_sides 166 = .ok (.ireturn, 1) := by decide +kernel
theorem dX9_key_0 : decode cX9_key 0 = .ok (.aload_n 0, 1) := by decide +kernel
theorem dX9_key_1 : decode cX9_key 1 = .ok (.iconst 0, 1) := by decide +kernel
theorem dX9_key_2 : decode cX9_key 2 = .ok (.putfield 52, 3) := by decide +kernel
theorem dX9_key_5 : decode cX9_key 5 = .ok (.iload_n 1, 1) := by decide +kernel
theorem dX9_key_6 : decode cX9_key 6 = .ok (.i2l, 1) := by decide +kernel
theorem dX9_key_7 : decode cX9_key 7 = .ok (.lconst 0, 1) := by decide +kernel
theorem dX9_key_8 : decode cX9_key 8 = .ok (.ldc2_w 80, 3) := by decide +kernel
theorem dX9_key_11 : decode cX9_key 11 = .ok (.invokestatic 62, 3) := by decide +kernel
theorem dX9_key_14 : decode cX9_key 14 = .ok (.ifCond .eq 15, 3) := by decide +kernel
theorem dX9_key_17 : decode cX9_key 17 = .ok (.iload_n 2, 1) := by decide +kernel
theorem dX9_key_18 : decode cX9_key 18 = .ok (.i2l, 1) := by decide +kernel
theorem dX9_key_19 : decode cX9_key 19 = .ok (.lconst 0, 1) := by decide +kernel
theorem dX9_key_20 : decode cX9_key 20 = .ok (.ldc2_w 80, 3) := by decide +kernel
theorem dX9_key_23 : decode cX9_key 23 = .ok (.invokestatic 62, 3) := by decide +kernel
theorem dX9_key_26 : decode cX9_key 26 = .ok (.ifCond .ne 6, 3) := by decide +kernel
theorem dX9_key_29 : decode cX9_key 29 = .ok (.ldc 72, 2) := by decide +kernel
theorem dX9_key_31 : decode cX9_key 31 = .ok (.ireturn, 1) := by decide +kernel
theorem dX9_key_32 : decode cX9_key 32 = .ok (.aload_n 0, 1) := by decide +kernel
theorem dX9_key_33 : decode cX9_key 33 = .ok (.getfield 123, 3) := by decide +kernel
theorem dX9_key_36 : decode cX9_key 36 = .ok (.ifCond .le 36, 3) := by decide +kernel
theorem dX9_key_39 : decode cX9_key 39 = .ok (.iload_n 1, 1) := by decide +kernel
theorem dX9_key_40 : decode cX9_key 40 = .ok (.aload_n 0, 1) := by decide +kernel
theorem dX9_key_41 : decode cX9_key 41 = .ok (.getfield 25, 3) := by decide +kernel
theorem dX9_key_44 : decode cX9_key 44 = .ok (.aload_n 0, 1) := by decide +kernel
theorem dX9_key_45 : decode cX9_key 45 = .ok (.getfield 123, 3) := by decide +kernel
theorem dX9_key_48 : decode cX9_key 48 = .ok (.iconst 1, 1) := by decide +kernel
theorem dX9_key_49 : decode cX9_key 49 = .ok (.isub, 1) := by decide +kernel
theorem dX9_key_50 : decode cX9_key 50 = .ok (.iaload, 1) := by decide +kernel
theorem dX9_key_51 : decode cX9_key 51 = .ok (.if_icmp .le 18, 3) := by decide +kernel
theorem dX9_key_54 : decode cX9_key 54 = .ok (.iload_n 2, 1) := by decide +kernel
theorem dX9_key_55 : decode cX9_key 55 = .ok (.aload_n 0, 1) := by decide +kernel
theorem dX9_key_56 : decode cX9_key 56 = .ok (.getfield 28, 3) := by decide +kernel
theorem dX9_key_59 : decode cX9_key 59 = .ok (.aload_n 0, 1) := by decide +kernel
theorem dX9_key_60 : decode cX9_key 60 = .ok (.getfield 123, 3) := by decide +kernel
theorem dX9_key_63 : decode cX9_key 63 = .ok (.iconst 1, 1) := by decide +kernel
theorem dX9_key_64 : decode cX9_key 64 = .ok (.isub, 1) := by decide +kernel
theorem dX9_key_65 : decode cX9_key 65 = .ok (.iaload, 1) := by decide +kernel
theorem dX9_key_66 : decode cX9_key 66 = .ok (.if_icmp .ge 6, 3) := by decide +kernel
theorem dX9_key_69 : decode cX9_key 69 = .ok (.ldc 102, 2) := by decide +kernel
theorem dX9_key_71 : decode cX9_key 71 = .ok (.ireturn, 1) := by decide +kernel
theorem dX9_key_72 : decode cX9_key 72 = .ok (.aload_n 0, 1) := by decide +kernel
theorem dX9_key_73 : decode cX9_key 73 = .ok (.getfield 123, 3) := by decide +kernel
theorem dX9_key_76 : decode cX9_key 76 = .ok (.bipush 6, 2) := by decide +kernel
theorem dX9_key_78 : decode cX9_key 78 = .ok (.if_icmp .ne 6, 3) := by decide +kernel
theorem dX9_key_81 : decode cX9_key 81 = .ok (.ldc 88, 2) := by decide +kernel
theorem dX9_key_83 : decode cX9_key 83 = .ok (.ireturn, 1) := by decide +kernel
theorem dX9_key_84 : decode cX9_key 84 = .ok (.aload_n 0, 1) := by decide +kernel
theorem dX9_key_85 : decode cX9_key 85 = .ok (.getfield 25, 3) := by decide +kernel
theorem dX9_key_88 : decode cX9_key 88 = .ok (.aload_n 0, 1) := by decide +kernel
theorem dX9_key_89 : decode cX9_key 89 = .ok (.getfield 123, 3) := by decide +kernel
theorem dX9_key_92 : decode cX9_key 92 = .ok (.iload_n 1, 1) := by decide +kernel
theorem dX9_key_93 : decode cX9_key 93 = .ok (.iastore, 1) := by decide +kernel
theorem dX9_key_94 : decode cX9_key 94 = .ok (.aload_n 0, 1) := by decide +kernel
theorem dX9_key_95 : decode cX9_key 95 = .ok (.getfield 28, 3) := by decide +kernel
theorem dX9_key_98 : decode cX9_key 98 = .ok (.aload_n 0, 1) := by decide +kernel
theorem dX9_key_99 : decode cX9_key 99 = .ok (.getfield 123, 3) := by decide +kernel
theorem dX9_key_102 : decode cX9_key 102 = .ok (.iload_n 2, 1) := by decide +kernel
theorem dX9_key_103 : decode cX9_key 103 = .ok (.iastore, 1) := by decide +kernel
theorem dX9_key_104 : decode cX9_key 104 = .ok (.aload_n 0, 1) := by decide +kernel
theorem dX9_key_105 : decode cX9_key 105 = .ok (.dup, 1) := by decide +kernel
theorem dX9_key_106 : decode cX9_key 106 = .ok (.getfield 123, 3) := by decide +kernel
theorem dX9_key_109 : decode cX9_key 109 = .ok (.iconst 1, 1) := by decide +kernel
theorem dX9_key_110 : decode cX9_key 110 = .ok (.iadd, 1) := by decide +kernel
theorem dX9_key_111 : decode cX9_key 111 = .ok (.putfield 123, 3) := by decide +kernel
theorem dX9_key_114 : decode cX9_key 114 = .ok (.aload_n 0, 1) := by decide +kernel
theorem dX9_key_115 : decode cX9_key 115 = .ok (.getfield 123, 3) := by decide +kernel
theorem dX9_key_118 : decode cX9_key 118 = .ok (.ireturn, 1) := by decide +kernel
theorem dX9_eased_0 : decode cX9_eased 0 = .ok (.aload_n 0, 1) := by decide +kernel
theorem dX9_eased_1 : decode cX9_eased 1 = .ok (.iconst 0, 1) := by decide +kernel
theorem dX9_eased_2 : decode cX9_eased 2 = .ok (.putfield 52, 3) := by decide +kernel
theorem dX9_eased_5 : decode cX9_eased 5 = .ok (.iload_n 1, 1) := by decide +kernel
theorem dX9_eased_6 : decode cX9_eased 6 = .ok (.i2l, 1) := by decide +kernel
theorem dX9_eased_7 : decode cX9_eased 7 = .ok (.lconst 0, 1) := by decide +kernel
theorem dX9_eased_8 : decode cX9_eased 8 = .ok (.ldc2_w 80, 3) := by decide +kernel
theorem dX9_eased_11 : decode cX9_eased 11 = .ok (.invokestatic 62, 3) := by decide +kernel
theorem dX9_eased_14 : decode cX9_eased 14 = .ok (.ifCond .ne 6, 3) := by decide +kernel
theorem dX9_eased_17 : decode cX9_eased 17 = .ok (.ldc 72, 2) := by decide +kernel
theorem dX9_eased_19 : decode cX9_eased 19 = .ok (.ireturn, 1) := by decide +kernel
theorem dX9_eased_20 : decode cX9_eased 20 = .ok (.aload_n 0, 1) := by decide +kernel
theorem dX9_eased_21 : decode cX9_eased 21 = .ok (.getfield 123, 3) := by decide +kernel
theorem dX9_eased_24 : decode cX9_eased 24 = .ok (.ifCond .ne 5, 3) := by decide +kernel
theorem dX9_eased_27 : decode cX9_eased 27 = .ok (.iload_n 1, 1) := by decide +kernel
theorem dX9_eased_28 : decode cX9_eased 28 = .ok (.ireturn, 1) := by decide +kernel
theorem dX9_eased_29 : decode cX9_eased 29 = .ok (.iload_n 1, 1) := by decide +kernel
theorem dX9_eased_30 : decode cX9_eased 30 = .ok (.aload_n 0, 1) := by decide +kernel
theorem dX9_eased_31 : decode cX9_eased 31 = .ok (.getfield 25, 3) := by decide +kernel
theorem dX9_eased_34 : decode cX9_eased 34 = .ok (.iconst 0, 1) := by decide +kernel
theorem dX9_eased_35 : decode cX9_eased 35 = .ok (.iaload, 1) := by decide +kernel
theorem dX9_eased_36 : decode cX9_eased 36 = .ok (.if_icmp .gt 10, 3) := by decide +kernel
theorem dX9_eased_39 : decode cX9_eased 39 = .ok (.aload_n 0, 1) := by decide +kernel
theorem dX9_eased_40 : decode cX9_eased 40 = .ok (.getfield 28, 3) := by decide +kernel
theorem dX9_eased_43 : decode cX9_eased 43 = .ok (.iconst 0, 1) := by decide +kernel
theorem dX9_eased_44 : decode cX9_eased 44 = .ok (.iaload, 1) := by decide +kernel
theorem dX9_eased_45 : decode cX9_eased 45 = .ok (.ireturn, 1) := by decide +kernel
theorem dX9_eased_46 : decode cX9_eased 46 = .ok (.iconst 1, 1) := by decide +kernel
theorem dX9_eased_47 : decode cX9_eased 47 = .ok (.istore_n 2, 1) := by decide +kernel
theorem dX9_eased_48 : decode cX9_eased 48 = .ok (.iload_n 2, 1) := by decide +kernel
theorem dX9_eased_49 : decode cX9_eased 49 = .ok (.aload_n 0, 1) := by decide +kernel
theorem dX9_eased_50 : decode cX9_eased 50 = .ok (.getfield 123, 3) := by decide +kernel
theorem dX9_eased_53 : decode cX9_eased 53 = .ok (.if_icmp .ge 71, 3) := by decide +kernel
theorem dX9_eased_56 : decode cX9_eased 56 = .ok (.iload_n 1, 1) := by decide +kernel
theorem dX9_eased_57 : decode cX9_eased 57 = .ok (.aload_n 0, 1) := by decide +kernel
theorem dX9_eased_58 : decode cX9_eased 58 = .ok (.getfield 25, 3) := by decide +kernel
theorem dX9_eased_61 : decode cX9_eased 61 = .ok (.iload_n 2, 1) := by decide +kernel
theorem dX9_eased_62 : decode cX9_eased 62 = .ok (.iaload, 1) := by decide +kernel
theorem dX9_eased_63 : decode cX9_eased 63 = .ok (.if_icmp .gt 55, 3) := by decide +kernel
theorem dX9_eased_66 : decode cX9_eased 66 = .ok (.aload_n 0, 1) := by decide +kernel
theorem dX9_eased_67 : decode cX9_eased 67 = .ok (.getfield 28, 3) := by decide +kernel
theorem dX9_eased_70 : decode cX9_eased 70 = .ok (.iload_n 2, 1) := by decide +kernel
theorem dX9_eased_71 : decode cX9_eased 71 = .ok (.iconst 1, 1) := by decide +kernel
theorem dX9_eased_72 : decode cX9_eased 72 = .ok (.isub, 1) := by decide +kernel
theorem dX9_eased_73 : decode cX9_eased 73 = .ok (.iaload, 1) := by decide +kernel
theorem dX9_eased_74 : decode cX9_eased 74 = .ok (.aload_n 0, 1) := by decide +kernel
theorem dX9_eased_75 : decode cX9_eased 75 = .ok (.getfield 28, 3) := by decide +kernel
theorem dX9_eased_78 : decode cX9_eased 78 = .ok (.iload_n 2, 1) := by decide +kernel
theorem dX9_eased_79 : decode cX9_eased 79 = .ok (.iaload, 1) := by decide +kernel
theorem dX9_eased_80 : decode cX9_eased 80 = .ok (.aload_n 0, 1) := by decide +kernel
theorem dX9_eased_81 : decode cX9_eased 81 = .ok (.getfield 28, 3) := by decide +kernel
theorem dX9_eased_84 : decode cX9_eased 84 = .ok (.iload_n 2, 1) := by decide +kernel
theorem dX9_eased_85 : decode cX9_eased 85 = .ok (.iconst 1, 1) := by decide +kernel
theorem dX9_eased_86 : decode cX9_eased 86 = .ok (.isub, 1) := by decide +kernel
theorem dX9_eased_87 : decode cX9_eased 87 = .ok (.iaload, 1) := by decide +kernel
theorem dX9_eased_88 : decode cX9_eased 88 = .ok (.isub, 1) := by decide +kernel
theorem dX9_eased_89 : decode cX9_eased 89 = .ok (.iload_n 1, 1) := by decide +kernel
theorem dX9_eased_90 : decode cX9_eased 90 = .ok (.aload_n 0, 1) := by decide +kernel
theorem dX9_eased_91 : decode cX9_eased 91 = .ok (.getfield 25, 3) := by decide +kernel
theorem dX9_eased_94 : decode cX9_eased 94 = .ok (.iload_n 2, 1) := by decide +kernel
theorem dX9_eased_95 : decode cX9_eased 95 = .ok (.iconst 1, 1) := by decide +kernel
theorem dX9_eased_96 : decode cX9_eased 96 = .ok (.isub, 1) := by decide +kernel
theorem dX9_eased_97 : decode cX9_eased 97 = .ok (.iaload, 1) := by decide +kernel
theorem dX9_eased_98 : decode cX9_eased 98 = .ok (.isub, 1) := by decide +kernel
theorem dX9_eased_99 : decode cX9_eased 99 = .ok (.imul, 1) := by decide +kernel
theorem dX9_eased_100 : decode cX9_eased 100 = .ok (.aload_n 0, 1) := by decide +kernel
theorem dX9_eased_101 : decode cX9_eased 101 = .ok (.getfield 25, 3) := by decide +kernel
theorem dX9_eased_104 : decode cX9_eased 104 = .ok (.iload_n 2, 1) := by decide +kernel
theorem dX9_eased_105 : decode cX9_eased 105 = .ok (.iaload, 1) := by decide +kernel
theorem dX9_eased_106 : decode cX9_eased 106 = .ok (.aload_n 0, 1) := by decide +kernel
theorem dX9_eased_107 : decode cX9_eased 107 = .ok (.getfield 25, 3) := by decide +kernel
theorem dX9_eased_110 : decode cX9_eased 110 = .ok (.iload_n 2, 1) := by decide +kernel
theorem dX9_eased_111 : decode cX9_eased 111 = .ok (.iconst 1, 1) := by decide +kernel
theorem dX9_eased_112 : decode cX9_eased 112 = .ok (.isub, 1) := by decide +kernel
theorem dX9_eased_113 : decode cX9_eased 113 = .ok (.iaload, 1) := by decide +kernel
theorem dX9_eased_114 : decode cX9_eased 114 = .ok (.isub, 1) := by decide +kernel
theorem dX9_eased_115 : decode cX9_eased 115 = .ok (.idiv, 1) := by decide +kernel
theorem dX9_eased_116 : decode cX9_eased 116 = .ok (.iadd, 1) := by decide +kernel
theorem dX9_eased_117 : decode cX9_eased 117 = .ok (.ireturn, 1) := by decide +kernel
theorem dX9_eased_118 : decode cX9_eased 118 = .ok (.iinc 2 1, 3) := by decide +kernel
theorem dX9_eased_121 : decode cX9_eased 121 = .ok (.goto (-73), 3) := by decide +kernel
theorem dX9_eased_124 : decode cX9_eased 124 = .ok (.aload_n 0, 1) := by decide +kernel
theorem dX9_eased_125 : decode cX9_eased 125 = .ok (.getfield 28, 3) := by decide +kernel
theorem dX9_eased_128 : decode cX9_eased 128 = .ok (.aload_n 0, 1) := by decide +kernel
theorem dX9_eased_129 : decode cX9_eased 129 = .ok (.getfield 123, 3) := by decide +kernel
theorem dX9_eased_132 : decode cX9_eased 132 = .ok (.iconst 1, 1) := by decide +kernel
theorem dX9_eased_133 : decode cX9_eased 133 = .ok (.isub, 1) := by decide +kernel
theorem dX9_eased_134 : decode cX9_eased 134 = .ok (.iaload, 1) := by decide +kernel
theorem dX9_eased_135 : decode cX9_eased 135 = .ok (.ireturn, 1) := by decide +kernel
theorem dX9_unkey_0 : decode cX9_unkey 0 = .ok (.aload_n 0, 1) := by decide +kernel
theorem dX9_unkey_1 : decode cX9_unkey 1 = .ok (.iconst 0, 1) := by decide +kernel
theorem dX9_unkey_2 : decode cX9_unkey 2 = .ok (.putfield 52, 3) := by decide +kernel
theorem dX9_unkey_5 : decode cX9_unkey 5 = .ok (.aload_n 0, 1) := by decide +kernel
theorem dX9_unkey_6 : decode cX9_unkey 6 = .ok (.getfield 123, 3) := by decide +kernel
theorem dX9_unkey_9 : decode cX9_unkey 9 = .ok (.istore_n 1, 1) := by decide +kernel
theorem dX9_unkey_10 : decode cX9_unkey 10 = .ok (.aload_n 0, 1) := by decide +kernel
theorem dX9_unkey_11 : decode cX9_unkey 11 = .ok (.iconst 0, 1) := by decide +kernel
theorem dX9_unkey_12 : decode cX9_unkey 12 = .ok (.putfield 123, 3) := by decide +kernel
theorem dX9_unkey_15 : decode cX9_unkey 15 = .ok (.iload_n 1, 1) := by decide +kernel
theorem dX9_unkey_16 : decode cX9_unkey 16 = .ok (.ireturn, 1) := by decide +kernel
theorem dX9_thirdAt_0 : decode cX9_thirdAt 0 = .ok (.iload_n 1, 1) := by decide +kernel
theorem dX9_thirdAt_1 : decode cX9_thirdAt 1 = .ok (.i2l, 1) := by decide +kernel
theorem dX9_thirdAt_2 : decode cX9_thirdAt 2 = .ok (.iload 4, 2) := by decide +kernel
theorem dX9_thirdAt_4 : decode cX9_thirdAt 4 = .ok (.i2l, 1) := by decide +kernel
theorem dX9_thirdAt_5 : decode cX9_thirdAt 5 = .ok (.lmul, 1) := by decide +kernel
theorem dX9_thirdAt_6 : decode cX9_thirdAt 6 = .ok (.lstore 5, 2) := by decide +kernel
theorem dX9_thirdAt_8 : decode cX9_thirdAt 8 = .ok (.iload_n 2, 1) := by decide +kernel
theorem dX9_thirdAt_9 : decode cX9_thirdAt 9 = .ok (.i2l, 1) := by decide +kernel
theorem dX9_thirdAt_10 : decode cX9_thirdAt 10 = .ok (.iload 4, 2) := by decide +kernel
theorem dX9_thirdAt_12 : decode cX9_thirdAt 12 = .ok (.i2l, 1) := by decide +kernel
theorem dX9_thirdAt_13 : decode cX9_thirdAt 13 = .ok (.lmul, 1) := by decide +kernel
theorem dX9_thirdAt_14 : decode cX9_thirdAt 14 = .ok (.lstore 7, 2) := by decide +kernel
theorem dX9_thirdAt_16 : decode cX9_thirdAt 16 = .ok (.iconst 0, 1) := by decide +kernel
theorem dX9_thirdAt_17 : decode cX9_thirdAt 17 = .ok (.istore 9, 2) := by decide +kernel
theorem dX9_thirdAt_19 : decode cX9_thirdAt 19 = .ok (.iload 9, 2) := by decide +kernel
theorem dX9_thirdAt_21 : decode cX9_thirdAt 21 = .ok (.aload_n 0, 1) := by decide +kernel
theorem dX9_thirdAt_22 : decode cX9_thirdAt 22 = .ok (.getfield 99, 3) := by decide +kernel
theorem dX9_thirdAt_25 : decode cX9_thirdAt 25 = .ok (.if_icmp .ge 225, 3) := by decide +kernel
theorem dX9_thirdAt_28 : decode cX9_thirdAt 28 = .ok (.aload_n 0, 1) := by decide +kernel
theorem dX9_thirdAt_29 : decode cX9_thirdAt 29 = .ok (.getfield 22, 3) := by decide +kernel
theorem dX9_thirdAt_32 : decode cX9_thirdAt 32 = .ok (.iconst 3, 1) := by decide +kernel
theorem dX9_thirdAt_33 : decode cX9_thirdAt 33 = .ok (.iload 9, 2) := by decide +kernel
theorem dX9_thirdAt_35 : decode cX9_thirdAt 35 = .ok (.imul, 1) := by decide +kernel
theorem dX9_thirdAt_36 : decode cX9_thirdAt 36 = .ok (.iaload, 1) := by decide +kernel
theorem dX9_thirdAt_37 : decode cX9_thirdAt 37 = .ok (.istore 10, 2) := by decide +kernel
theorem dX9_thirdAt_39 : decode cX9_thirdAt 39 = .ok (.aload_n 0, 1) := by decide +kernel
theorem dX9_thirdAt_40 : decode cX9_thirdAt 40 = .ok (.getfield 22, 3) := by decide +kernel
theorem dX9_thirdAt_43 : decode cX9_thirdAt 43 = .ok (.iconst 3, 1) := by decide +kernel
theorem dX9_thirdAt_44 : decode cX9_thirdAt 44 = .ok (.iload 9, 2) := by decide +kernel
theorem dX9_thirdAt_46 : decode cX9_thirdAt 46 = .ok (.imul, 1) := by decide +kernel
theorem dX9_thirdAt_47 : decode cX9_thirdAt 47 = .ok (.iconst 1, 1) := by decide +kernel
theorem dX9_thirdAt_48 : decode cX9_thirdAt 48 = .ok (.iadd, 1) := by decide +kernel
theorem dX9_thirdAt_49 : decode cX9_thirdAt 49 = .ok (.iaload, 1) := by decide +kernel
theorem dX9_thirdAt_50 : decode cX9_thirdAt 50 = .ok (.istore 11, 2) := by decide +kernel
theorem dX9_thirdAt_52 : decode cX9_thirdAt 52 = .ok (.aload_n 0, 1) := by decide +kernel
theorem dX9_thirdAt_53 : decode cX9_thirdAt 53 = .ok (.getfield 22, 3) := by decide +kernel
theorem dX9_thirdAt_56 : decode cX9_thirdAt 56 = .ok (.iconst 3, 1) := by decide +kernel
theorem dX9_thirdAt_57 : decode cX9_thirdAt 57 = .ok (.iload 9, 2) := by decide +kernel
theorem dX9_thirdAt_59 : decode cX9_thirdAt 59 = .ok (.imul, 1) := by decide +kernel
theorem dX9_thirdAt_60 : decode cX9_thirdAt 60 = .ok (.iconst 2, 1) := by decide +kernel
theorem dX9_thirdAt_61 : decode cX9_thirdAt 61 = .ok (.iadd, 1) := by decide +kernel
theorem dX9_thirdAt_62 : decode cX9_thirdAt 62 = .ok (.iaload, 1) := by decide +kernel
theorem dX9_thirdAt_63 : decode cX9_thirdAt 63 = .ok (.istore 12, 2) := by decide +kernel
theorem dX9_thirdAt_65 : decode cX9_thirdAt 65 = .ok (.aload_n 0, 1) := by decide +kernel
theorem dX9_thirdAt_66 : decode cX9_thirdAt 66 = .ok (.iload 10, 2) := by decide +kernel
theorem dX9_thirdAt_68 : decode cX9_thirdAt 68 = .ok (.iload_n 3, 1) := by decide +kernel
theorem dX9_thirdAt_69 : decode cX9_thirdAt 69 = .ok (.iload 4, 2) := by decide +kernel
theorem dX9_thirdAt_71 : decode cX9_thirdAt 71 = .ok (.iconst 0, 1) := by decide +kernel
theorem dX9_thirdAt_72 : decode cX9_thirdAt 72 = .ok (.invokevirtual 95, 3) := by decide +kernel
theorem dX9_thirdAt_75 : decode cX9_thirdAt 75 = .ok (.i2l, 1) := by decide +kernel
theorem dX9_thirdAt_76 : decode cX9_thirdAt 76 = .ok (.lstore 13, 2) := by decide +kernel
theorem dX9_thirdAt_78 : decode cX9_thirdAt 78 = .ok (.aload_n 0, 1) := by decide +kernel
theorem dX9_thirdAt_79 : decode cX9_thirdAt 79 = .ok (.iload 10, 2) := by decide +kernel
theorem dX9_thirdAt_81 : decode cX9_thirdAt 81 = .ok (.iload_n 3, 1) := by decide +kernel
theorem dX9_thirdAt_82 : decode cX9_thirdAt 82 = .ok (.iload 4, 2) := by decide +kernel
theorem dX9_thirdAt_84 : decode cX9_thirdAt 84 = .ok (.iconst 1, 1) := by decide +kernel
theorem dX9_thirdAt_85 : decode cX9_thirdAt 85 = .ok (.invokevirtual 95, 3) := by decide +kernel
theorem dX9_thirdAt_88 : decode cX9_thirdAt 88 = .ok (.i2l, 1) := by decide +kernel
theorem dX9_thirdAt_89 : decode cX9_thirdAt 89 = .ok (.lstore 15, 2) := by decide +kernel
theorem dX9_thirdAt_91 : decode cX9_thirdAt 91 = .ok (.aload_n 0, 1) := by decide +kernel
theorem dX9_thirdAt_92 : decode cX9_thirdAt 92 = .ok (.iload 11, 2) := by decide +kernel
theorem dX9_thirdAt_94 : decode cX9_thirdAt 94 = .ok (.iload_n 3, 1) := by decide +kernel
theorem dX9_thirdAt_95 : decode cX9_thirdAt 95 = .ok (.iload 4, 2) := by decide +kernel
theorem dX9_thirdAt_97 : decode cX9_thirdAt 97 = .ok (.iconst 0, 1) := by decide +kernel
theorem dX9_thirdAt_98 : decode cX9_thirdAt 98 = .ok (.invokevirtual 95, 3) := by decide +kernel
theorem dX9_thirdAt_101 : decode cX9_thirdAt 101 = .ok (.i2l, 1) := by decide +kernel
theorem dX9_thirdAt_102 : decode cX9_thirdAt 102 = .ok (.lstore 17, 2) := by decide +kernel
theorem dX9_thirdAt_104 : decode cX9_thirdAt 104 = .ok (.aload_n 0, 1) := by decide +kernel
theorem dX9_thirdAt_105 : decode cX9_thirdAt 105 = .ok (.iload 11, 2) := by decide +kernel
theorem dX9_thirdAt_107 : decode cX9_thirdAt 107 = .ok (.iload_n 3, 1) := by decide +kernel
theorem dX9_thirdAt_108 : decode cX9_thirdAt 108 = .ok (.iload 4, 2) := by decide +kernel
theorem dX9_thirdAt_110 : decode cX9_thirdAt 110 = .ok (.iconst 1, 1) := by decide +kernel
theorem dX9_thirdAt_111 : decode cX9_thirdAt 111 = .ok (.invokevirtual 95, 3) := by decide +kernel
theorem dX9_thirdAt_114 : decode cX9_thirdAt 114 = .ok (.i2l, 1) := by decide +kernel
theorem dX9_thirdAt_115 : decode cX9_thirdAt 115 = .ok (.lstore 19, 2) := by decide +kernel
theorem dX9_thirdAt_117 : decode cX9_thirdAt 117 = .ok (.aload_n 0, 1) := by decide +kernel
theorem dX9_thirdAt_118 : decode cX9_thirdAt 118 = .ok (.iload 12, 2) := by decide +kernel
theorem dX9_thirdAt_120 : decode cX9_thirdAt 120 = .ok (.iload_n 3, 1) := by decide +kernel
theorem dX9_thirdAt_121 : decode cX9_thirdAt 121 = .ok (.iload 4, 2) := by decide +kernel
theorem dX9_thirdAt_123 : decode cX9_thirdAt 123 = .ok (.iconst 0, 1) := by decide +kernel
theorem dX9_thirdAt_124 : decode cX9_thirdAt 124 = .ok (.invokevirtual 95, 3) := by decide +kernel
theorem dX9_thirdAt_127 : decode cX9_thirdAt 127 = .ok (.i2l, 1) := by decide +kernel
theorem dX9_thirdAt_128 : decode cX9_thirdAt 128 = .ok (.lstore 21, 2) := by decide +kernel
theorem dX9_thirdAt_130 : decode cX9_thirdAt 130 = .ok (.aload_n 0, 1) := by decide +kernel
theorem dX9_thirdAt_131 : decode cX9_thirdAt 131 = .ok (.iload 12, 2) := by decide +kernel
theorem dX9_thirdAt_133 : decode cX9_thirdAt 133 = .ok (.iload_n 3, 1) := by decide +kernel
theorem dX9_thirdAt_134 : decode cX9_thirdAt 134 = .ok (.iload 4, 2) := by decide +kernel
theorem dX9_thirdAt_136 : decode cX9_thirdAt 136 = .ok (.iconst 1, 1) := by decide +kernel
theorem dX9_thirdAt_137 : decode cX9_thirdAt 137 = .ok (.invokevirtual 95, 3) := by decide +kernel
theorem dX9_thirdAt_140 : decode cX9_thirdAt 140 = .ok (.i2l, 1) := by decide +kernel
theorem dX9_thirdAt_141 : decode cX9_thirdAt 141 = .ok (.lstore 23, 2) := by decide +kernel
theorem dX9_thirdAt_143 : decode cX9_thirdAt 143 = .ok (.aload_n 0, 1) := by decide +kernel
theorem dX9_thirdAt_144 : decode cX9_thirdAt 144 = .ok (.lload 5, 2) := by decide +kernel
theorem dX9_thirdAt_146 : decode cX9_thirdAt 146 = .ok (.lload 7, 2) := by decide +kernel
theorem dX9_thirdAt_148 : decode cX9_thirdAt 148 = .ok (.lload 17, 2) := by decide +kernel
theorem dX9_thirdAt_150 : decode cX9_thirdAt 150 = .ok (.lload 19, 2) := by decide +kernel
theorem dX9_thirdAt_152 : decode cX9_thirdAt 152 = .ok (.lload 21, 2) := by decide +kernel
theorem dX9_thirdAt_154 : decode cX9_thirdAt 154 = .ok (.lload 23, 2) := by decide +kernel
theorem dX9_thirdAt_156 : decode cX9_thirdAt 156 = .ok (.invokestatic 103, 3) := by decide +kernel
theorem dX9_thirdAt_159 : decode cX9_thirdAt 159 = .ok (.putfield 126, 3) := by decide +kernel
theorem dX9_thirdAt_162 : decode cX9_thirdAt 162 = .ok (.aload_n 0, 1) := by decide +kernel
theorem dX9_thirdAt_163 : decode cX9_thirdAt 163 = .ok (.lload 13, 2) := by decide +kernel
theorem dX9_thirdAt_165 : decode cX9_thirdAt 165 = .ok (.lload 15, 2) := by decide +kernel
theorem dX9_thirdAt_167 : decode cX9_thirdAt 167 = .ok (.lload 5, 2) := by decide +kernel
theorem dX9_thirdAt_169 : decode cX9_thirdAt 169 = .ok (.lload 7, 2) := by decide +kernel
theorem dX9_thirdAt_171 : decode cX9_thirdAt 171 = .ok (.lload 21, 2) := by decide +kernel
theorem dX9_thirdAt_173 : decode cX9_thirdAt 173 = .ok (.lload 23, 2) := by decide +kernel
theorem dX9_thirdAt_175 : decode cX9_thirdAt 175 = .ok (.invokestatic 103, 3) := by decide +kernel
theorem dX9_thirdAt_178 : decode cX9_thirdAt 178 = .ok (.putfield 130, 3) := by decide +kernel
theorem dX9_thirdAt_181 : decode cX9_thirdAt 181 = .ok (.aload_n 0, 1) := by decide +kernel
theorem dX9_thirdAt_182 : decode cX9_thirdAt 182 = .ok (.lload 13, 2) := by decide +kernel
theorem dX9_thirdAt_184 : decode cX9_thirdAt 184 = .ok (.lload 15, 2) := by decide +kernel
theorem dX9_thirdAt_186 : decode cX9_thirdAt 186 = .ok (.lload 17, 2) := by decide +kernel
theorem dX9_thirdAt_188 : decode cX9_thirdAt 188 = .ok (.lload 19, 2) := by decide +kernel
theorem dX9_thirdAt_190 : decode cX9_thirdAt 190 = .ok (.lload 5, 2) := by decide +kernel
theorem dX9_thirdAt_192 : decode cX9_thirdAt 192 = .ok (.lload 7, 2) := by decide +kernel
theorem dX9_thirdAt_194 : decode cX9_thirdAt 194 = .ok (.invokestatic 103, 3) := by decide +kernel
theorem dX9_thirdAt_197 : decode cX9_thirdAt 197 = .ok (.putfield 133, 3) := by decide +kernel
theorem dX9_thirdAt_200 : decode cX9_thirdAt 200 = .ok (.aload_n 0, 1) := by decide +kernel
theorem dX9_thirdAt_201 : decode cX9_thirdAt 201 = .ok (.iload 9, 2) := by decide +kernel
theorem dX9_thirdAt_203 : decode cX9_thirdAt 203 = .ok (.iload_n 3, 1) := by decide +kernel
theorem dX9_thirdAt_204 : decode cX9_thirdAt 204 = .ok (.iload 4, 2) := by decide +kernel
theorem dX9_thirdAt_206 : decode cX9_thirdAt 206 = .ok (.invokevirtual 112, 3) := by decide +kernel
theorem dX9_thirdAt_209 : decode cX9_thirdAt 209 = .ok (.lconst 0, 1) := by decide +kernel
theorem dX9_thirdAt_210 : decode cX9_thirdAt 210 = .ok (.lcmp, 1) := by decide +kernel
theorem dX9_thirdAt_211 : decode cX9_thirdAt 211 = .ok (.ifCond .le 33, 3) := by decide +kernel
theorem dX9_thirdAt_214 : decode cX9_thirdAt 214 = .ok (.aload_n 0, 1) := by decide +kernel
theorem dX9_thirdAt_215 : decode cX9_thirdAt 215 = .ok (.getfield 126, 3) := by decide +kernel
theorem dX9_thirdAt_218 : decode cX9_thirdAt 218 = .ok (.lconst 0, 1) := by decide +kernel
theorem dX9_thirdAt_219 : decode cX9_thirdAt 219 = .ok (.lcmp, 1) := by decide +kernel
theorem dX9_thirdAt_220 : decode cX9_thirdAt 220 = .ok (.ifCond .lt 24, 3) := by decide +kernel
theorem dX9_thirdAt_223 : decode cX9_thirdAt 223 = .ok (.aload_n 0, 1) := by decide +kernel
theorem dX9_thirdAt_224 : decode cX9_thirdAt 224 = .ok (.getfield 130, 3) := by decide +kernel
theorem dX9_thirdAt_227 : decode cX9_thirdAt 227 = .ok (.lconst 0, 1) := by decide +kernel
theorem dX9_thirdAt_228 : decode cX9_thirdAt 228 = .ok (.lcmp, 1) := by decide +kernel
theorem dX9_thirdAt_229 : decode cX9_thirdAt 229 = .ok (.ifCond .lt 15, 3) := by decide +kernel
theorem dX9_thirdAt_232 : decode cX9_thirdAt 232 = .ok (.aload_n 0, 1) := by decide +kernel
theorem dX9_thirdAt_233 : decode cX9_thirdAt 233 = .ok (.getfield 133, 3) := by decide +kernel
theorem dX9_thirdAt_236 : decode cX9_thirdAt 236 = .ok (.lconst 0, 1) := by decide +kernel
theorem dX9_thirdAt_237 : decode cX9_thirdAt 237 = .ok (.lcmp, 1) := by decide +kernel
theorem dX9_thirdAt_238 : decode cX9_thirdAt 238 = .ok (.ifCond .lt 6, 3) := by decide +kernel
theorem dX9_thirdAt_241 : decode cX9_thirdAt 241 = .ok (.iload 9, 2) := by decide +kernel
theorem dX9_thirdAt_243 : decode cX9_thirdAt 243 = .ok (.ireturn, 1) := by decide +kernel
theorem dX9_thirdAt_244 : decode cX9_thirdAt 244 = .ok (.iinc 9 1, 3) := by decide +kernel
theorem dX9_thirdAt_247 : decode cX9_thirdAt 247 = .ok (.goto (-228), 3) := by decide +kernel
theorem dX9_thirdAt_250 : decode cX9_thirdAt 250 = .ok (.ldc 116, 2) := by decide +kernel
theorem dX9_thirdAt_252 : decode cX9_thirdAt 252 = .ok (.ireturn, 1) := by decide +kernel
theorem dX9_in_0 : decode cX9_in 0 = .ok (.aload_n 0, 1) := by decide +kernel
theorem dX9_in_1 : decode cX9_in 1 = .ok (.iconst 0, 1) := by decide +kernel
theorem dX9_in_2 : decode cX9_in 2 = .ok (.putfield 52, 3) := by decide +kernel
theorem dX9_in_5 : decode cX9_in 5 = .ok (.iload_n 1, 1) := by decide +kernel
theorem dX9_in_6 : decode cX9_in 6 = .ok (.iload_n 2, 1) := by decide +kernel
theorem dX9_in_7 : decode cX9_in 7 = .ok (.invokestatic 84, 3) := by decide +kernel
theorem dX9_in_10 : decode cX9_in 10 = .ok (.ifCond .eq 12, 3) := by decide +kernel
theorem dX9_in_13 : decode cX9_in 13 = .ok (.iload_n 3, 1) := by decide +kernel
theorem dX9_in_14 : decode cX9_in 14 = .ok (.iload 4, 2) := by decide +kernel
theorem dX9_in_16 : decode cX9_in 16 = .ok (.invokestatic 92, 3) := by decide +kernel
theorem dX9_in_19 : decode cX9_in 19 = .ok (.ifCond .ne 8, 3) := by decide +kernel
theorem dX9_in_22 : decode cX9_in 22 = .ok (.ldc 72, 2) := by decide +kernel
theorem dX9_in_24 : decode cX9_in 24 = .ok (.goto 12, 3) := by decide +kernel
theorem dX9_in_27 : decode cX9_in 27 = .ok (.aload_n 0, 1) := by decide +kernel
theorem dX9_in_28 : decode cX9_in 28 = .ok (.iload_n 1, 1) := by decide +kernel
theorem dX9_in_29 : decode cX9_in 29 = .ok (.iload_n 2, 1) := by decide +kernel
theorem dX9_in_30 : decode cX9_in 30 = .ok (.iload_n 3, 1) := by decide +kernel
theorem dX9_in_31 : decode cX9_in 31 = .ok (.iload 4, 2) := by decide +kernel
theorem dX9_in_33 : decode cX9_in 33 = .ok (.invokevirtual 136, 3) := by decide +kernel
theorem dX9_in_36 : decode cX9_in 36 = .ok (.ireturn, 1) := by decide +kernel
theorem dX9_fromBy_0 : decode cX9_fromBy 0 = .ok (.aload_n 0, 1) := by decide +kernel
theorem dX9_fromBy_1 : decode cX9_fromBy 1 = .ok (.getfield 126, 3) := by decide +kernel
theorem dX9_fromBy_4 : decode cX9_fromBy 4 = .ok (.aload_n 0, 1) := by decide +kernel
theorem dX9_fromBy_5 : decode cX9_fromBy 5 = .ok (.getfield 19, 3) := by decide +kernel
theorem dX9_fromBy_8 : decode cX9_fromBy 8 = .ok (.iconst 4, 1) := by decide +kernel
theorem dX9_fromBy_9 : decode cX9_fromBy 9 = .ok (.aload_n 0, 1) := by decide +kernel
theorem dX9_fromBy_10 : decode cX9_fromBy 10 = .ok (.getfield 22, 3) := by decide +kernel
theorem dX9_fromBy_13 : decode cX9_fromBy 13 = .ok (.iconst 3, 1) := by decide +kernel
theorem dX9_fromBy_14 : decode cX9_fromBy 14 = .ok (.iload_n 1, 1) := by decide +kernel
theorem dX9_fromBy_15 : decode cX9_fromBy 15 = .ok (.imul, 1) := by decide +kernel
theorem dX9_fromBy_16 : decode cX9_fromBy 16 = .ok (.iaload, 1) := by decide +kernel
theorem dX9_fromBy_17 : decode cX9_fromBy 17 = .ok (.imul, 1) := by decide +kernel
theorem dX9_fromBy_18 : decode cX9_fromBy 18 = .ok (.iload_n 2, 1) := by decide +kernel
theorem dX9_fromBy_19 : decode cX9_fromBy 19 = .ok (.iadd, 1) := by decide +kernel
theorem dX9_fromBy_20 : decode cX9_fromBy 20 = .ok (.iaload, 1) := by decide +kernel
theorem dX9_fromBy_21 : decode cX9_fromBy 21 = .ok (.i2l, 1) := by decide +kernel
theorem dX9_fromBy_22 : decode cX9_fromBy 22 = .ok (.lmul, 1) := by decide +kernel
theorem dX9_fromBy_23 : decode cX9_fromBy 23 = .ok (.aload_n 0, 1) := by decide +kernel
theorem dX9_fromBy_24 : decode cX9_fromBy 24 = .ok (.getfield 130, 3) := by decide +kernel
theorem dX9_fromBy_27 : decode cX9_fromBy 27 = .ok (.aload_n 0, 1) := by decide +kernel
theorem dX9_fromBy_28 : decode cX9_fromBy 28 = .ok (.getfield 19, 3) := by decide +kernel
theorem dX9_fromBy_31 : decode cX9_fromBy 31 = .ok (.iconst 4, 1) := by decide +kernel
theorem dX9_fromBy_32 : decode cX9_fromBy 32 = .ok (.aload_n 0, 1) := by decide +kernel
theorem dX9_fromBy_33 : decode cX9_fromBy 33 = .ok (.getfield 22, 3) := by decide +kernel
theorem dX9_fromBy_36 : decode cX9_fromBy 36 = .ok (.iconst 3, 1) := by decide +kernel
theorem dX9_fromBy_37 : decode cX9_fromBy 37 = .ok (.iload_n 1, 1) := by decide +kernel
theorem dX9_fromBy_38 : decode cX9_fromBy 38 = .ok (.imul, 1) := by decide +kernel
theorem dX9_fromBy_39 : decode cX9_fromBy 39 = .ok (.iconst 1, 1) := by decide +kernel
theorem dX9_fromBy_40 : decode cX9_fromBy 40 = .ok (.iadd, 1) := by decide +kernel
theorem dX9_fromBy_41 : decode cX9_fromBy 41 = .ok (.iaload, 1) := by decide +kernel
theorem dX9_fromBy_42 : decode cX9_fromBy 42 = .ok (.imul, 1) := by decide +kernel
theorem dX9_fromBy_43 : decode cX9_fromBy 43 = .ok (.iload_n 2, 1) := by decide +kernel
theorem dX9_fromBy_44 : decode cX9_fromBy 44 = .ok (.iadd, 1) := by decide +kernel
theorem dX9_fromBy_45 : decode cX9_fromBy 45 = .ok (.iaload, 1) := by decide +kernel
theorem dX9_fromBy_46 : decode cX9_fromBy 46 = .ok (.i2l, 1) := by decide +kernel
theorem dX9_fromBy_47 : decode cX9_fromBy 47 = .ok (.lmul, 1) := by decide +kernel
theorem dX9_fromBy_48 : decode cX9_fromBy 48 = .ok (.ladd, 1) := by decide +kernel
theorem dX9_fromBy_49 : decode cX9_fromBy 49 = .ok (.aload_n 0, 1) := by decide +kernel
theorem dX9_fromBy_50 : decode cX9_fromBy 50 = .ok (.getfield 133, 3) := by decide +kernel
theorem dX9_fromBy_53 : decode cX9_fromBy 53 = .ok (.aload_n 0, 1) := by decide +kernel
theorem dX9_fromBy_54 : decode cX9_fromBy 54 = .ok (.getfield 19, 3) := by decide +kernel
theorem dX9_fromBy_57 : decode cX9_fromBy 57 = .ok (.iconst 4, 1) := by decide +kernel
theorem dX9_fromBy_58 : decode cX9_fromBy 58 = .ok (.aload_n 0, 1) := by decide +kernel
theorem dX9_fromBy_59 : decode cX9_fromBy 59 = .ok (.getfield 22, 3) := by decide +kernel
theorem dX9_fromBy_62 : decode cX9_fromBy 62 = .ok (.iconst 3, 1) := by decide +kernel
theorem dX9_fromBy_63 : decode cX9_fromBy 63 = .ok (.iload_n 1, 1) := by decide +kernel
theorem dX9_fromBy_64 : decode cX9_fromBy 64 = .ok (.imul, 1) := by decide +kernel
theorem dX9_fromBy_65 : decode cX9_fromBy 65 = .ok (.iconst 2, 1) := by decide +kernel
theorem dX9_fromBy_66 : decode cX9_fromBy 66 = .ok (.iadd, 1) := by decide +kernel
theorem dX9_fromBy_67 : decode cX9_fromBy 67 = .ok (.iaload, 1) := by decide +kernel
theorem dX9_fromBy_68 : decode cX9_fromBy 68 = .ok (.imul, 1) := by decide +kernel
theorem dX9_fromBy_69 : decode cX9_fromBy 69 = .ok (.iload_n 2, 1) := by decide +kernel
theorem dX9_fromBy_70 : decode cX9_fromBy 70 = .ok (.iadd, 1) := by decide +kernel
theorem dX9_fromBy_71 : decode cX9_fromBy 71 = .ok (.iaload, 1) := by decide +kernel
theorem dX9_fromBy_72 : decode cX9_fromBy 72 = .ok (.i2l, 1) := by decide +kernel
theorem dX9_fromBy_73 : decode cX9_fromBy 73 = .ok (.lmul, 1) := by decide +kernel
theorem dX9_fromBy_74 : decode cX9_fromBy 74 = .ok (.ladd, 1) := by decide +kernel
theorem dX9_fromBy_75 : decode cX9_fromBy 75 = .ok (.lstore_n 3, 1) := by decide +kernel
theorem dX9_fromBy_76 : decode cX9_fromBy 76 = .ok (.lload_n 3, 1) := by decide +kernel
theorem dX9_fromBy_77 : decode cX9_fromBy 77 = .ok (.aload_n 0, 1) := by decide +kernel
theorem dX9_fromBy_78 : decode cX9_fromBy 78 = .ok (.getfield 126, 3) := by decide +kernel
theorem dX9_fromBy_81 : decode cX9_fromBy 81 = .ok (.aload_n 0, 1) := by decide +kernel
theorem dX9_fromBy_82 : decode cX9_fromBy 82 = .ok (.getfield 130, 3) := by decide +kernel
theorem dX9_fromBy_85 : decode cX9_fromBy 85 = .ok (.ladd, 1) := by decide +kernel
theorem dX9_fromBy_86 : decode cX9_fromBy 86 = .ok (.aload_n 0, 1) := by decide +kernel
theorem dX9_fromBy_87 : decode cX9_fromBy 87 = .ok (.getfield 133, 3) := by decide +kernel
theorem dX9_fromBy_90 : decode cX9_fromBy 90 = .ok (.ladd, 1) := by decide +kernel
theorem dX9_fromBy_91 : decode cX9_fromBy 91 = .ok (.ldiv, 1) := by decide +kernel
theorem dX9_fromBy_92 : decode cX9_fromBy 92 = .ok (.l2i, 1) := by decide +kernel
theorem dX9_fromBy_93 : decode cX9_fromBy 93 = .ok (.ireturn, 1) := by decide +kernel
theorem dX9_from_0 : decode cX9_from 0 = .ok (.aload_n 0, 1) := by decide +kernel
theorem dX9_from_1 : decode cX9_from 1 = .ok (.iconst 0, 1) := by decide +kernel
theorem dX9_from_2 : decode cX9_from 2 = .ok (.putfield 52, 3) := by decide +kernel
theorem dX9_from_5 : decode cX9_from 5 = .ok (.iload_n 1, 1) := by decide +kernel
theorem dX9_from_6 : decode cX9_from 6 = .ok (.iload_n 2, 1) := by decide +kernel
theorem dX9_from_7 : decode cX9_from 7 = .ok (.invokestatic 84, 3) := by decide +kernel
theorem dX9_from_10 : decode cX9_from 10 = .ok (.ifCond .eq 25, 3) := by decide +kernel
theorem dX9_from_13 : decode cX9_from 13 = .ok (.iload_n 3, 1) := by decide +kernel
theorem dX9_from_14 : decode cX9_from 14 = .ok (.iload 4, 2) := by decide +kernel
theorem dX9_from_16 : decode cX9_from 16 = .ok (.invokestatic 92, 3) := by decide +kernel
theorem dX9_from_19 : decode cX9_from 19 = .ok (.ifCond .eq 16, 3) := by decide +kernel
theorem dX9_from_22 : decode cX9_from 22 = .ok (.iload 5, 2) := by decide +kernel
theorem dX9_from_24 : decode cX9_from 24 = .ok (.i2l, 1) := by decide +kernel
theorem dX9_from_25 : decode cX9_from 25 = .ok (.lconst 0, 1) := by decide +kernel
theorem dX9_from_26 : decode cX9_from 26 = .ok (.ldc2_w 139, 3) := by decide +kernel
theorem dX9_from_29 : decode cX9_from 29 = .ok (.invokestatic 62, 3) := by decide +kernel
theorem dX9_from_32 : decode cX9_from 32 = .ok (.ifCond .ne 6, 3) := by decide +kernel
theorem dX9_from_35 : decode cX9_from 35 = .ok (.ldc 72, 2) := by decide +kernel
theorem dX9_from_37 : decode cX9_from 37 = .ok (.ireturn, 1) := by decide +kernel
theorem dX9_from_38 : decode cX9_from 38 = .ok (.aload_n 0, 1) := by decide +kernel
theorem dX9_from_39 : decode cX9_from 39 = .ok (.iload_n 1, 1) := by decide +kernel
theorem dX9_from_40 : decode cX9_from 40 = .ok (.iload_n 2, 1) := by decide +kernel
theorem dX9_from_41 : decode cX9_from 41 = .ok (.iload_n 3, 1) := by decide +kernel
theorem dX9_from_42 : decode cX9_from 42 = .ok (.iload 4, 2) := by decide +kernel
theorem dX9_from_44 : decode cX9_from 44 = .ok (.invokevirtual 136, 3) := by decide +kernel
theorem dX9_from_47 : decode cX9_from 47 = .ok (.istore 6, 2) := by decide +kernel
theorem dX9_from_49 : decode cX9_from 49 = .ok (.iload 6, 2) := by decide +kernel
theorem dX9_from_51 : decode cX9_from 51 = .ok (.ldc 116, 2) := by decide +kernel
theorem dX9_from_53 : decode cX9_from 53 = .ok (.if_icmp .ne 8, 3) := by decide +kernel
theorem dX9_from_56 : decode cX9_from 56 = .ok (.ldc 116, 2) := by decide +kernel
theorem dX9_from_58 : decode cX9_from 58 = .ok (.goto 11, 3) := by decide +kernel
theorem dX9_from_61 : decode cX9_from 61 = .ok (.aload_n 0, 1) := by decide +kernel
theorem dX9_from_62 : decode cX9_from 62 = .ok (.iload 6, 2) := by decide +kernel
theorem dX9_from_64 : decode cX9_from 64 = .ok (.iload 5, 2) := by decide +kernel
theorem dX9_from_66 : decode cX9_from 66 = .ok (.invokevirtual 141, 3) := by decide +kernel
theorem dX9_from_69 : decode cX9_from 69 = .ok (.ireturn, 1) := by decide +kernel
theorem dX9_picture_0 : decode cX9_picture 0 = .ok (.aload_n 0, 1) := by decide +kernel
theorem dX9_picture_1 : decode cX9_picture 1 = .ok (.iconst 0, 1) := by decide +kernel
theorem dX9_picture_2 : decode cX9_picture 2 = .ok (.putfield 52, 3) := by decide +kernel
theorem dX9_picture_5 : decode cX9_picture 5 = .ok (.iload_n 1, 1) := by decide +kernel
theorem dX9_picture_6 : decode cX9_picture 6 = .ok (.i2l, 1) := by decide +kernel
theorem dX9_picture_7 : decode cX9_picture 7 = .ok (.lconst 0, 1) := by decide +kernel
theorem dX9_picture_8 : decode cX9_picture 8 = .ok (.lconst 1, 1) := by decide +kernel
theorem dX9_picture_9 : decode cX9_picture 9 = .ok (.invokestatic 62, 3) := by decide +kernel
theorem dX9_picture_12 : decode cX9_picture 12 = .ok (.ifCond .eq 36, 3) := by decide +kernel
theorem dX9_picture_15 : decode cX9_picture 15 = .ok (.iload_n 2, 1) := by decide +kernel
theorem dX9_picture_16 : decode cX9_picture 16 = .ok (.invokestatic 66, 3) := by decide +kernel
theorem dX9_picture_19 : decode cX9_picture 19 = .ok (.ifCond .eq 29, 3) := by decide +kernel
theorem dX9_picture_22 : decode cX9_picture 22 = .ok (.iload 4, 2) := by decide +kernel
theorem dX9_picture_24 : decode cX9_picture 24 = .ok (.i2l, 1) := by decide +kernel
theorem dX9_picture_25 : decode cX9_picture 25 = .ok (.lconst 1, 1) := by decide +kernel
theorem dX9_picture_26 : decode cX9_picture 26 = .ok (.ldc2_w 144, 3) := by decide +kernel
theorem dX9_picture_29 : decode cX9_picture 29 = .ok (.invokestatic 62, 3) := by decide +kernel
theorem dX9_picture_32 : decode cX9_picture 32 = .ok (.ifCond .eq 16, 3) := by decide +kernel
theorem dX9_picture_35 : decode cX9_picture 35 = .ok (.iload 5, 2) := by decide +kernel
theorem dX9_picture_37 : decode cX9_picture 37 = .ok (.i2l, 1) := by decide +kernel
theorem dX9_picture_38 : decode cX9_picture 38 = .ok (.lconst 1, 1) := by decide +kernel
theorem dX9_picture_39 : decode cX9_picture 39 = .ok (.ldc2_w 144, 3) := by decide +kernel
theorem dX9_picture_42 : decode cX9_picture 42 = .ok (.invokestatic 62, 3) := by decide +kernel
theorem dX9_picture_45 : decode cX9_picture 45 = .ok (.ifCond .ne 6, 3) := by decide +kernel
theorem dX9_picture_48 : decode cX9_picture 48 = .ok (.ldc 72, 2) := by decide +kernel
theorem dX9_picture_50 : decode cX9_picture 50 = .ok (.ireturn, 1) := by decide +kernel
theorem dX9_picture_51 : decode cX9_picture 51 = .ok (.aload_n 0, 1) := by decide +kernel
theorem dX9_picture_52 : decode cX9_picture 52 = .ok (.getfield 7, 3) := by decide +kernel
theorem dX9_picture_55 : decode cX9_picture 55 = .ok (.iload_n 2, 1) := by decide +kernel
theorem dX9_picture_56 : decode cX9_picture 56 = .ok (.iaload, 1) := by decide +kernel
theorem dX9_picture_57 : decode cX9_picture 57 = .ok (.ifCond .ge 9, 3) := by decide +kernel
theorem dX9_picture_60 : decode cX9_picture 60 = .ok (.aload_n 0, 1) := by decide +kernel
theorem dX9_picture_61 : decode cX9_picture 61 = .ok (.iconst 1, 1) := by decide +kernel
theorem dX9_picture_62 : decode cX9_picture 62 = .ok (.invokevirtual 73, 3) := by decide +kernel
theorem dX9_picture_65 : decode cX9_picture 65 = .ok (.ireturn, 1) := by decide +kernel
theorem dX9_picture_66 : decode cX9_picture 66 = .ok (.iload_n 3, 1) := by decide +kernel
theorem dX9_picture_67 : decode cX9_picture 67 = .ok (.ifCond .lt 23, 3) := by decide +kernel
theorem dX9_picture_70 : decode cX9_picture 70 = .ok (.iload_n 3, 1) := by decide +kernel
theorem dX9_picture_71 : decode cX9_picture 71 = .ok (.i2l, 1) := by decide +kernel
theorem dX9_picture_72 : decode cX9_picture 72 = .ok (.iload 4, 2) := by decide +kernel
theorem dX9_picture_74 : decode cX9_picture 74 = .ok (.iload 5, 2) := by decide +kernel
theorem dX9_picture_76 : decode cX9_picture 76 = .ok (.imul, 1) := by decide +kernel
theorem dX9_picture_77 : decode cX9_picture 77 = .ok (.i2l, 1) := by decide +kernel
theorem dX9_picture_78 : decode cX9_picture 78 = .ok (.ladd, 1) := by decide +kernel
theorem dX9_picture_79 : decode cX9_picture 79 = .ok (.aload_n 0, 1) := by decide +kernel
theorem dX9_picture_80 : decode cX9_picture 80 = .ok (.getfield 13, 3) := by decide +kernel
theorem dX9_picture_83 : decode cX9_picture 83 = .ok (.iload_n 2, 1) := by decide +kernel
theorem dX9_picture_84 : decode cX9_picture 84 = .ok (.iaload, 1) := by decide +kernel
theorem dX9_picture_85 : decode cX9_picture 85 = .ok (.i2l, 1) := by decide +kernel
theorem dX9_picture_86 : decode cX9_picture 86 = .ok (.lcmp, 1) := by decide +kernel
theorem dX9_picture_87 : decode cX9_picture 87 = .ok (.ifCond .le 9, 3) := by decide +kernel
theorem dX9_picture_90 : decode cX9_picture 90 = .ok (.aload_n 0, 1) := by decide +kernel
theorem dX9_picture_91 : decode cX9_picture 91 = .ok (.iconst 2, 1) := by decide +kernel
theorem dX9_picture_92 : decode cX9_picture 92 = .ok (.invokevirtual 73, 3) := by decide +kernel
theorem dX9_picture_95 : decode cX9_picture 95 = .ok (.ireturn, 1) := by decide +kernel
theorem dX9_picture_96 : decode cX9_picture 96 = .ok (.iconst 0, 1) := by decide +kernel
theorem dX9_picture_97 : decode cX9_picture 97 = .ok (.istore 6, 2) := by decide +kernel
theorem dX9_picture_99 : decode cX9_picture 99 = .ok (.iload 6, 2) := by decide +kernel
theorem dX9_picture_101 : decode cX9_picture 101 = .ok (.iload 4, 2) := by decide +kernel
theorem dX9_picture_103 : decode cX9_picture 103 = .ok (.iload 5, 2) := by decide +kernel
theorem dX9_picture_105 : decode cX9_picture 105 = .ok (.imul, 1) := by decide +kernel
theorem dX9_picture_106 : decode cX9_picture 106 = .ok (.if_icmp .ge 38, 3) := by decide +kernel
theorem dX9_picture_109 : decode cX9_picture 109 = .ok (.aload_n 0, 1) := by decide +kernel
theorem dX9_picture_110 : decode cX9_picture 110 = .ok (.getfield 16, 3) := by decide +kernel
theorem dX9_picture_113 : decode cX9_picture 113 = .ok (.sipush 144, 3) := by decide +kernel
theorem dX9_picture_116 : decode cX9_picture 116 = .ok (.iload_n 2, 1) := by decide +kernel
theorem dX9_picture_117 : decode cX9_picture 117 = .ok (.imul, 1) := by decide +kernel
theorem dX9_picture_118 : decode cX9_picture 118 = .ok (.iload_n 3, 1) := by decide +kernel
theorem dX9_picture_119 : decode cX9_picture 119 = .ok (.iadd, 1) := by decide +kernel
theorem dX9_picture_120 : decode cX9_picture 120 = .ok (.iload 6, 2) := by decide +kernel
theorem dX9_picture_122 : decode cX9_picture 122 = .ok (.iadd, 1) := by decide +kernel
theorem dX9_picture_123 : decode cX9_picture 123 = .ok (.iaload, 1) := by decide +kernel
theorem dX9_picture_124 : decode cX9_picture 124 = .ok (.i2l, 1) := by decide +kernel
theorem dX9_picture_125 : decode cX9_picture 125 = .ok (.lconst 0, 1) := by decide +kernel
theorem dX9_picture_126 : decode cX9_picture 126 = .ok (.ldc2_w 146, 3) := by decide +kernel
theorem dX9_picture_129 : decode cX9_picture 129 = .ok (.invokestatic 62, 3) := by decide +kernel
theorem dX9_picture_132 : decode cX9_picture 132 = .ok (.ifCond .ne 6, 3) := by decide +kernel
theorem dX9_picture_135 : decode cX9_picture 135 = .ok (.ldc 72, 2) := by decide +kernel
theorem dX9_picture_137 : decode cX9_picture 137 = .ok (.ireturn, 1) := by decide +kernel
theorem dX9_picture_138 : decode cX9_picture 138 = .ok (.iinc 6 1, 3) := by decide +kernel
theorem dX9_picture_141 : decode cX9_picture 141 = .ok (.goto (-42), 3) := by decide +kernel
theorem dX9_picture_144 : decode cX9_picture 144 = .ok (.aload_n 0, 1) := by decide +kernel
theorem dX9_picture_145 : decode cX9_picture 145 = .ok (.iconst 0, 1) := by decide +kernel
theorem dX9_picture_146 : decode cX9_picture 146 = .ok (.putfield 56, 3) := by decide +kernel
theorem dX9_picture_149 : decode cX9_picture 149 = .ok (.aload_n 0, 1) := by decide +kernel
theorem dX9_picture_150 : decode cX9_picture 150 = .ok (.getfield 31, 3) := by decide +kernel
theorem dX9_picture_153 : decode cX9_picture 153 = .ok (.iload_n 1, 1) := by decide +kernel
theorem dX9_picture_154 : decode cX9_picture 154 = .ok (.iload 4, 2) := by decide +kernel
theorem dX9_picture_156 : decode cX9_picture 156 = .ok (.iastore, 1) := by decide +kernel
theorem dX9_picture_157 : decode cX9_picture 157 = .ok (.aload_n 0, 1) := by decide +kernel
theorem dX9_picture_158 : decode cX9_picture 158 = .ok (.getfield 34, 3) := by decide +kernel
theorem dX9_picture_161 : decode cX9_picture 161 = .ok (.iload_n 1, 1) := by decide +kernel
theorem dX9_picture_162 : decode cX9_picture 162 = .ok (.iload 5, 2) := by decide +kernel
theorem dX9_picture_164 : decode cX9_picture 164 = .ok (.iastore, 1) := by decide +kernel
theorem dX9_picture_165 : decode cX9_picture 165 = .ok (.iconst 0, 1) := by decide +kernel
theorem dX9_picture_166 : decode cX9_picture 166 = .ok (.istore 6, 2) := by decide +kernel
theorem dX9_picture_168 : decode cX9_picture 168 = .ok (.iload 6, 2) := by decide +kernel
theorem dX9_picture_170 : decode cX9_picture 170 = .ok (.iload 4, 2) := by decide +kernel
theorem dX9_picture_172 : decode cX9_picture 172 = .ok (.iload 5, 2) := by decide +kernel
theorem dX9_picture_174 : decode cX9_picture 174 = .ok (.imul, 1) := by decide +kernel
theorem dX9_picture_175 : decode cX9_picture 175 = .ok (.if_icmp .ge 37, 3) := by decide +kernel
theorem dX9_picture_178 : decode cX9_picture 178 = .ok (.aload_n 0, 1) := by decide +kernel
theorem dX9_picture_179 : decode cX9_picture 179 = .ok (.getfield 37, 3) := by decide +kernel
theorem dX9_picture_182 : decode cX9_picture 182 = .ok (.sipush 144, 3) := by decide +kernel
theorem dX9_picture_185 : decode cX9_picture 185 = .ok (.iload_n 1, 1) := by decide +kernel
theorem dX9_picture_186 : decode cX9_picture 186 = .ok (.imul, 1) := by decide +kernel
theorem dX9_picture_187 : decode cX9_picture 187 = .ok (.iload 6, 2) := by decide +kernel
theorem dX9_picture_189 : decode cX9_picture 189 = .ok (.iadd, 1) := by decide +kernel
theorem dX9_picture_190 : decode cX9_picture 190 = .ok (.aload_n 0, 1) := by decide +kernel
theorem dX9_picture_191 : decode cX9_picture 191 = .ok (.getfield 16, 3) := by decide +kernel
theorem dX9_picture_194 : decode cX9_picture 194 = .ok (.sipush 144, 3) := by decide +kernel
theorem dX9_picture_197 : decode cX9_picture 197 = .ok (.iload_n 2, 1) := by decide +kernel
theorem dX9_picture_198 : decode cX9_picture 198 = .ok (.imul, 1) := by decide +kernel
theorem dX9_picture_199 : decode cX9_picture 199 = .ok (.iload_n 3, 1) := by decide +kernel
theorem dX9_picture_200 : decode cX9_picture 200 = .ok (.iadd, 1) := by decide +kernel
theorem dX9_picture_201 : decode cX9_picture 201 = .ok (.iload 6, 2) := by decide +kernel
theorem dX9_picture_203 : decode cX9_picture 203 = .ok (.iadd, 1) := by decide +kernel
theorem dX9_picture_204 : decode cX9_picture 204 = .ok (.iaload, 1) := by decide +kernel
theorem dX9_picture_205 : decode cX9_picture 205 = .ok (.iastore, 1) := by decide +kernel
theorem dX9_picture_206 : decode cX9_picture 206 = .ok (.iinc 6 1, 3) := by decide +kernel
theorem dX9_picture_209 : decode cX9_picture 209 = .ok (.goto (-41), 3) := by decide +kernel
theorem dX9_picture_212 : decode cX9_picture 212 = .ok (.iconst 1, 1) := by decide +kernel
theorem dX9_picture_213 : decode cX9_picture 213 = .ok (.ireturn, 1) := by decide +kernel
theorem dX9_numberAt_0 : decode cX9_numberAt 0 = .ok (.aload_n 0, 1) := by decide +kernel
theorem dX9_numberAt_1 : decode cX9_numberAt 1 = .ok (.getfield 37, 3) := by decide +kernel
theorem dX9_numberAt_4 : decode cX9_numberAt 4 = .ok (.sipush 144, 3) := by decide +kernel
theorem dX9_numberAt_7 : decode cX9_numberAt 7 = .ok (.iload_n 1, 1) := by decide +kernel
theorem dX9_numberAt_8 : decode cX9_numberAt 8 = .ok (.imul, 1) := by decide +kernel
theorem dX9_numberAt_9 : decode cX9_numberAt 9 = .ok (.iload_n 3, 1) := by decide +kernel
theorem dX9_numberAt_10 : decode cX9_numberAt 10 = .ok (.aload_n 0, 1) := by decide +kernel
theorem dX9_numberAt_11 : decode cX9_numberAt 11 = .ok (.getfield 34, 3) := by decide +kernel
theorem dX9_numberAt_14 : decode cX9_numberAt 14 = .ok (.iload_n 1, 1) := by decide +kernel
theorem dX9_numberAt_15 : decode cX9_numberAt 15 = .ok (.iaload, 1) := by decide +kernel
theorem dX9_numberAt_16 : decode cX9_numberAt 16 = .ok (.imul, 1) := by decide +kernel
theorem dX9_numberAt_17 : decode cX9_numberAt 17 = .ok (.sipush 1001, 3) := by decide +kernel
theorem dX9_numberAt_20 : decode cX9_numberAt 20 = .ok (.idiv, 1) := by decide +kernel
theorem dX9_numberAt_21 : decode cX9_numberAt 21 = .ok (.aload_n 0, 1) := by decide +kernel
theorem dX9_numberAt_22 : decode cX9_numberAt 22 = .ok (.getfield 31, 3) := by decide +kernel
theorem dX9_numberAt_25 : decode cX9_numberAt 25 = .ok (.iload_n 1, 1) := by decide +kernel
theorem dX9_numberAt_26 : decode cX9_numberAt 26 = .ok (.iaload, 1) := by decide +kernel
theorem dX9_numberAt_27 : decode cX9_numberAt 27 = .ok (.imul, 1) := by decide +kernel
theorem dX9_numberAt_28 : decode cX9_numberAt 28 = .ok (.iadd, 1) := by decide +kernel
theorem dX9_numberAt_29 : decode cX9_numberAt 29 = .ok (.iload_n 2, 1) := by decide +kernel
theorem dX9_numberAt_30 : decode cX9_numberAt 30 = .ok (.aload_n 0, 1) := by decide +kernel
theorem dX9_numberAt_31 : decode cX9_numberAt 31 = .ok (.getfield 31, 3) := by decide +kernel
theorem dX9_numberAt_34 : decode cX9_numberAt 34 = .ok (.iload_n 1, 1) := by decide +kernel
theorem dX9_numberAt_35 : decode cX9_numberAt 35 = .ok (.iaload, 1) := by decide +kernel
theorem dX9_numberAt_36 : decode cX9_numberAt 36 = .ok (.imul, 1) := by decide +kernel
theorem dX9_numberAt_37 : decode cX9_numberAt 37 = .ok (.sipush 1001, 3) := by decide +kernel
theorem dX9_numberAt_40 : decode cX9_numberAt 40 = .ok (.idiv, 1) := by decide +kernel
theorem dX9_numberAt_41 : decode cX9_numberAt 41 = .ok (.iadd, 1) := by decide +kernel
theorem dX9_numberAt_42 : decode cX9_numberAt 42 = .ok (.iaload, 1) := by decide +kernel
theorem dX9_numberAt_43 : decode cX9_numberAt 43 = .ok (.ireturn, 1) := by decide +kernel
theorem dX9_seen_0 : decode cX9_seen 0 = .ok (.aload_n 0, 1) := by decide +kernel
theorem dX9_seen_1 : decode cX9_seen 1 = .ok (.iconst 0, 1) := by decide +kernel
theorem dX9_seen_2 : decode cX9_seen 2 = .ok (.putfield 52, 3) := by decide +kernel
theorem dX9_seen_5 : decode cX9_seen 5 = .ok (.iload_n 1, 1) := by decide +kernel
theorem dX9_seen_6 : decode cX9_seen 6 = .ok (.iload_n 2, 1) := by decide +kernel
theorem dX9_seen_7 : decode cX9_seen 7 = .ok (.invokestatic 84, 3) := by decide +kernel
theorem dX9_seen_10 : decode cX9_seen 10 = .ok (.ifCond .eq 12, 3) := by decide +kernel
theorem dX9_seen_13 : decode cX9_seen 13 = .ok (.iload_n 3, 1) := by decide +kernel
theorem dX9_seen_14 : decode cX9_seen 14 = .ok (.iload 4, 2) := by decide +kernel
theorem dX9_seen_16 : decode cX9_seen 16 = .ok (.invokestatic 92, 3) := by decide +kernel
theorem dX9_seen_19 : decode cX9_seen 19 = .ok (.ifCond .ne 6, 3) := by decide +kernel
theorem dX9_seen_22 : decode cX9_seen 22 = .ok (.ldc 72, 2) := by decide +kernel
theorem dX9_seen_24 : decode cX9_seen 24 = .ok (.ireturn, 1) := by decide +kernel
theorem dX9_seen_25 : decode cX9_seen 25 = .ok (.aload_n 0, 1) := by decide +kernel
theorem dX9_seen_26 : decode cX9_seen 26 = .ok (.getfield 31, 3) := by decide +kernel
theorem dX9_seen_29 : decode cX9_seen 29 = .ok (.iconst 0, 1) := by decide +kernel
theorem dX9_seen_30 : decode cX9_seen 30 = .ok (.iaload, 1) := by decide +kernel
theorem dX9_seen_31 : decode cX9_seen 31 = .ok (.ifCond .eq 12, 3) := by decide +kernel
theorem dX9_seen_34 : decode cX9_seen 34 = .ok (.aload_n 0, 1) := by decide +kernel
theorem dX9_seen_35 : decode cX9_seen 35 = .ok (.getfield 31, 3) := by decide +kernel
theorem dX9_seen_38 : decode cX9_seen 38 = .ok (.iconst 1, 1) := by decide +kernel
theorem dX9_seen_39 : decode cX9_seen 39 = .ok (.iaload, 1) := by decide +kernel
theorem dX9_seen_40 : decode cX9_seen 40 = .ok (.ifCond .ne 6, 3) := by decide +kernel
theorem dX9_seen_43 : decode cX9_seen 43 = .ok (.ldc 102, 2) := by decide +kernel
theorem dX9_seen_45 : decode cX9_seen 45 = .ok (.ireturn, 1) := by decide +kernel
theorem dX9_seen_46 : decode cX9_seen 46 = .ok (.aload_n 0, 1) := by decide +kernel
theorem dX9_seen_47 : decode cX9_seen 47 = .ok (.iload_n 1, 1) := by decide +kernel
theorem dX9_seen_48 : decode cX9_seen 48 = .ok (.iload_n 2, 1) := by decide +kernel
theorem dX9_seen_49 : decode cX9_seen 49 = .ok (.iload_n 3, 1) := by decide +kernel
theorem dX9_seen_50 : decode cX9_seen 50 = .ok (.iload 4, 2) := by decide +kernel
theorem dX9_seen_52 : decode cX9_seen 52 = .ok (.invokevirtual 136, 3) := by decide +kernel
theorem dX9_seen_55 : decode cX9_seen 55 = .ok (.istore 5, 2) := by decide +kernel
theorem dX9_seen_57 : decode cX9_seen 57 = .ok (.iload 5, 2) := by decide +kernel
theorem dX9_seen_59 : decode cX9_seen 59 = .ok (.ldc 116, 2) := by decide +kernel
theorem dX9_seen_61 : decode cX9_seen 61 = .ok (.if_icmp .ne 6, 3) := by decide +kernel
theorem dX9_seen_64 : decode cX9_seen 64 = .ok (.ldc 116, 2) := by decide +kernel
theorem dX9_seen_66 : decode cX9_seen 66 = .ok (.ireturn, 1) := by decide +kernel
theorem dX9_seen_67 : decode cX9_seen 67 = .ok (.aload_n 0, 1) := by decide +kernel
theorem dX9_seen_68 : decode cX9_seen 68 = .ok (.iconst 0, 1) := by decide +kernel
theorem dX9_seen_69 : decode cX9_seen 69 = .ok (.aload_n 0, 1) := by decide +kernel
theorem dX9_seen_70 : decode cX9_seen 70 = .ok (.iload 5, 2) := by decide +kernel
theorem dX9_seen_72 : decode cX9_seen 72 = .ok (.iconst 0, 1) := by decide +kernel
theorem dX9_seen_73 : decode cX9_seen 73 = .ok (.invokevirtual 141, 3) := by decide +kernel
theorem dX9_seen_76 : decode cX9_seen 76 = .ok (.aload_n 0, 1) := by decide +kernel
theorem dX9_seen_77 : decode cX9_seen 77 = .ok (.iload 5, 2) := by decide +kernel
theorem dX9_seen_79 : decode cX9_seen 79 = .ok (.iconst 1, 1) := by decide +kernel
theorem dX9_seen_80 : decode cX9_seen 80 = .ok (.invokevirtual 141, 3) := by decide +kernel
theorem dX9_seen_83 : decode cX9_seen 83 = .ok (.invokevirtual 148, 3) := by decide +kernel
theorem dX9_seen_86 : decode cX9_seen 86 = .ok (.istore 6, 2) := by decide +kernel
theorem dX9_seen_88 : decode cX9_seen 88 = .ok (.aload_n 0, 1) := by decide +kernel
theorem dX9_seen_89 : decode cX9_seen 89 = .ok (.iconst 1, 1) := by decide +kernel
theorem dX9_seen_90 : decode cX9_seen 90 = .ok (.aload_n 0, 1) := by decide +kernel
theorem dX9_seen_91 : decode cX9_seen 91 = .ok (.iload 5, 2) := by decide +kernel
theorem dX9_seen_93 : decode cX9_seen 93 = .ok (.iconst 2, 1) := by decide +kernel
theorem dX9_seen_94 : decode cX9_seen 94 = .ok (.invokevirtual 141, 3) := by decide +kernel
theorem dX9_seen_97 : decode cX9_seen 97 = .ok (.aload_n 0, 1) := by decide +kernel
theorem dX9_seen_98 : decode cX9_seen 98 = .ok (.iload 5, 2) := by decide +kernel
theorem dX9_seen_100 : decode cX9_seen 100 = .ok (.iconst 3, 1) := by decide +kernel
theorem dX9_seen_101 : decode cX9_seen 101 = .ok (.invokevirtual 141, 3) := by decide +kernel
theorem dX9_seen_104 : decode cX9_seen 104 = .ok (.invokevirtual 148, 3) := by decide +kernel
theorem dX9_seen_107 : decode cX9_seen 107 = .ok (.istore 7, 2) := by decide +kernel
theorem dX9_seen_109 : decode cX9_seen 109 = .ok (.iload 4, 2) := by decide +kernel
theorem dX9_seen_111 : decode cX9_seen 111 = .ok (.iload_n 3, 1) := by decide +kernel
theorem dX9_seen_112 : decode cX9_seen 112 = .ok (.isub, 1) := by decide +kernel
theorem dX9_seen_113 : decode cX9_seen 113 = .ok (.iload 6, 2) := by decide +kernel
theorem dX9_seen_115 : decode cX9_seen 115 = .ok (.imul, 1) := by decide +kernel
theorem dX9_seen_116 : decode cX9_seen 116 = .ok (.iload_n 3, 1) := by decide +kernel
theorem dX9_seen_117 : decode cX9_seen 117 = .ok (.iload 7, 2) := by decide +kernel
theorem dX9_seen_119 : decode cX9_seen 119 = .ok (.imul, 1) := by decide +kernel
theorem dX9_seen_120 : decode cX9_seen 120 = .ok (.iadd, 1) := by decide +kernel
theorem dX9_seen_121 : decode cX9_seen 121 = .ok (.iload 4, 2) := by decide +kernel
theorem dX9_seen_123 : decode cX9_seen 123 = .ok (.idiv, 1) := by decide +kernel
theorem dX9_seen_124 : decode cX9_seen 124 = .ok (.ireturn, 1) := by decide +kernel
theorem dX9_size_0 : decode cX9_size 0 = .ok (.iload_n 0, 1) := by decide +kernel
theorem dX9_size_1 : decode cX9_size 1 = .ok (.ifCond .ge 8, 3) := by decide +kernel
theorem dX9_size_4 : decode cX9_size 4 = .ok (.iload_n 0, 1) := by decide +kernel
theorem dX9_size_5 : decode cX9_size 5 = .ok (.ineg, 1) := by decide +kernel
theorem dX9_size_6 : decode cX9_size 6 = .ok (.goto 4, 3) := by decide +kernel
theorem dX9_size_9 : decode cX9_size 9 = .ok (.iload_n 0, 1) := by decide +kernel
theorem dX9_size_10 : decode cX9_size 10 = .ok (.ireturn, 1) := by decide +kernel
theorem dX9_apart_0 : decode cX9_apart 0 = .ok (.aload_n 0, 1) := by decide +kernel
theorem dX9_apart_1 : decode cX9_apart 1 = .ok (.getfield 16, 3) := by decide +kernel
theorem dX9_apart_4 : decode cX9_apart 4 = .ok (.sipush 144, 3) := by decide +kernel
theorem dX9_apart_7 : decode cX9_apart 7 = .ok (.iload_n 1, 1) := by decide +kernel
theorem dX9_apart_8 : decode cX9_apart 8 = .ok (.imul, 1) := by decide +kernel
theorem dX9_apart_9 : decode cX9_apart 9 = .ok (.iconst 2, 1) := by decide +kernel
theorem dX9_apart_10 : decode cX9_apart 10 = .ok (.iload_n 2, 1) := by decide +kernel
theorem dX9_apart_11 : decode cX9_apart 11 = .ok (.imul, 1) := by decide +kernel
theorem dX9_apart_12 : decode cX9_apart 12 = .ok (.iadd, 1) := by decide +kernel
theorem dX9_apart_13 : decode cX9_apart 13 = .ok (.iaload, 1) := by decide +kernel
theorem dX9_apart_14 : decode cX9_apart 14 = .ok (.aload_n 0, 1) := by decide +kernel
theorem dX9_apart_15 : decode cX9_apart 15 = .ok (.getfield 16, 3) := by decide +kernel
theorem dX9_apart_18 : decode cX9_apart 18 = .ok (.sipush 144, 3) := by decide +kernel
theorem dX9_apart_21 : decode cX9_apart 21 = .ok (.iload_n 3, 1) := by decide +kernel
theorem dX9_apart_22 : decode cX9_apart 22 = .ok (.imul, 1) := by decide +kernel
theorem dX9_apart_23 : decode cX9_apart 23 = .ok (.iconst 2, 1) := by decide +kernel
theorem dX9_apart_24 : decode cX9_apart 24 = .ok (.iload 4, 2) := by decide +kernel
theorem dX9_apart_26 : decode cX9_apart 26 = .ok (.imul, 1) := by decide +kernel
theorem dX9_apart_27 : decode cX9_apart 27 = .ok (.iadd, 1) := by decide +kernel
theorem dX9_apart_28 : decode cX9_apart 28 = .ok (.iaload, 1) := by decide +kernel
theorem dX9_apart_29 : decode cX9_apart 29 = .ok (.isub, 1) := by decide +kernel
theorem dX9_apart_30 : decode cX9_apart 30 = .ok (.invokestatic 152, 3) := by decide +kernel
theorem dX9_apart_33 : decode cX9_apart 33 = .ok (.aload_n 0, 1) := by decide +kernel
theorem dX9_apart_34 : decode cX9_apart 34 = .ok (.getfield 16, 3) := by decide +kernel
theorem dX9_apart_37 : decode cX9_apart 37 = .ok (.sipush 144, 3) := by decide +kernel
theorem dX9_apart_40 : decode cX9_apart 40 = .ok (.iload_n 1, 1) := by decide +kernel
theorem dX9_apart_41 : decode cX9_apart 41 = .ok (.imul, 1) := by decide +kernel
theorem dX9_apart_42 : decode cX9_apart 42 = .ok (.iconst 2, 1) := by decide +kernel
theorem dX9_apart_43 : decode cX9_apart 43 = .ok (.iload_n 2, 1) := by decide +kernel
theorem dX9_apart_44 : decode cX9_apart 44 = .ok (.imul, 1) := by decide +kernel
theorem dX9_apart_45 : decode cX9_apart 45 = .ok (.iadd, 1) := by decide +kernel
theorem dX9_apart_46 : decode cX9_apart 46 = .ok (.iconst 1, 1) := by decide +kernel
theorem dX9_apart_47 : decode cX9_apart 47 = .ok (.iadd, 1) := by decide +kernel
theorem dX9_apart_48 : decode cX9_apart 48 = .ok (.iaload, 1) := by decide +kernel
theorem dX9_apart_49 : decode cX9_apart 49 = .ok (.aload_n 0, 1) := by decide +kernel
theorem dX9_apart_50 : decode cX9_apart 50 = .ok (.getfield 16, 3) := by decide +kernel
theorem dX9_apart_53 : decode cX9_apart 53 = .ok (.sipush 144, 3) := by decide +kernel
theorem dX9_apart_56 : decode cX9_apart 56 = .ok (.iload_n 3, 1) := by decide +kernel
theorem dX9_apart_57 : decode cX9_apart 57 = .ok (.imul, 1) := by decide +kernel
theorem dX9_apart_58 : decode cX9_apart 58 = .ok (.iconst 2, 1) := by decide +kernel
theorem dX9_apart_59 : decode cX9_apart 59 = .ok (.iload 4, 2) := by decide +kernel
theorem dX9_apart_61 : decode cX9_apart 61 = .ok (.imul, 1) := by decide +kernel
theorem dX9_apart_62 : decode cX9_apart 62 = .ok (.iadd, 1) := by decide +kernel
theorem dX9_apart_63 : decode cX9_apart 63 = .ok (.iconst 1, 1) := by decide +kernel
theorem dX9_apart_64 : decode cX9_apart 64 = .ok (.iadd, 1) := by decide +kernel
theorem dX9_apart_65 : decode cX9_apart 65 = .ok (.iaload, 1) := by decide +kernel
theorem dX9_apart_66 : decode cX9_apart 66 = .ok (.isub, 1) := by decide +kernel
theorem dX9_apart_67 : decode cX9_apart 67 = .ok (.invokestatic 152, 3) := by decide +kernel
theorem dX9_apart_70 : decode cX9_apart 70 = .ok (.iadd, 1) := by decide +kernel
theorem dX9_apart_71 : decode cX9_apart 71 = .ok (.ireturn, 1) := by decide +kernel
theorem dX9_look_0 : decode cX9_look 0 = .ok (.iload_n 1, 1) := by decide +kernel
theorem dX9_look_1 : decode cX9_look 1 = .ok (.invokestatic 66, 3) := by decide +kernel
theorem dX9_look_4 : decode cX9_look 4 = .ok (.ifCond .eq 35, 3) := by decide +kernel
theorem dX9_look_7 : decode cX9_look 7 = .ok (.iload_n 3, 1) := by decide +kernel
theorem dX9_look_8 : decode cX9_look 8 = .ok (.invokestatic 66, 3) := by decide +kernel
theorem dX9_look_11 : decode cX9_look 11 = .ok (.ifCond .eq 28, 3) := by decide +kernel
theorem dX9_look_14 : decode cX9_look 14 = .ok (.iload_n 2, 1) := by decide +kernel
theorem dX9_look_15 : decode cX9_look 15 = .ok (.i2l, 1) := by decide +kernel
theorem dX9_look_16 : decode cX9_look 16 = .ok (.lconst 1, 1) := by decide +kernel
theorem dX9_look_17 : decode cX9_look 17 = .ok (.ldc2_w 155, 3) := by decide +kernel
theorem dX9_look_20 : decode cX9_look 20 = .ok (.invokestatic 62, 3) := by decide +kernel
theorem dX9_look_23 : decode cX9_look 23 = .ok (.ifCond .eq 16, 3) := by decide +kernel
theorem dX9_look_26 : decode cX9_look 26 = .ok (.iload 4, 2) := by decide +kernel
theorem dX9_look_28 : decode cX9_look 28 = .ok (.i2l, 1) := by decide +kernel
theorem dX9_look_29 : decode cX9_look 29 = .ok (.lconst 1, 1) := by decide +kernel
theorem dX9_look_30 : decode cX9_look 30 = .ok (.ldc2_w 155, 3) := by decide +kernel
theorem dX9_look_33 : decode cX9_look 33 = .ok (.invokestatic 62, 3) := by decide +kernel
theorem dX9_look_36 : decode cX9_look 36 = .ok (.ifCond .ne 6, 3) := by decide +kernel
theorem dX9_look_39 : decode cX9_look 39 = .ok (.ldc 72, 2) := by decide +kernel
theorem dX9_look_41 : decode cX9_look 41 = .ok (.ireturn, 1) := by decide +kernel
theorem dX9_look_42 : decode cX9_look 42 = .ok (.aload_n 0, 1) := by decide +kernel
theorem dX9_look_43 : decode cX9_look 43 = .ok (.getfield 7, 3) := by decide +kernel
theorem dX9_look_46 : decode cX9_look 46 = .ok (.iload_n 1, 1) := by decide +kernel
theorem dX9_look_47 : decode cX9_look 47 = .ok (.iaload, 1) := by decide +kernel
theorem dX9_look_48 : decode cX9_look 48 = .ok (.ifCond .lt 12, 3) := by decide +kernel
theorem dX9_look_51 : decode cX9_look 51 = .ok (.aload_n 0, 1) := by decide +kernel
theorem dX9_look_52 : decode cX9_look 52 = .ok (.getfield 7, 3) := by decide +kernel
theorem dX9_look_55 : decode cX9_look 55 = .ok (.iload_n 3, 1) := by decide +kernel
theorem dX9_look_56 : decode cX9_look 56 = .ok (.iaload, 1) := by decide +kernel
theorem dX9_look_57 : decode cX9_look 57 = .ok (.ifCond .ge 9, 3) := by decide +kernel
theorem dX9_look_60 : decode cX9_look 60 = .ok (.aload_n 0, 1) := by decide +kernel
theorem dX9_look_61 : decode cX9_look 61 = .ok (.iconst 1, 1) := by decide +kernel
theorem dX9_look_62 : decode cX9_look 62 = .ok (.invokevirtual 73, 3) := by decide +kernel
theorem dX9_look_65 : decode cX9_look 65 = .ok (.ireturn, 1) := by decide +kernel
theorem dX9_look_66 : decode cX9_look 66 = .ok (.iconst 2, 1) := by decide +kernel
theorem dX9_look_67 : decode cX9_look 67 = .ok (.iload_n 2, 1) := by decide +kernel
theorem dX9_look_68 : decode cX9_look 68 = .ok (.imul, 1) := by decide +kernel
theorem dX9_look_69 : decode cX9_look 69 = .ok (.aload_n 0, 1) := by decide +kernel
theorem dX9_look_70 : decode cX9_look 70 = .ok (.getfield 13, 3) := by decide +kernel
theorem dX9_look_73 : decode cX9_look 73 = .ok (.iload_n 1, 1) := by decide +kernel
theorem dX9_look_74 : decode cX9_look 74 = .ok (.iaload, 1) := by decide +kernel
theorem dX9_look_75 : decode cX9_look 75 = .ok (.if_icmp .gt 16, 3) := by decide +kernel
theorem dX9_look_78 : decode cX9_look 78 = .ok (.iconst 2, 1) := by decide +kernel
theorem dX9_look_79 : decode cX9_look 79 = .ok (.iload 4, 2) := by decide +kernel
theorem dX9_look_81 : decode cX9_look 81 = .ok (.imul, 1) := by decide +kernel
theorem dX9_look_82 : decode cX9_look 82 = .ok (.aload_n 0, 1) := by decide +kernel
theorem dX9_look_83 : decode cX9_look 83 = .ok (.getfield 13, 3) := by decide +kernel
theorem dX9_look_86 : decode cX9_look 86 = .ok (.iload_n 3, 1) := by decide +kernel
theorem dX9_look_87 : decode cX9_look 87 = .ok (.iaload, 1) := by decide +kernel
theorem dX9_look_88 : decode cX9_look 88 = .ok (.if_icmp .le 9, 3) := by decide +kernel
theorem dX9_look_91 : decode cX9_look 91 = .ok (.aload_n 0, 1) := by decide +kernel
theorem dX9_look_92 : decode cX9_look 92 = .ok (.iconst 2, 1) := by decide +kernel
theorem dX9_look_93 : decode cX9_look 93 = .ok (.invokevirtual 73, 3) := by decide +kernel
theorem dX9_look_96 : decode cX9_look 96 = .ok (.ireturn, 1) := by decide +kernel
theorem dX9_look_97 : decode cX9_look 97 = .ok (.iconst 0, 1) := by decide +kernel
theorem dX9_look_98 : decode cX9_look 98 = .ok (.istore 5, 2) := by decide +kernel
theorem dX9_look_100 : decode cX9_look 100 = .ok (.iload 5, 2) := by decide +kernel
theorem dX9_look_102 : decode cX9_look 102 = .ok (.iconst 2, 1) := by decide +kernel
theorem dX9_look_103 : decode cX9_look 103 = .ok (.iload_n 2, 1) := by decide +kernel
theorem dX9_look_104 : decode cX9_look 104 = .ok (.imul, 1) := by decide +kernel
theorem dX9_look_105 : decode cX9_look 105 = .ok (.if_icmp .ge 36, 3) := by decide +kernel
theorem dX9_look_108 : decode cX9_look 108 = .ok (.aload_n 0, 1) := by decide +kernel
theorem dX9_look_109 : decode cX9_look 109 = .ok (.getfield 16, 3) := by decide +kernel
theorem dX9_look_112 : decode cX9_look 112 = .ok (.sipush 144, 3) := by decide +kernel
theorem dX9_look_115 : decode cX9_look 115 = .ok (.iload_n 1, 1) := by decide +kernel
theorem dX9_look_116 : decode cX9_look 116 = .ok (.imul, 1) := by decide +kernel
theorem dX9_look_117 : decode cX9_look 117 = .ok (.iload 5, 2) := by decide +kernel
theorem dX9_look_119 : decode cX9_look 119 = .ok (.iadd, 1) := by decide +kernel
theorem dX9_look_120 : decode cX9_look 120 = .ok (.iaload, 1) := by decide +kernel
theorem dX9_look_121 : decode cX9_look 121 = .ok (.i2l, 1) := by decide +kernel
theorem dX9_look_122 : decode cX9_look 122 = .ok (.lconst 0, 1) := by decide +kernel
theorem dX9_look_123 : decode cX9_look 123 = .ok (.ldc2_w 80, 3) := by decide +kernel
theorem dX9_look_126 : decode cX9_look 126 = .ok (.invokestatic 62, 3) := by decide +kernel
theorem dX9_look_129 : decode cX9_look 129 = .ok (.ifCond .ne 6, 3) := by decide +kernel
theorem dX9_look_132 : decode cX9_look 132 = .ok (.ldc 72, 2) := by decide +kernel
theorem dX9_look_134 : decode cX9_look 134 = .ok (.ireturn, 1) := by decide +kernel
theorem dX9_look_135 : decode cX9_look 135 = .ok (.iinc 5 1, 3) := by decide +kernel
theorem dX9_look_138 : decode cX9_look 138 = .ok (.goto (-38), 3) := by decide +kernel
theorem dX9_look_141 : decode cX9_look 141 = .ok (.iconst 0, 1) := by decide +kernel
theorem dX9_look_142 : decode cX9_look 142 = .ok (.istore 5, 2) := by decide +kernel
theorem dX9_look_144 : decode cX9_look 144 = .ok (.iload 5, 2) := by decide +kernel
theorem dX9_look_146 : decode cX9_look 146 = .ok (.iconst 2, 1) := by decide +kernel
theorem dX9_look_147 : decode cX9_look 147 = .ok (.iload 4, 2) := by decide +kernel
theorem dX9_look_149 : decode cX9_look 149 = .ok (.imul, 1) := by decide +kernel
theorem dX9_look_150 : decode cX9_look 150 = .ok (.if_icmp .ge 36, 3) := by decide +kernel
theorem dX9_look_153 : decode cX9_look 153 = .ok (.aload_n 0, 1) := by decide +kernel
theorem dX9_look_154 : decode cX9_look 154 = .ok (.getfield 16, 3) := by decide +kernel
theorem dX9_look_157 : decode cX9_look 157 = .ok (.sipush 144, 3) := by decide +kernel
theorem dX9_look_160 : decode cX9_look 160 = .ok (.iload_n 3, 1) := by decide +kernel
theorem dX9_look_161 : decode cX9_look 161 = .ok (.imul, 1) := by decide +kernel
theorem dX9_look_162 : decode cX9_look 162 = .ok (.iload 5, 2) := by decide +kernel
theorem dX9_look_164 : decode cX9_look 164 = .ok (.iadd, 1) := by decide +kernel
theorem dX9_look_165 : decode cX9_look 165 = .ok (.iaload, 1) := by decide +kernel
theorem dX9_look_166 : decode cX9_look 166 = .ok (.i2l, 1) := by decide +kernel
theorem dX9_look_167 : decode cX9_look 167 = .ok (.lconst 0, 1) := by decide +kernel
theorem dX9_look_168 : decode cX9_look 168 = .ok (.ldc2_w 80, 3) := by decide +kernel
theorem dX9_look_171 : decode cX9_look 171 = .ok (.invokestatic 62, 3) := by decide +kernel
theorem dX9_look_174 : decode cX9_look 174 = .ok (.ifCond .ne 6, 3) := by decide +kernel
theorem dX9_look_177 : decode cX9_look 177 = .ok (.ldc 72, 2) := by decide +kernel
theorem dX9_look_179 : decode cX9_look 179 = .ok (.ireturn, 1) := by decide +kernel
theorem dX9_look_180 : decode cX9_look 180 = .ok (.iinc 5 1, 3) := by decide +kernel
theorem dX9_look_183 : decode cX9_look 183 = .ok (.goto (-39), 3) := by decide +kernel
theorem dX9_look_186 : decode cX9_look 186 = .ok (.aload_n 0, 1) := by decide +kernel
theorem dX9_look_187 : decode cX9_look 187 = .ok (.iconst 0, 1) := by decide +kernel
theorem dX9_look_188 : decode cX9_look 188 = .ok (.putfield 56, 3) := by decide +kernel
theorem dX9_look_191 : decode cX9_look 191 = .ok (.iconst 0, 1) := by decide +kernel
theorem dX9_look_192 : decode cX9_look 192 = .ok (.ireturn, 1) := by decide +kernel
theorem dX9_findPairs_0 : decode cX9_findPairs 0 = .ok (.iconst 0, 1) := by decide +kernel
theorem dX9_findPairs_1 : decode cX9_findPairs 1 = .ok (.istore 5, 2) := by decide +kernel
theorem dX9_findPairs_3 : decode cX9_findPairs 3 = .ok (.iload 5, 2) := by decide +kernel
theorem dX9_findPairs_5 : decode cX9_findPairs 5 = .ok (.iload_n 2, 1) := by decide +kernel
theorem dX9_findPairs_6 : decode cX9_findPairs 6 = .ok (.if_icmp .ge 182, 3) := by decide +kernel
theorem dX9_findPairs_9 : decode cX9_findPairs 9 = .ok (.iconst 0, 1) := by decide +kernel
theorem dX9_findPairs_10 : decode cX9_findPairs 10 = .ok (.istore 6, 2) := by decide +kernel
theorem dX9_findPairs_12 : decode cX9_findPairs 12 = .ok (.iload 6, 2) := by decide +kernel
theorem dX9_findPairs_14 : decode cX9_findPairs 14 = .ok (.iload 4, 2) := by decide +kernel
theorem dX9_findPairs_16 : decode cX9_findPairs 16 = .ok (.if_icmp .ge 166, 3) := by decide +kernel
theorem dX9_findPairs_19 : decode cX9_findPairs 19 = .ok (.iload 5, 2) := by decide +kernel
theorem dX9_findPairs_21 : decode cX9_findPairs 21 = .ok (.ifCond .ne 12, 3) := by decide +kernel
theorem dX9_findPairs_24 : decode cX9_findPairs 24 = .ok (.iload 6, 2) := by decide +kernel
theorem dX9_findPairs_26 : decode cX9_findPairs 26 = .ok (.ifCond .ne 7, 3) := by decide +kernel
theorem dX9_findPairs_29 : decode cX9_findPairs 29 = .ok (.iconst 0, 1) := by decide +kernel
theorem dX9_findPairs_30 : decode cX9_findPairs 30 = .ok (.goto 5, 3) := by decide +kernel
theorem dX9_findPairs_33 : decode cX9_findPairs 33 = .ok (.ldc 157, 2) := by decide +kernel
theorem dX9_findPairs_35 : decode cX9_findPairs 35 = .ok (.istore 7, 2) := by decide +kernel
theorem dX9_findPairs_37 : decode cX9_findPairs 37 = .ok (.iload 5, 2) := by decide +kernel
theorem dX9_findPairs_39 : decode cX9_findPairs 39 = .ok (.ifCond .le 27, 3) := by decide +kernel
theorem dX9_findPairs_42 : decode cX9_findPairs 42 = .ok (.iload 6, 2) := by decide +kernel
theorem dX9_findPairs_44 : decode cX9_findPairs 44 = .ok (.ifCond .le 22, 3) := by decide +kernel
theorem dX9_findPairs_47 : decode cX9_findPairs 47 = .ok (.aload_n 0, 1) := by decide +kernel
theorem dX9_findPairs_48 : decode cX9_findPairs 48 = .ok (.getfield 40, 3) := by decide +kernel
theorem dX9_findPairs_51 : decode cX9_findPairs 51 = .ok (.bipush 30, 2) := by decide +kernel
theorem dX9_findPairs_53 : decode cX9_findPairs 53 = .ok (.iload 5, 2) := by decide +kernel
theorem dX9_findPairs_55 : decode cX9_findPairs 55 = .ok (.iconst 1, 1) := by decide +kernel
theorem dX9_findPairs_56 : decode cX9_findPairs 56 = .ok (.isub, 1) := by decide +kernel
theorem dX9_findPairs_57 : decode cX9_findPairs 57 = .ok (.imul, 1) := by decide +kernel
theorem dX9_findPairs_58 : decode cX9_findPairs 58 = .ok (.iload 6, 2) := by decide +kernel
theorem dX9_findPairs_60 : decode cX9_findPairs 60 = .ok (.iadd, 1) := by decide +kernel
theorem dX9_findPairs_61 : decode cX9_findPairs 61 = .ok (.iconst 1, 1) := by decide +kernel
theorem dX9_findPairs_62 : decode cX9_findPairs 62 = .ok (.isub, 1) := by decide +kernel
theorem dX9_findPairs_63 : decode cX9_findPairs 63 = .ok (.iaload, 1) := by decide +kernel
theorem dX9_findPairs_64 : decode cX9_findPairs 64 = .ok (.istore 7, 2) := by decide +kernel
theorem dX9_findPairs_66 : decode cX9_findPairs 66 = .ok (.iload 5, 2) := by decide +kernel
theorem dX9_findPairs_68 : decode cX9_findPairs 68 = .ok (.ifCond .le 40, 3) := by decide +kernel
theorem dX9_findPairs_71 : decode cX9_findPairs 71 = .ok (.aload_n 0, 1) := by decide +kernel
theorem dX9_findPairs_72 : decode cX9_findPairs 72 = .ok (.getfield 40, 3) := by decide +kernel
theorem dX9_findPairs_75 : decode cX9_findPairs 75 = .ok (.bipush 30, 2) := by decide +kernel
theorem dX9_findPairs_77 : decode cX9_findPairs 77 = .ok (.iload 5, 2) := by decide +kernel
theorem dX9_findPairs_79 : decode cX9_findPairs 79 = .ok (.iconst 1, 1) := by decide +kernel
theorem dX9_findPairs_80 : decode cX9_findPairs 80 = .ok (.isub, 1) := by decide +kernel
theorem dX9_findPairs_81 : decode cX9_findPairs 81 = .ok (.imul, 1) := by decide +kernel
theorem dX9_findPairs_82 : decode cX9_findPairs 82 = .ok (.iload 6, 2) := by decide +kernel
theorem dX9_findPairs_84 : decode cX9_findPairs 84 = .ok (.iadd, 1) := by decide +kernel
theorem dX9_findPairs_85 : decode cX9_findPairs 85 = .ok (.iaload, 1) := by decide +kernel
theorem dX9_findPairs_86 : decode cX9_findPairs 86 = .ok (.iload 7, 2) := by decide +kernel
theorem dX9_findPairs_88 : decode cX9_findPairs 88 = .ok (.if_icmp .ge 20, 3) := by decide +kernel
theorem dX9_findPairs_91 : decode cX9_findPairs 91 = .ok (.aload_n 0, 1) := by decide +kernel
theorem dX9_findPairs_92 : decode cX9_findPairs 92 = .ok (.getfield 40, 3) := by decide +kernel
theorem dX9_findPairs_95 : decode cX9_findPairs 95 = .ok (.bipush 30, 2) := by decide +kernel
theorem dX9_findPairs_97 : decode cX9_findPairs 97 = .ok (.iload 5, 2) := by decide +kernel
theorem dX9_findPairs_99 : decode cX9_findPairs 99 = .ok (.iconst 1, 1) := by decide +kernel
theorem dX9_findPairs_100 : decode cX9_findPairs 100 = .ok (.isub, 1) := by decide +kernel
theorem dX9_findPairs_101 : decode cX9_findPairs 101 = .ok (.imul, 1) := by decide +kernel
theorem dX9_findPairs_102 : decode cX9_findPairs 102 = .ok (.iload 6, 2) := by decide +kernel
theorem dX9_findPairs_104 : decode cX9_findPairs 104 = .ok (.iadd, 1) := by decide +kernel
theorem dX9_findPairs_105 : decode cX9_findPairs 105 = .ok (.iaload, 1) := by decide +kernel
theorem dX9_findPairs_106 : decode cX9_findPairs 106 = .ok (.istore 7, 2) := by decide +kernel
theorem dX9_findPairs_108 : decode cX9_findPairs 108 = .ok (.iload 6, 2) := by decide +kernel
theorem dX9_findPairs_110 : decode cX9_findPairs 110 = .ok (.ifCond .le 40, 3) := by decide +kernel
theorem dX9_findPairs_113 : decode cX9_findPairs 113 = .ok (.aload_n 0, 1) := by decide +kernel
theorem dX9_findPairs_114 : decode cX9_findPairs 114 = .ok (.getfield 40, 3) := by decide +kernel
theorem dX9_findPairs_117 : decode cX9_findPairs 117 = .ok (.bipush 30, 2) := by decide +kernel
theorem dX9_findPairs_119 : decode cX9_findPairs 119 = .ok (.iload 5, 2) := by decide +kernel
theorem dX9_findPairs_121 : decode cX9_findPairs 121 = .ok (.imul, 1) := by decide +kernel
theorem dX9_findPairs_122 : decode cX9_findPairs 122 = .ok (.iload 6, 2) := by decide +kernel
theorem dX9_findPairs_124 : decode cX9_findPairs 124 = .ok (.iadd, 1) := by decide +kernel
theorem dX9_findPairs_125 : decode cX9_findPairs 125 = .ok (.iconst 1, 1) := by decide +kernel
theorem dX9_findPairs_126 : decode cX9_findPairs 126 = .ok (.isub, 1) := by decide +kernel
theorem dX9_findPairs_127 : decode cX9_findPairs 127 = .ok (.iaload, 1) := by decide +kernel
theorem dX9_findPairs_128 : decode cX9_findPairs 128 = .ok (.iload 7, 2) := by decide +kernel
theorem dX9_findPairs_130 : decode cX9_findPairs 130 = .ok (.if_icmp .ge 20, 3) := by decide +kernel
theorem dX9_findPairs_133 : decode cX9_findPairs 133 = .ok (.aload_n 0, 1) := by decide +kernel
theorem dX9_findPairs_134 : decode cX9_findPairs 134 = .ok (.getfield 40, 3) := by decide +kernel
theorem dX9_findPairs_137 : decode cX9_findPairs 137 = .ok (.bipush 30, 2) := by decide +kernel
theorem dX9_findPairs_139 : decode cX9_findPairs 139 = .ok (.iload 5, 2) := by decide +kernel
theorem dX9_findPairs_141 : decode cX9_findPairs 141 = .ok (.imul, 1) := by decide +kernel
theorem dX9_findPairs_142 : decode cX9_findPairs 142 = .ok (.iload 6, 2) := by decide +kernel
theorem dX9_findPairs_144 : decode cX9_findPairs 144 = .ok (.iadd, 1) := by decide +kernel
theorem dX9_findPairs_145 : decode cX9_findPairs 145 = .ok (.iconst 1, 1) := by decide +kernel
theorem dX9_findPairs_146 : decode cX9_findPairs 146 = .ok (.isub, 1) := by decide +kernel
theorem dX9_findPairs_147 : decode cX9_findPairs 147 = .ok (.iaload, 1) := by decide +kernel
theorem dX9_findPairs_148 : decode cX9_findPairs 148 = .ok (.istore 7, 2) := by decide +kernel
theorem dX9_findPairs_150 : decode cX9_findPairs 150 = .ok (.aload_n 0, 1) := by decide +kernel
theorem dX9_findPairs_151 : decode cX9_findPairs 151 = .ok (.getfield 40, 3) := by decide +kernel
theorem dX9_findPairs_154 : decode cX9_findPairs 154 = .ok (.bipush 30, 2) := by decide +kernel
theorem dX9_findPairs_156 : decode cX9_findPairs 156 = .ok (.iload 5, 2) := by decide +kernel
theorem dX9_findPairs_158 : decode cX9_findPairs 158 = .ok (.imul, 1) := by decide +kernel
theorem dX9_findPairs_159 : decode cX9_findPairs 159 = .ok (.iload 6, 2) := by decide +kernel
theorem dX9_findPairs_161 : decode cX9_findPairs 161 = .ok (.iadd, 1) := by decide +kernel
theorem dX9_findPairs_162 : decode cX9_findPairs 162 = .ok (.iload 7, 2) := by decide +kernel
theorem dX9_findPairs_164 : decode cX9_findPairs 164 = .ok (.aload_n 0, 1) := by decide +kernel
theorem dX9_findPairs_165 : decode cX9_findPairs 165 = .ok (.iload_n 1, 1) := by decide +kernel
theorem dX9_findPairs_166 : decode cX9_findPairs 166 = .ok (.iload 5, 2) := by decide +kernel
theorem dX9_findPairs_168 : decode cX9_findPairs 168 = .ok (.iload_n 3, 1) := by decide +kernel
theorem dX9_findPairs_169 : decode cX9_findPairs 169 = .ok (.iload 6, 2) := by decide +kernel
theorem dX9_findPairs_171 : decode cX9_findPairs 171 = .ok (.invokevirtual 158, 3) := by decide +kernel
theorem dX9_findPairs_174 : decode cX9_findPairs 174 = .ok (.iadd, 1) := by decide +kernel
theorem dX9_findPairs_175 : decode cX9_findPairs 175 = .ok (.iastore, 1) := by decide +kernel
theorem dX9_findPairs_176 : decode cX9_findPairs 176 = .ok (.iinc 6 1, 3) := by decide +kernel
theorem dX9_findPairs_179 : decode cX9_findPairs 179 = .ok (.goto (-167), 3) := by decide +kernel
theorem dX9_findPairs_182 : decode cX9_findPairs 182 = .ok (.iinc 5 1, 3) := by decide +kernel
theorem dX9_findPairs_185 : decode cX9_findPairs 185 = .ok (.goto (-182), 3) := by decide +kernel
theorem dX9_findPairs_188 : decode cX9_findPairs 188 = .ok (.aload_n 0, 1) := by decide +kernel
theorem dX9_findPairs_189 : decode cX9_findPairs 189 = .ok (.iconst 0, 1) := by decide +kernel
theorem dX9_findPairs_190 : decode cX9_findPairs 190 = .ok (.putfield 161, 3) := by decide +kernel
theorem dX9_findPairs_193 : decode cX9_findPairs 193 = .ok (.iload_n 2, 1) := by decide +kernel
theorem dX9_findPairs_194 : decode cX9_findPairs 194 = .ok (.iconst 1, 1) := by decide +kernel
theorem dX9_findPairs_195 : decode cX9_findPairs 195 = .ok (.isub, 1) := by decide +kernel
theorem dX9_findPairs_196 : decode cX9_findPairs 196 = .ok (.istore 5, 2) := by decide +kernel
theorem dX9_findPairs_198 : decode cX9_findPairs 198 = .ok (.iload 4, 2) := by decide +kernel
theorem dX9_findPairs_200 : decode cX9_findPairs 200 = .ok (.iconst 1, 1) := by decide +kernel
theorem dX9_findPairs_201 : decode cX9_findPairs 201 = .ok (.isub, 1) := by decide +kernel
theorem dX9_findPairs_202 : decode cX9_findPairs 202 = .ok (.istore 6, 2) := by decide +kernel
theorem dX9_findPairs_204 : decode cX9_findPairs 204 = .ok (.iconst 1, 1) := by decide +kernel
theorem dX9_findPairs_205 : decode cX9_findPairs 205 = .ok (.istore 7, 2) := by decide +kernel
theorem dX9_findPairs_207 : decode cX9_findPairs 207 = .ok (.iload 7, 2) := by decide +kernel
theorem dX9_findPairs_209 : decode cX9_findPairs 209 = .ok (.ifCond .eq 156, 3) := by decide +kernel
theorem dX9_findPairs_212 : decode cX9_findPairs 212 = .ok (.aload_n 0, 1) := by decide +kernel
theorem dX9_findPairs_213 : decode cX9_findPairs 213 = .ok (.getfield 43, 3) := by decide +kernel
theorem dX9_findPairs_216 : decode cX9_findPairs 216 = .ok (.aload_n 0, 1) := by decide +kernel
theorem dX9_findPairs_217 : decode cX9_findPairs 217 = .ok (.getfield 161, 3) := by decide +kernel
theorem dX9_findPairs_220 : decode cX9_findPairs 220 = .ok (.iload 5, 2) := by decide +kernel
theorem dX9_findPairs_222 : decode cX9_findPairs 222 = .ok (.iastore, 1) := by decide +kernel
theorem dX9_findPairs_223 : decode cX9_findPairs 223 = .ok (.aload_n 0, 1) := by decide +kernel
theorem dX9_findPairs_224 : decode cX9_findPairs 224 = .ok (.getfield 46, 3) := by decide +kernel
theorem dX9_findPairs_227 : decode cX9_findPairs 227 = .ok (.aload_n 0, 1) := by decide +kernel
theorem dX9_findPairs_228 : decode cX9_findPairs 228 = .ok (.getfield 161, 3) := by decide +kernel
theorem dX9_findPairs_231 : decode cX9_findPairs 231 = .ok (.iload 6, 2) := by decide +kernel
theorem dX9_findPairs_233 : decode cX9_findPairs 233 = .ok (.iastore, 1) := by decide +kernel
theorem dX9_findPairs_234 : decode cX9_findPairs 234 = .ok (.aload_n 0, 1) := by decide +kernel
theorem dX9_findPairs_235 : decode cX9_findPairs 235 = .ok (.dup, 1) := by decide +kernel
theorem dX9_findPairs_236 : decode cX9_findPairs 236 = .ok (.getfield 161, 3) := by decide +kernel
theorem dX9_findPairs_239 : decode cX9_findPairs 239 = .ok (.iconst 1, 1) := by decide +kernel
theorem dX9_findPairs_240 : decode cX9_findPairs 240 = .ok (.iadd, 1) := by decide +kernel
theorem dX9_findPairs_241 : decode cX9_findPairs 241 = .ok (.putfield 161, 3) := by decide +kernel
theorem dX9_findPairs_244 : decode cX9_findPairs 244 = .ok (.aload_n 0, 1) := by decide +kernel
theorem dX9_findPairs_245 : decode cX9_findPairs 245 = .ok (.getfield 40, 3) := by decide +kernel
theorem dX9_findPairs_248 : decode cX9_findPairs 248 = .ok (.bipush 30, 2) := by decide +kernel
theorem dX9_findPairs_250 : decode cX9_findPairs 250 = .ok (.iload 5, 2) := by decide +kernel
theorem dX9_findPairs_252 : decode cX9_findPairs 252 = .ok (.imul, 1) := by decide +kernel
theorem dX9_findPairs_253 : decode cX9_findPairs 253 = .ok (.iload 6, 2) := by decide +kernel
theorem dX9_findPairs_255 : decode cX9_findPairs 255 = .ok (.iadd, 1) := by decide +kernel
theorem dX9_findPairs_256 : decode cX9_findPairs 256 = .ok (.iaload, 1) := by decide +kernel
theorem dX9_findPairs_257 : decode cX9_findPairs 257 = .ok (.aload_n 0, 1) := by decide +kernel
theorem dX9_findPairs_258 : decode cX9_findPairs 258 = .ok (.iload_n 1, 1) := by decide +kernel
theorem dX9_findPairs_259 : decode cX9_findPairs 259 = .ok (.iload 5, 2) := by decide +kernel
theorem dX9_findPairs_261 : decode cX9_findPairs 261 = .ok (.iload_n 3, 1) := by decide +kernel
theorem dX9_findPairs_262 : decode cX9_findPairs 262 = .ok (.iload 6, 2) := by decide +kernel
theorem dX9_findPairs_264 : decode cX9_findPairs 264 = .ok (.invokevirtual 158, 3) := by decide +kernel
theorem dX9_findPairs_267 : decode cX9_findPairs 267 = .ok (.isub, 1) := by decide +kernel
theorem dX9_findPairs_268 : decode cX9_findPairs 268 = .ok (.istore 8, 2) := by decide +kernel
theorem dX9_findPairs_270 : decode cX9_findPairs 270 = .ok (.iload 5, 2) := by decide +kernel
theorem dX9_findPairs_272 : decode cX9_findPairs 272 = .ok (.ifCond .gt 8, 3) := by decide +kernel
theorem dX9_findPairs_275 : decode cX9_findPairs 275 = .ok (.iload 6, 2) := by decide +kernel
theorem dX9_findPairs_277 : decode cX9_findPairs 277 = .ok (.ifCond .le 7, 3) := by decide +kernel
theorem dX9_findPairs_280 : decode cX9_findPairs 280 = .ok (.iconst 1, 1) := by decide +kernel
theorem dX9_findPairs_281 : decode cX9_findPairs 281 = .ok (.goto 4, 3) := by decide +kernel
theorem dX9_findPairs_284 : decode cX9_findPairs 284 = .ok (.iconst 0, 1) := by decide +kernel
theorem dX9_findPairs_285 : decode cX9_findPairs 285 = .ok (.istore 7, 2) := by decide +kernel
theorem dX9_findPairs_287 : decode cX9_findPairs 287 = .ok (.iload 5, 2) := by decide +kernel
theorem dX9_findPairs_289 : decode cX9_findPairs 289 = .ok (.ifCond .le 39, 3) := by decide +kernel
theorem dX9_findPairs_292 : decode cX9_findPairs 292 = .ok (.iload 6, 2) := by decide +kernel
theorem dX9_findPairs_294 : decode cX9_findPairs 294 = .ok (.ifCond .le 34, 3) := by decide +kernel
theorem dX9_findPairs_297 : decode cX9_findPairs 297 = .ok (.aload_n 0, 1) := by decide +kernel
theorem dX9_findPairs_298 : decode cX9_findPairs 298 = .ok (.getfield 40, 3) := by decide +kernel
theorem dX9_findPairs_301 : decode cX9_findPairs 301 = .ok (.bipush 30, 2) := by decide +kernel
theorem dX9_findPairs_303 : decode cX9_findPairs 303 = .ok (.iload 5, 2) := by decide +kernel
theorem dX9_findPairs_305 : decode cX9_findPairs 305 = .ok (.iconst 1, 1) := by decide +kernel
theorem dX9_findPairs_306 : decode cX9_findPairs 306 = .ok (.isub, 1) := by decide +kernel
theorem dX9_findPairs_307 : decode cX9_findPairs 307 = .ok (.imul, 1) := by decide +kernel
theorem dX9_findPairs_308 : decode cX9_findPairs 308 = .ok (.iload 6, 2) := by decide +kernel
theorem dX9_findPairs_310 : decode cX9_findPairs 310 = .ok (.iadd, 1) := by decide +kernel
theorem dX9_findPairs_311 : decode cX9_findPairs 311 = .ok (.iconst 1, 1) := by decide +kernel
theorem dX9_findPairs_312 : decode cX9_findPairs 312 = .ok (.isub, 1) := by decide +kernel
theorem dX9_findPairs_313 : decode cX9_findPairs 313 = .ok (.iaload, 1) := by decide +kernel
theorem dX9_findPairs_314 : decode cX9_findPairs 314 = .ok (.iload 8, 2) := by decide +kernel
theorem dX9_findPairs_316 : decode cX9_findPairs 316 = .ok (.if_icmp .ne 12, 3) := by decide +kernel
theorem dX9_findPairs_319 : decode cX9_findPairs 319 = .ok (.iinc 5 (-1), 3) := by decide +kernel
theorem dX9_findPairs_322 : decode cX9_findPairs 322 = .ok (.iinc 6 (-1), 3) := by decide +kernel
theorem dX9_findPairs_325 : decode cX9_findPairs 325 = .ok (.goto 37, 3) := by decide +kernel
theorem dX9_findPairs_328 : decode cX9_findPairs 328 = .ok (.iload 5, 2) := by decide +kernel
theorem dX9_findPairs_330 : decode cX9_findPairs 330 = .ok (.ifCond .le 29, 3) := by decide +kernel
theorem dX9_findPairs_333 : decode cX9_findPairs 333 = .ok (.aload_n 0, 1) := by decide +kernel
theorem dX9_findPairs_334 : decode cX9_findPairs 334 = .ok (.getfield 40, 3) := by decide +kernel
theorem dX9_findPairs_337 : decode cX9_findPairs 337 = .ok (.bipush 30, 2) := by decide +kernel
theorem dX9_findPairs_339 : decode cX9_findPairs 339 = .ok (.iload 5, 2) := by decide +kernel
theorem dX9_findPairs_341 : decode cX9_findPairs 341 = .ok (.iconst 1, 1) := by decide +kernel
theorem dX9_findPairs_342 : decode cX9_findPairs 342 = .ok (.isub, 1) := by decide +kernel
theorem dX9_findPairs_343 : decode cX9_findPairs 343 = .ok (.imul, 1) := by decide +kernel
theorem dX9_findPairs_344 : decode cX9_findPairs 344 = .ok (.iload 6, 2) := by decide +kernel
theorem dX9_findPairs_346 : decode cX9_findPairs 346 = .ok (.iadd, 1) := by decide +kernel
theorem dX9_findPairs_347 : decode cX9_findPairs 347 = .ok (.iaload, 1) := by decide +kernel
theorem dX9_findPairs_348 : decode cX9_findPairs 348 = .ok (.iload 8, 2) := by decide +kernel
theorem dX9_findPairs_350 : decode cX9_findPairs 350 = .ok (.if_icmp .ne 9, 3) := by decide +kernel
theorem dX9_findPairs_353 : decode cX9_findPairs 353 = .ok (.iinc 5 (-1), 3) := by decide +kernel
theorem dX9_findPairs_356 : decode cX9_findPairs 356 = .ok (.goto 6, 3) := by decide +kernel
theorem dX9_findPairs_359 : decode cX9_findPairs 359 = .ok (.iinc 6 (-1), 3) := by decide +kernel
theorem dX9_findPairs_362 : decode cX9_findPairs 362 = .ok (.goto (-155), 3) := by decide +kernel
theorem dX9_findPairs_365 : decode cX9_findPairs 365 = .ok (.return_, 1) := by decide +kernel
theorem dX9_pairs_0 : decode cX9_pairs 0 = .ok (.aload_n 0, 1) := by decide +kernel
theorem dX9_pairs_1 : decode cX9_pairs 1 = .ok (.iconst 0, 1) := by decide +kernel
theorem dX9_pairs_2 : decode cX9_pairs 2 = .ok (.putfield 52, 3) := by decide +kernel
theorem dX9_pairs_5 : decode cX9_pairs 5 = .ok (.iload 5, 2) := by decide +kernel
theorem dX9_pairs_7 : decode cX9_pairs 7 = .ok (.i2l, 1) := by decide +kernel
theorem dX9_pairs_8 : decode cX9_pairs 8 = .ok (.lconst 0, 1) := by decide +kernel
theorem dX9_pairs_9 : decode cX9_pairs 9 = .ok (.ldc2_w 139, 3) := by decide +kernel
theorem dX9_pairs_12 : decode cX9_pairs 12 = .ok (.invokestatic 62, 3) := by decide +kernel
theorem dX9_pairs_15 : decode cX9_pairs 15 = .ok (.ifCond .ne 6, 3) := by decide +kernel
theorem dX9_pairs_18 : decode cX9_pairs 18 = .ok (.ldc 72, 2) := by decide +kernel
theorem dX9_pairs_20 : decode cX9_pairs 20 = .ok (.ireturn, 1) := by decide +kernel
theorem dX9_pairs_21 : decode cX9_pairs 21 = .ok (.aload_n 0, 1) := by decide +kernel
theorem dX9_pairs_22 : decode cX9_pairs 22 = .ok (.iload_n 1, 1) := by decide +kernel
theorem dX9_pairs_23 : decode cX9_pairs 23 = .ok (.iload_n 2, 1) := by decide +kernel
theorem dX9_pairs_24 : decode cX9_pairs 24 = .ok (.iload_n 3, 1) := by decide +kernel
theorem dX9_pairs_25 : decode cX9_pairs 25 = .ok (.iload 4, 2) := by decide +kernel
theorem dX9_pairs_27 : decode cX9_pairs 27 = .ok (.invokevirtual 164, 3) := by decide +kernel
theorem dX9_pairs_30 : decode cX9_pairs 30 = .ok (.istore 6, 2) := by decide +kernel
theorem dX9_pairs_32 : decode cX9_pairs 32 = .ok (.iload 6, 2) := by decide +kernel
theorem dX9_pairs_34 : decode cX9_pairs 34 = .ok (.ifCond .ge 6, 3) := by decide +kernel
theorem dX9_pairs_37 : decode cX9_pairs 37 = .ok (.iload 6, 2) := by decide +kernel
theorem dX9_pairs_39 : decode cX9_pairs 39 = .ok (.ireturn, 1) := by decide +kernel
theorem dX9_pairs_40 : decode cX9_pairs 40 = .ok (.aload_n 0, 1) := by decide +kernel
theorem dX9_pairs_41 : decode cX9_pairs 41 = .ok (.iload_n 1, 1) := by decide +kernel
theorem dX9_pairs_42 : decode cX9_pairs 42 = .ok (.iload_n 2, 1) := by decide +kernel
theorem dX9_pairs_43 : decode cX9_pairs 43 = .ok (.iload_n 3, 1) := by decide +kernel
theorem dX9_pairs_44 : decode cX9_pairs 44 = .ok (.iload 4, 2) := by decide +kernel
theorem dX9_pairs_46 : decode cX9_pairs 46 = .ok (.invokevirtual 167, 3) := by decide +kernel
theorem dX9_pairs_49 : decode cX9_pairs 49 = .ok (.iconst 0, 1) := by decide +kernel
theorem dX9_pairs_50 : decode cX9_pairs 50 = .ok (.istore 7, 2) := by decide +kernel
theorem dX9_pairs_52 : decode cX9_pairs 52 = .ok (.iconst 0, 1) := by decide +kernel
theorem dX9_pairs_53 : decode cX9_pairs 53 = .ok (.istore 8, 2) := by decide +kernel
theorem dX9_pairs_55 : decode cX9_pairs 55 = .ok (.iconst 0, 1) := by decide +kernel
theorem dX9_pairs_56 : decode cX9_pairs 56 = .ok (.istore 9, 2) := by decide +kernel
theorem dX9_pairs_58 : decode cX9_pairs 58 = .ok (.iload 9, 2) := by decide +kernel
theorem dX9_pairs_60 : decode cX9_pairs 60 = .ok (.bipush 30, 2) := by decide +kernel
theorem dX9_pairs_62 : decode cX9_pairs 62 = .ok (.if_icmp .ge 109, 3) := by decide +kernel
theorem dX9_pairs_65 : decode cX9_pairs 65 = .ok (.iconst 0, 1) := by decide +kernel
theorem dX9_pairs_66 : decode cX9_pairs 66 = .ok (.istore 10, 2) := by decide +kernel
theorem dX9_pairs_68 : decode cX9_pairs 68 = .ok (.iconst 0, 1) := by decide +kernel
theorem dX9_pairs_69 : decode cX9_pairs 69 = .ok (.istore 11, 2) := by decide +kernel
theorem dX9_pairs_71 : decode cX9_pairs 71 = .ok (.iconst 0, 1) := by decide +kernel
theorem dX9_pairs_72 : decode cX9_pairs 72 = .ok (.istore 12, 2) := by decide +kernel
theorem dX9_pairs_74 : decode cX9_pairs 74 = .ok (.iload 12, 2) := by decide +kernel
theorem dX9_pairs_76 : decode cX9_pairs 76 = .ok (.aload_n 0, 1) := by decide +kernel
theorem dX9_pairs_77 : decode cX9_pairs 77 = .ok (.getfield 161, 3) := by decide +kernel
theorem dX9_pairs_80 : decode cX9_pairs 80 = .ok (.if_icmp .ge 53, 3) := by decide +kernel
theorem dX9_pairs_83 : decode cX9_pairs 83 = .ok (.iload 10, 2) := by decide +kernel
theorem dX9_pairs_85 : decode cX9_pairs 85 = .ok (.aload_n 0, 1) := by decide +kernel
theorem dX9_pairs_86 : decode cX9_pairs 86 = .ok (.getfield 46, 3) := by decide +kernel
theorem dX9_pairs_89 : decode cX9_pairs 89 = .ok (.iload 12, 2) := by decide +kernel
theorem dX9_pairs_91 : decode cX9_pairs 91 = .ok (.iaload, 1) := by decide +kernel
theorem dX9_pairs_92 : decode cX9_pairs 92 = .ok (.iload 9, 2) := by decide +kernel
theorem dX9_pairs_94 : decode cX9_pairs 94 = .ok (.if_icmp .ne 7, 3) := by decide +kernel
theorem dX9_pairs_97 : decode cX9_pairs 97 = .ok (.iconst 1, 1) := by decide +kernel
theorem dX9_pairs_98 : decode cX9_pairs 98 = .ok (.goto 4, 3) := by decide +kernel
theorem dX9_pairs_101 : decode cX9_pairs 101 = .ok (.iconst 0, 1) := by decide +kernel
theorem dX9_pairs_102 : decode cX9_pairs 102 = .ok (.iadd, 1) := by decide +kernel
theorem dX9_pairs_103 : decode cX9_pairs 103 = .ok (.istore 10, 2) := by decide +kernel
theorem dX9_pairs_105 : decode cX9_pairs 105 = .ok (.iload 11, 2) := by decide +kernel
theorem dX9_pairs_107 : decode cX9_pairs 107 = .ok (.aload_n 0, 1) := by decide +kernel
theorem dX9_pairs_108 : decode cX9_pairs 108 = .ok (.getfield 43, 3) := by decide +kernel
theorem dX9_pairs_111 : decode cX9_pairs 111 = .ok (.iload 12, 2) := by decide +kernel
theorem dX9_pairs_113 : decode cX9_pairs 113 = .ok (.iaload, 1) := by decide +kernel
theorem dX9_pairs_114 : decode cX9_pairs 114 = .ok (.iload 9, 2) := by decide +kernel
theorem dX9_pairs_116 : decode cX9_pairs 116 = .ok (.if_icmp .ne 7, 3) := by decide +kernel
theorem dX9_pairs_119 : decode cX9_pairs 119 = .ok (.iconst 1, 1) := by decide +kernel
theorem dX9_pairs_120 : decode cX9_pairs 120 = .ok (.goto 4, 3) := by decide +kernel
theorem dX9_pairs_123 : decode cX9_pairs 123 = .ok (.iconst 0, 1) := by decide +kernel
theorem dX9_pairs_124 : decode cX9_pairs 124 = .ok (.iadd, 1) := by decide +kernel
theorem dX9_pairs_125 : decode cX9_pairs 125 = .ok (.istore 11, 2) := by decide +kernel
theorem dX9_pairs_127 : decode cX9_pairs 127 = .ok (.iinc 12 1, 3) := by decide +kernel
theorem dX9_pairs_130 : decode cX9_pairs 130 = .ok (.goto (-56), 3) := by decide +kernel
theorem dX9_pairs_133 : decode cX9_pairs 133 = .ok (.iload 7, 2) := by decide +kernel
theorem dX9_pairs_135 : decode cX9_pairs 135 = .ok (.iload 10, 2) := by decide +kernel
theorem dX9_pairs_137 : decode cX9_pairs 137 = .ok (.iconst 1, 1) := by decide +kernel
theorem dX9_pairs_138 : decode cX9_pairs 138 = .ok (.if_icmp .le 7, 3) := by decide +kernel
theorem dX9_pairs_141 : decode cX9_pairs 141 = .ok (.iconst 1, 1) := by decide +kernel
theorem dX9_pairs_142 : decode cX9_pairs 142 = .ok (.goto 4, 3) := by decide +kernel
theorem dX9_pairs_145 : decode cX9_pairs 145 = .ok (.iconst 0, 1) := by decide +kernel
theorem dX9_pairs_146 : decode cX9_pairs 146 = .ok (.iadd, 1) := by decide +kernel
theorem dX9_pairs_147 : decode cX9_pairs 147 = .ok (.istore 7, 2) := by decide +kernel
theorem dX9_pairs_149 : decode cX9_pairs 149 = .ok (.iload 8, 2) := by decide +kernel
theorem dX9_pairs_151 : decode cX9_pairs 151 = .ok (.iload 11, 2) := by decide +kernel
theorem dX9_pairs_153 : decode cX9_pairs 153 = .ok (.iconst 1, 1) := by decide +kernel
theorem dX9_pairs_154 : decode cX9_pairs 154 = .ok (.if_icmp .le 7, 3) := by decide +kernel
theorem dX9_pairs_157 : decode cX9_pairs 157 = .ok (.iconst 1, 1) := by decide +kernel
theorem dX9_pairs_158 : decode cX9_pairs 158 = .ok (.goto 4, 3) := by decide +kernel
theorem dX9_pairs_161 : decode cX9_pairs 161 = .ok (.iconst 0, 1) := by decide +kernel
theorem dX9_pairs_162 : decode cX9_pairs 162 = .ok (.iadd, 1) := by decide +kernel
theorem dX9_pairs_163 : decode cX9_pairs 163 = .ok (.istore 8, 2) := by decide +kernel
theorem dX9_pairs_165 : decode cX9_pairs 165 = .ok (.iinc 9 1, 3) := by decide +kernel
theorem dX9_pairs_168 : decode cX9_pairs 168 = .ok (.goto (-110), 3) := by decide +kernel
theorem dX9_pairs_171 : decode cX9_pairs 171 = .ok (.iload 5, 2) := by decide +kernel
theorem dX9_pairs_173 : decode cX9_pairs 173 = .ok (.ifCond .ne 22, 3) := by decide +kernel
theorem dX9_pairs_176 : decode cX9_pairs 176 = .ok (.aload_n 0, 1) := by decide +kernel
theorem dX9_pairs_177 : decode cX9_pairs 177 = .ok (.getfield 40, 3) := by decide +kernel
theorem dX9_pairs_180 : decode cX9_pairs 180 = .ok (.bipush 30, 2) := by decide +kernel
theorem dX9_pairs_182 : decode cX9_pairs 182 = .ok (.iload_n 2, 1) := by decide +kernel
theorem dX9_pairs_183 : decode cX9_pairs 183 = .ok (.iconst 1, 1) := by decide +kernel
theorem dX9_pairs_184 : decode cX9_pairs 184 = .ok (.isub, 1) := by decide +kernel
theorem dX9_pairs_185 : decode cX9_pairs 185 = .ok (.imul, 1) := by decide +kernel
theorem dX9_pairs_186 : decode cX9_pairs 186 = .ok (.iload 4, 2) := by decide +kernel
theorem dX9_pairs_188 : decode cX9_pairs 188 = .ok (.iadd, 1) := by decide +kernel
theorem dX9_pairs_189 : decode cX9_pairs 189 = .ok (.iconst 1, 1) := by decide +kernel
theorem dX9_pairs_190 : decode cX9_pairs 190 = .ok (.isub, 1) := by decide +kernel
theorem dX9_pairs_191 : decode cX9_pairs 191 = .ok (.iaload, 1) := by decide +kernel
theorem dX9_pairs_192 : decode cX9_pairs 192 = .ok (.goto 29, 3) := by decide +kernel
theorem dX9_pairs_195 : decode cX9_pairs 195 = .ok (.iload 5, 2) := by decide +kernel
theorem dX9_pairs_197 : decode cX9_pairs 197 = .ok (.iconst 1, 1) := by decide +kernel
theorem dX9_pairs_198 : decode cX9_pairs 198 = .ok (.if_icmp .ne 10, 3) := by decide +kernel
theorem dX9_pairs_201 : decode cX9_pairs 201 = .ok (.aload_n 0, 1) := by decide +kernel
theorem dX9_pairs_202 : decode cX9_pairs 202 = .ok (.getfield 161, 3) := by decide +kernel
theorem dX9_pairs_205 : decode cX9_pairs 205 = .ok (.goto 16, 3) := by decide +kernel
theorem dX9_pairs_208 : decode cX9_pairs 208 = .ok (.iload 5, 2) := by decide +kernel
theorem dX9_pairs_210 : decode cX9_pairs 210 = .ok (.iconst 2, 1) := by decide +kernel
theorem dX9_pairs_211 : decode cX9_pairs 211 = .ok (.if_icmp .ne 8, 3) := by decide +kernel
theorem dX9_pairs_214 : decode cX9_pairs 214 = .ok (.iload 7, 2) := by decide +kernel
theorem dX9_pairs_216 : decode cX9_pairs 216 = .ok (.goto 5, 3) := by decide +kernel
theorem dX9_pairs_219 : decode cX9_pairs 219 = .ok (.iload 8, 2) := by decide +kernel
theorem dX9_pairs_221 : decode cX9_pairs 221 = .ok (.ireturn, 1) := by decide +kernel
theorem dX9_pair_0 : decode cX9_pair 0 = .ok (.aload_n 0, 1) := by decide +kernel
theorem dX9_pair_1 : decode cX9_pair 1 = .ok (.iconst 0, 1) := by decide +kernel
theorem dX9_pair_2 : decode cX9_pair 2 = .ok (.putfield 52, 3) := by decide +kernel
theorem dX9_pair_5 : decode cX9_pair 5 = .ok (.aload_n 0, 1) := by decide +kernel
theorem dX9_pair_6 : decode cX9_pair 6 = .ok (.iload_n 1, 1) := by decide +kernel
theorem dX9_pair_7 : decode cX9_pair 7 = .ok (.iload_n 2, 1) := by decide +kernel
theorem dX9_pair_8 : decode cX9_pair 8 = .ok (.iload_n 3, 1) := by decide +kernel
theorem dX9_pair_9 : decode cX9_pair 9 = .ok (.iload 4, 2) := by decide +kernel
theorem dX9_pair_11 : decode cX9_pair 11 = .ok (.invokevirtual 164, 3) := by decide +kernel
theorem dX9_pair_14 : decode cX9_pair 14 = .ok (.istore 6, 2) := by decide +kernel
theorem dX9_pair_16 : decode cX9_pair 16 = .ok (.iload 6, 2) := by decide +kernel
theorem dX9_pair_18 : decode cX9_pair 18 = .ok (.ifCond .ge 6, 3) := by decide +kernel
theorem dX9_pair_21 : decode cX9_pair 21 = .ok (.iload 6, 2) := by decide +kernel
theorem dX9_pair_23 : decode cX9_pair 23 = .ok (.ireturn, 1) := by decide +kernel
theorem dX9_pair_24 : decode cX9_pair 24 = .ok (.aload_n 0, 1) := by decide +kernel
theorem dX9_pair_25 : decode cX9_pair 25 = .ok (.iload_n 1, 1) := by decide +kernel
theorem dX9_pair_26 : decode cX9_pair 26 = .ok (.iload_n 2, 1) := by decide +kernel
theorem dX9_pair_27 : decode cX9_pair 27 = .ok (.iload_n 3, 1) := by decide +kernel
theorem dX9_pair_28 : decode cX9_pair 28 = .ok (.iload 4, 2) := by decide +kernel
theorem dX9_pair_30 : decode cX9_pair 30 = .ok (.invokevirtual 167, 3) := by decide +kernel
theorem dX9_pair_33 : decode cX9_pair 33 = .ok (.iload 5, 2) := by decide +kernel
theorem dX9_pair_35 : decode cX9_pair 35 = .ok (.i2l, 1) := by decide +kernel
theorem dX9_pair_36 : decode cX9_pair 36 = .ok (.lconst 0, 1) := by decide +kernel
theorem dX9_pair_37 : decode cX9_pair 37 = .ok (.aload_n 0, 1) := by decide +kernel
theorem dX9_pair_38 : decode cX9_pair 38 = .ok (.getfield 161, 3) := by decide +kernel
theorem dX9_pair_41 : decode cX9_pair 41 = .ok (.iconst 1, 1) := by decide +kernel
theorem dX9_pair_42 : decode cX9_pair 42 = .ok (.isub, 1) := by decide +kernel
theorem dX9_pair_43 : decode cX9_pair 43 = .ok (.i2l, 1) := by decide +kernel
theorem dX9_pair_44 : decode cX9_pair 44 = .ok (.invokestatic 62, 3) := by decide +kernel
theorem dX9_pair_47 : decode cX9_pair 47 = .ok (.ifCond .eq 38, 3) := by decide +kernel
theorem dX9_pair_50 : decode cX9_pair 50 = .ok (.bipush 100, 2) := by decide +kernel
theorem dX9_pair_52 : decode cX9_pair 52 = .ok (.aload_n 0, 1) := by decide +kernel
theorem dX9_pair_53 : decode cX9_pair 53 = .ok (.getfield 43, 3) := by decide +kernel
theorem dX9_pair_56 : decode cX9_pair 56 = .ok (.aload_n 0, 1) := by decide +kernel
theorem dX9_pair_57 : decode cX9_pair 57 = .ok (.getfield 161, 3) := by decide +kernel
theorem dX9_pair_60 : decode cX9_pair 60 = .ok (.iconst 1, 1) := by decide +kernel
theorem dX9_pair_61 : decode cX9_pair 61 = .ok (.isub, 1) := by decide +kernel
theorem dX9_pair_62 : decode cX9_pair 62 = .ok (.iload 5, 2) := by decide +kernel
theorem dX9_pair_64 : decode cX9_pair 64 = .ok (.isub, 1) := by decide +kernel
theorem dX9_pair_65 : decode cX9_pair 65 = .ok (.iaload, 1) := by decide +kernel
theorem dX9_pair_66 : decode cX9_pair 66 = .ok (.imul, 1) := by decide +kernel
theorem dX9_pair_67 : decode cX9_pair 67 = .ok (.aload_n 0, 1) := by decide +kernel
theorem dX9_pair_68 : decode cX9_pair 68 = .ok (.getfield 46, 3) := by decide +kernel
theorem dX9_pair_71 : decode cX9_pair 71 = .ok (.aload_n 0, 1) := by decide +kernel
theorem dX9_pair_72 : decode cX9_pair 72 = .ok (.getfield 161, 3) := by decide +kernel
theorem dX9_pair_75 : decode cX9_pair 75 = .ok (.iconst 1, 1) := by decide +kernel
theorem dX9_pair_76 : decode cX9_pair 76 = .ok (.isub, 1) := by decide +kernel
theorem dX9_pair_77 : decode cX9_pair 77 = .ok (.iload 5, 2) := by decide +kernel
theorem dX9_pair_79 : decode cX9_pair 79 = .ok (.isub, 1) := by decide +kernel
theorem dX9_pair_80 : decode cX9_pair 80 = .ok (.iaload, 1) := by decide +kernel
theorem dX9_pair_81 : decode cX9_pair 81 = .ok (.iadd, 1) := by decide +kernel
theorem dX9_pair_82 : decode cX9_pair 82 = .ok (.goto 5, 3) := by decide +kernel
theorem dX9_pair_85 : decode cX9_pair 85 = .ok (.ldc 116, 2) := by decide +kernel
theorem dX9_pair_87 : decode cX9_pair 87 = .ok (.ireturn, 1) := by decide +kernel
theorem dX9_kindOf_0 : decode cX9_kindOf 0 = .ok (.aload_n 0, 1) := by decide +kernel
theorem dX9_kindOf_1 : decode cX9_kindOf 1 = .ok (.iload_n 1, 1) := by decide +kernel
theorem dX9_kindOf_2 : decode cX9_kindOf 2 = .ok (.iconst 0, 1) := by decide +kernel
theorem dX9_kindOf_3 : decode cX9_kindOf 3 = .ok (.iconst 1, 1) := by decide +kernel
theorem dX9_kindOf_4 : decode cX9_kindOf 4 = .ok (.invokevirtual 112, 3) := by decide +kernel
theorem dX9_kindOf_7 : decode cX9_kindOf 7 = .ok (.lstore_n 2, 1) := by decide +kernel
theorem dX9_kindOf_8 : decode cX9_kindOf 8 = .ok (.aload_n 0, 1) := by decide +kernel
theorem dX9_kindOf_9 : decode cX9_kindOf 9 = .ok (.iload_n 1, 1) := by decide +kernel
theorem dX9_kindOf_10 : decode cX9_kindOf 10 = .ok (.iconst 1, 1) := by decide +kernel
theorem dX9_kindOf_11 : decode cX9_kindOf 11 = .ok (.iconst 1, 1) := by decide +kernel
theorem dX9_kindOf_12 : decode cX9_kindOf 12 = .ok (.invokevirtual 112, 3) := by decide +kernel
theorem dX9_kindOf_15 : decode cX9_kindOf 15 = .ok (.lstore 4, 2) := by decide +kernel
theorem dX9_kindOf_17 : decode cX9_kindOf 17 = .ok (.lload_n 2, 1) := by decide +kernel
theorem dX9_kindOf_18 : decode cX9_kindOf 18 = .ok (.lconst 0, 1) := by decide +kernel
theorem dX9_kindOf_19 : decode cX9_kindOf 19 = .ok (.lcmp, 1) := by decide +kernel
theorem dX9_kindOf_20 : decode cX9_kindOf 20 = .ok (.ifCond .le 112, 3) := by decide +kernel
theorem dX9_kindOf_23 : decode cX9_kindOf 23 = .ok (.lload 4, 2) := by decide +kernel
theorem dX9_kindOf_25 : decode cX9_kindOf 25 = .ok (.lconst 0, 1) := by decide +kernel
theorem dX9_kindOf_26 : decode cX9_kindOf 26 = .ok (.lcmp, 1) := by decide +kernel
theorem dX9_kindOf_27 : decode cX9_kindOf 27 = .ok (.ifCond .le 105, 3) := by decide +kernel
theorem dX9_kindOf_30 : decode cX9_kindOf 30 = .ok (.iconst 1, 1) := by decide +kernel
theorem dX9_kindOf_31 : decode cX9_kindOf 31 = .ok (.istore 6, 2) := by decide +kernel
theorem dX9_kindOf_33 : decode cX9_kindOf 33 = .ok (.iconst 0, 1) := by decide +kernel
theorem dX9_kindOf_34 : decode cX9_kindOf 34 = .ok (.istore 7, 2) := by decide +kernel
theorem dX9_kindOf_36 : decode cX9_kindOf 36 = .ok (.iload 7, 2) := by decide +kernel
theorem dX9_kindOf_38 : decode cX9_kindOf 38 = .ok (.iconst 3, 1) := by decide +kernel
theorem dX9_kindOf_39 : decode cX9_kindOf 39 = .ok (.if_icmp .ge 82, 3) := by decide +kernel
theorem dX9_kindOf_42 : decode cX9_kindOf 42 = .ok (.aload_n 0, 1) := by decide +kernel
theorem dX9_kindOf_43 : decode cX9_kindOf 43 = .ok (.getfield 22, 3) := by decide +kernel
theorem dX9_kindOf_46 : decode cX9_kindOf 46 = .ok (.iconst 3, 1) := by decide +kernel
theorem dX9_kindOf_47 : decode cX9_kindOf 47 = .ok (.iload_n 1, 1) := by decide +kernel
theorem dX9_kindOf_48 : decode cX9_kindOf 48 = .ok (.imul, 1) := by decide +kernel
theorem dX9_kindOf_49 : decode cX9_kindOf 49 = .ok (.iload 7, 2) := by decide +kernel
theorem dX9_kindOf_51 : decode cX9_kindOf 51 = .ok (.iadd, 1) := by decide +kernel
theorem dX9_kindOf_52 : decode cX9_kindOf 52 = .ok (.iaload, 1) := by decide +kernel
theorem dX9_kindOf_53 : decode cX9_kindOf 53 = .ok (.istore 8, 2) := by decide +kernel
theorem dX9_kindOf_55 : decode cX9_kindOf 55 = .ok (.iload 6, 2) := by decide +kernel
theorem dX9_kindOf_57 : decode cX9_kindOf 57 = .ok (.ifCond .eq 55, 3) := by decide +kernel
theorem dX9_kindOf_60 : decode cX9_kindOf 60 = .ok (.aload_n 0, 1) := by decide +kernel
theorem dX9_kindOf_61 : decode cX9_kindOf 61 = .ok (.getfield 19, 3) := by decide +kernel
theorem dX9_kindOf_64 : decode cX9_kindOf 64 = .ok (.iconst 4, 1) := by decide +kernel
theorem dX9_kindOf_65 : decode cX9_kindOf 65 = .ok (.iload 8, 2) := by decide +kernel
theorem dX9_kindOf_67 : decode cX9_kindOf 67 = .ok (.imul, 1) := by decide +kernel
theorem dX9_kindOf_68 : decode cX9_kindOf 68 = .ok (.iaload, 1) := by decide +kernel
theorem dX9_kindOf_69 : decode cX9_kindOf 69 = .ok (.aload_n 0, 1) := by decide +kernel
theorem dX9_kindOf_70 : decode cX9_kindOf 70 = .ok (.getfield 19, 3) := by decide +kernel
theorem dX9_kindOf_73 : decode cX9_kindOf 73 = .ok (.iconst 4, 1) := by decide +kernel
theorem dX9_kindOf_74 : decode cX9_kindOf 74 = .ok (.iload 8, 2) := by decide +kernel
theorem dX9_kindOf_76 : decode cX9_kindOf 76 = .ok (.imul, 1) := by decide +kernel
theorem dX9_kindOf_77 : decode cX9_kindOf 77 = .ok (.iconst 2, 1) := by decide +kernel
theorem dX9_kindOf_78 : decode cX9_kindOf 78 = .ok (.iadd, 1) := by decide +kernel
theorem dX9_kindOf_79 : decode cX9_kindOf 79 = .ok (.iaload, 1) := by decide +kernel
theorem dX9_kindOf_80 : decode cX9_kindOf 80 = .ok (.if_icmp .ne 32, 3) := by decide +kernel
theorem dX9_kindOf_83 : decode cX9_kindOf 83 = .ok (.aload_n 0, 1) := by decide +kernel
theorem dX9_kindOf_84 : decode cX9_kindOf 84 = .ok (.getfield 19, 3) := by decide +kernel
theorem dX9_kindOf_87 : decode cX9_kindOf 87 = .ok (.iconst 4, 1) := by decide +kernel
theorem dX9_kindOf_88 : decode cX9_kindOf 88 = .ok (.iload 8, 2) := by decide +kernel
theorem dX9_kindOf_90 : decode cX9_kindOf 90 = .ok (.imul, 1) := by decide +kernel
theorem dX9_kindOf_91 : decode cX9_kindOf 91 = .ok (.iconst 1, 1) := by decide +kernel
theorem dX9_kindOf_92 : decode cX9_kindOf 92 = .ok (.iadd, 1) := by decide +kernel
theorem dX9_kindOf_93 : decode cX9_kindOf 93 = .ok (.iaload, 1) := by decide +kernel
theorem dX9_kindOf_94 : decode cX9_kindOf 94 = .ok (.aload_n 0, 1) := by decide +kernel
theorem dX9_kindOf_95 : decode cX9_kindOf 95 = .ok (.getfield 19, 3) := by decide +kernel
theorem dX9_kindOf_98 : decode cX9_kindOf 98 = .ok (.iconst 4, 1) := by decide +kernel
theorem dX9_kindOf_99 : decode cX9_kindOf 99 = .ok (.iload 8, 2) := by decide +kernel
theorem dX9_kindOf_101 : decode cX9_kindOf 101 = .ok (.imul, 1) := by decide +kernel
theorem dX9_kindOf_102 : decode cX9_kindOf 102 = .ok (.iconst 3, 1) := by decide +kernel
theorem dX9_kindOf_103 : decode cX9_kindOf 103 = .ok (.iadd, 1) := by decide +kernel
theorem dX9_kindOf_104 : decode cX9_kindOf 104 = .ok (.iaload, 1) := by decide +kernel
theorem dX9_kindOf_105 : decode cX9_kindOf 105 = .ok (.if_icmp .ne 7, 3) := by decide +kernel
theorem dX9_kindOf_108 : decode cX9_kindOf 108 = .ok (.iconst 1, 1) := by decide +kernel
theorem dX9_kindOf_109 : decode cX9_kindOf 109 = .ok (.goto 4, 3) := by decide +kernel
theorem dX9_kindOf_112 : decode cX9_kindOf 112 = .ok (.iconst 0, 1) := by decide +kernel
theorem dX9_kindOf_113 : decode cX9_kindOf 113 = .ok (.istore 6, 2) := by decide +kernel
theorem dX9_kindOf_115 : decode cX9_kindOf 115 = .ok (.iinc 7 1, 3) := by decide +kernel
theorem dX9_kindOf_118 : decode cX9_kindOf 118 = .ok (.goto (-82), 3) := by decide +kernel
theorem dX9_kindOf_121 : decode cX9_kindOf 121 = .ok (.iload 6, 2) := by decide +kernel
theorem dX9_kindOf_123 : decode cX9_kindOf 123 = .ok (.ifCond .eq 7, 3) := by decide +kernel
theorem dX9_kindOf_126 : decode cX9_kindOf 126 = .ok (.iconst 2, 1) := by decide +kernel
theorem dX9_kindOf_127 : decode cX9_kindOf 127 = .ok (.goto 4, 3) := by decide +kernel
theorem dX9_kindOf_130 : decode cX9_kindOf 130 = .ok (.iconst 1, 1) := by decide +kernel
theorem dX9_kindOf_131 : decode cX9_kindOf 131 = .ok (.ireturn, 1) := by decide +kernel
theorem dX9_kindOf_132 : decode cX9_kindOf 132 = .ok (.lload_n 2, 1) := by decide +kernel
theorem dX9_kindOf_133 : decode cX9_kindOf 133 = .ok (.lconst 0, 1) := by decide +kernel
theorem dX9_kindOf_134 : decode cX9_kindOf 134 = .ok (.lcmp, 1) := by decide +kernel
theorem dX9_kindOf_135 : decode cX9_kindOf 135 = .ok (.ifCond .eq 10, 3) := by decide +kernel
theorem dX9_kindOf_138 : decode cX9_kindOf 138 = .ok (.lload 4, 2) := by decide +kernel
theorem dX9_kindOf_140 : decode cX9_kindOf 140 = .ok (.lconst 0, 1) := by decide +kernel
theorem dX9_kindOf_141 : decode cX9_kindOf 141 = .ok (.lcmp, 1) := by decide +kernel
theorem dX9_kindOf_142 : decode cX9_kindOf 142 = .ok (.ifCond .ne 7, 3) := by decide +kernel
theorem dX9_kindOf_145 : decode cX9_kindOf 145 = .ok (.iconst 3, 1) := by decide +kernel
theorem dX9_kindOf_146 : decode cX9_kindOf 146 = .ok (.goto 4, 3) := by decide +kernel
theorem dX9_kindOf_149 : decode cX9_kindOf 149 = .ok (.iconst 4, 1) := by decide +kernel
theorem dX9_kindOf_150 : decode cX9_kindOf 150 = .ok (.ireturn, 1) := by decide +kernel
theorem dX9_kind_0 : decode cX9_kind 0 = .ok (.aload_n 0, 1) := by decide +kernel
theorem dX9_kind_1 : decode cX9_kind 1 = .ok (.iconst 0, 1) := by decide +kernel
theorem dX9_kind_2 : decode cX9_kind 2 = .ok (.putfield 52, 3) := by decide +kernel
theorem dX9_kind_5 : decode cX9_kind 5 = .ok (.aload_n 0, 1) := by decide +kernel
theorem dX9_kind_6 : decode cX9_kind 6 = .ok (.iload_n 1, 1) := by decide +kernel
theorem dX9_kind_7 : decode cX9_kind 7 = .ok (.invokevirtual 107, 3) := by decide +kernel
theorem dX9_kind_10 : decode cX9_kind 10 = .ok (.ifCond .eq 11, 3) := by decide +kernel
theorem dX9_kind_13 : decode cX9_kind 13 = .ok (.aload_n 0, 1) := by decide +kernel
theorem dX9_kind_14 : decode cX9_kind 14 = .ok (.iload_n 1, 1) := by decide +kernel
theorem dX9_kind_15 : decode cX9_kind 15 = .ok (.invokevirtual 171, 3) := by decide +kernel
theorem dX9_kind_18 : decode cX9_kind 18 = .ok (.goto 5, 3) := by decide +kernel
theorem dX9_kind_21 : decode cX9_kind 21 = .ok (.ldc 72, 2) := by decide +kernel
theorem dX9_kind_23 : decode cX9_kind 23 = .ok (.ireturn, 1) := by decide +kernel
theorem dX9_isOf_0 : decode cX9_isOf 0 = .ok (.iload_n 1, 1) := by decide +kernel
theorem dX9_isOf_1 : decode cX9_isOf 1 = .ok (.ifCond .eq 18, 3) := by decide +kernel
theorem dX9_isOf_4 : decode cX9_isOf 4 = .ok (.iload_n 0, 1) := by decide +kernel
theorem dX9_isOf_5 : decode cX9_isOf 5 = .ok (.iload_n 1, 1) := by decide +kernel
theorem dX9_isOf_6 : decode cX9_isOf 6 = .ok (.if_icmp .eq 13, 3) := by decide +kernel
theorem dX9_isOf_9 : decode cX9_isOf 9 = .ok (.iload_n 1, 1) := by decide +kernel
theorem dX9_isOf_10 : decode cX9_isOf 10 = .ok (.iconst 1, 1) := by decide +kernel
theorem dX9_isOf_11 : decode cX9_isOf 11 = .ok (.if_icmp .ne 12, 3) := by decide +kernel
theorem dX9_isOf_14 : decode cX9_isOf 14 = .ok (.iload_n 0, 1) := by decide +kernel
theorem dX9_isOf_15 : decode cX9_isOf 15 = .ok (.iconst 2, 1) := by decide +kernel
theorem dX9_isOf_16 : decode cX9_isOf 16 = .ok (.if_icmp .ne 7, 3) := by decide +kernel
theorem dX9_isOf_19 : decode cX9_isOf 19 = .ok (.iconst 1, 1) := by decide +kernel
theorem dX9_isOf_20 : decode cX9_isOf 20 = .ok (.goto 4, 3) := by decide +kernel
theorem dX9_isOf_23 : decode cX9_isOf 23 = .ok (.iconst 0, 1) := by decide +kernel
theorem dX9_isOf_24 : decode cX9_isOf 24 = .ok (.ireturn, 1) := by decide +kernel
theorem dX9_as_0 : decode cX9_as 0 = .ok (.aload_n 0, 1) := by decide +kernel
theorem dX9_as_1 : decode cX9_as 1 = .ok (.iconst 0, 1) := by decide +kernel
theorem dX9_as_2 : decode cX9_as 2 = .ok (.putfield 52, 3) := by decide +kernel
theorem dX9_as_5 : decode cX9_as 5 = .ok (.aload_n 0, 1) := by decide +kernel
theorem dX9_as_6 : decode cX9_as 6 = .ok (.iload_n 1, 1) := by decide +kernel
theorem dX9_as_7 : decode cX9_as 7 = .ok (.invokevirtual 107, 3) := by decide +kernel
theorem dX9_as_10 : decode cX9_as 10 = .ok (.ifCond .eq 15, 3) := by decide +kernel
theorem dX9_as_13 : decode cX9_as 13 = .ok (.iload_n 2, 1) := by decide +kernel
theorem dX9_as_14 : decode cX9_as 14 = .ok (.i2l, 1) := by decide +kernel
theorem dX9_as_15 : decode cX9_as 15 = .ok (.lconst 0, 1) := by decide +kernel
theorem dX9_as_16 : decode cX9_as 16 = .ok (.ldc2_w 110, 3) := by decide +kernel
theorem dX9_as_19 : decode cX9_as 19 = .ok (.invokestatic 62, 3) := by decide +kernel
theorem dX9_as_22 : decode cX9_as 22 = .ok (.ifCond .ne 6, 3) := by decide +kernel
theorem dX9_as_25 : decode cX9_as 25 = .ok (.ldc 72, 2) := by decide +kernel
theorem dX9_as_27 : decode cX9_as 27 = .ok (.ireturn, 1) := by decide +kernel
theorem dX9_as_28 : decode cX9_as 28 = .ok (.aload_n 0, 1) := by decide +kernel
theorem dX9_as_29 : decode cX9_as 29 = .ok (.iconst 0, 1) := by decide +kernel
theorem dX9_as_30 : decode cX9_as 30 = .ok (.putfield 56, 3) := by decide +kernel
theorem dX9_as_33 : decode cX9_as 33 = .ok (.aload_n 0, 1) := by decide +kernel
theorem dX9_as_34 : decode cX9_as 34 = .ok (.iload_n 1, 1) := by decide +kernel
theorem dX9_as_35 : decode cX9_as 35 = .ok (.invokevirtual 171, 3) := by decide +kernel
theorem dX9_as_38 : decode cX9_as 38 = .ok (.iload_n 2, 1) := by decide +kernel
theorem dX9_as_39 : decode cX9_as 39 = .ok (.invokestatic 174, 3) := by decide +kernel
theorem dX9_as_42 : decode cX9_as 42 = .ok (.ifCond .eq 14, 3) := by decide +kernel
theorem dX9_as_45 : decode cX9_as 45 = .ok (.aload_n 0, 1) := by decide +kernel
theorem dX9_as_46 : decode cX9_as 46 = .ok (.iload_n 1, 1) := by decide +kernel
theorem dX9_as_47 : decode cX9_as 47 = .ok (.iconst 1, 1) := by decide +kernel
theorem dX9_as_48 : decode cX9_as 48 = .ok (.iconst 1, 1) := by decide +kernel
theorem dX9_as_49 : decode cX9_as 49 = .ok (.invokevirtual 112, 3) := by decide +kernel
theorem dX9_as_52 : decode cX9_as 52 = .ok (.l2i, 1) := by decide +kernel
theorem dX9_as_53 : decode cX9_as 53 = .ok (.goto 8, 3) := by decide +kernel
theorem dX9_as_56 : decode cX9_as 56 = .ok (.aload_n 0, 1) := by decide +kernel
theorem dX9_as_57 : decode cX9_as 57 = .ok (.iconst 3, 1) := by decide +kernel
theorem dX9_as_58 : decode cX9_as 58 = .ok (.invokevirtual 73, 3) := by decide +kernel
theorem dX9_as_61 : decode cX9_as 61 = .ok (.ireturn, 1) := by decide +kernel
theorem dX9_began_0 : decode cX9_began 0 = .ok (.aload_n 0, 1) := by decide +kernel
theorem dX9_began_1 : decode cX9_began 1 = .ok (.getfield 177, 3) := by decide +kernel
theorem dX9_began_4 : decode cX9_began 4 = .ok (.bipush 16, 2) := by decide +kernel
theorem dX9_began_6 : decode cX9_began 6 = .ok (.if_icmp .ge 23, 3) := by decide +kernel
theorem dX9_began_9 : decode cX9_began 9 = .ok (.aload_n 0, 1) := by decide +kernel
theorem dX9_began_10 : decode cX9_began 10 = .ok (.getfield 49, 3) := by decide +kernel
theorem dX9_began_13 : decode cX9_began 13 = .ok (.aload_n 0, 1) := by decide +kernel
theorem dX9_began_14 : decode cX9_began 14 = .ok (.getfield 177, 3) := by decide +kernel
theorem dX9_began_17 : decode cX9_began 17 = .ok (.iload_n 1, 1) := by decide +kernel
theorem dX9_began_18 : decode cX9_began 18 = .ok (.iastore, 1) := by decide +kernel
theorem dX9_began_19 : decode cX9_began 19 = .ok (.aload_n 0, 1) := by decide +kernel
theorem dX9_began_20 : decode cX9_began 20 = .ok (.dup, 1) := by decide +kernel
theorem dX9_began_21 : decode cX9_began 21 = .ok (.getfield 177, 3) := by decide +kernel
theorem dX9_began_24 : decode cX9_began 24 = .ok (.iconst 1, 1) := by decide +kernel
theorem dX9_began_25 : decode cX9_began 25 = .ok (.iadd, 1) := by decide +kernel
theorem dX9_began_26 : decode cX9_began 26 = .ok (.putfield 177, 3) := by decide +kernel
theorem dX9_began_29 : decode cX9_began 29 = .ok (.return_, 1) := by decide +kernel
theorem dX9_plainSize_0 : decode cX9_plainSize 0 = .ok (.aload_n 0, 1) := by decide +kernel
theorem dX9_plainSize_1 : decode cX9_plainSize 1 = .ok (.bipush 10, 2) := by decide +kernel
theorem dX9_plainSize_3 : decode cX9_plainSize 3 = .ok (.invokevirtual 180, 3) := by decide +kernel
theorem dX9_plainSize_6 : decode cX9_plainSize 6 = .ok (.aload_n 0, 1) := by decide +kernel
theorem dX9_plainSize_7 : decode cX9_plainSize 7 = .ok (.iload_n 1, 1) := by decide +kernel
theorem dX9_plainSize_8 : decode cX9_plainSize 8 = .ok (.iconst 0, 1) := by decide +kernel
theorem dX9_plainSize_9 : decode cX9_plainSize 9 = .ok (.iconst 1, 1) := by decide +kernel
theorem dX9_plainSize_10 : decode cX9_plainSize 10 = .ok (.invokevirtual 112, 3) := by decide +kernel
theorem dX9_plainSize_13 : decode cX9_plainSize 13 = .ok (.l2i, 1) := by decide +kernel
theorem dX9_plainSize_14 : decode cX9_plainSize 14 = .ok (.iconst 2, 1) := by decide +kernel
theorem dX9_plainSize_15 : decode cX9_plainSize 15 = .ok (.idiv, 1) := by decide +kernel
theorem dX9_plainSize_16 : decode cX9_plainSize 16 = .ok (.ireturn, 1) := by decide +kernel
theorem dX9_marked_0 : decode cX9_marked 0 = .ok (.aload_n 0, 1) := by decide +kernel
theorem dX9_marked_1 : decode cX9_marked 1 = .ok (.iload_n 1, 1) := by decide +kernel
theorem dX9_marked_2 : decode cX9_marked 2 = .ok (.invokevirtual 171, 3) := by decide +kernel
theorem dX9_marked_5 : decode cX9_marked 5 = .ok (.istore_n 2, 1) := by decide +kernel
theorem dX9_marked_6 : decode cX9_marked 6 = .ok (.iload_n 2, 1) := by decide +kernel
theorem dX9_marked_7 : decode cX9_marked 7 = .ok (.iconst 4, 1) := by decide +kernel
theorem dX9_marked_8 : decode cX9_marked 8 = .ok (.if_icmp .ne 9, 3) := by decide +kernel
theorem dX9_marked_11 : decode cX9_marked 11 = .ok (.aload_n 0, 1) := by decide +kernel
theorem dX9_marked_12 : decode cX9_marked 12 = .ok (.bipush 22, 2) := by decide +kernel
theorem dX9_marked_14 : decode cX9_marked 14 = .ok (.invokevirtual 180, 3) := by decide +kernel
theorem dX9_marked_17 : decode cX9_marked 17 = .ok (.iload_n 2, 1) := by decide +kernel
theorem dX9_marked_18 : decode cX9_marked 18 = .ok (.iconst 1, 1) := by decide +kernel
theorem dX9_marked_19 : decode cX9_marked 19 = .ok (.invokestatic 174, 3) := by decide +kernel
theorem dX9_marked_22 : decode cX9_marked 22 = .ok (.ifCond .eq 9, 3) := by decide +kernel
theorem dX9_marked_25 : decode cX9_marked 25 = .ok (.aload_n 0, 1) := by decide +kernel
theorem dX9_marked_26 : decode cX9_marked 26 = .ok (.bipush 21, 2) := by decide +kernel
theorem dX9_marked_28 : decode cX9_marked 28 = .ok (.invokevirtual 180, 3) := by decide +kernel
theorem dX9_marked_31 : decode cX9_marked 31 = .ok (.aload_n 0, 1) := by decide +kernel
theorem dX9_marked_32 : decode cX9_marked 32 = .ok (.bipush 20, 2) := by decide +kernel
theorem dX9_marked_34 : decode cX9_marked 34 = .ok (.invokevirtual 180, 3) := by decide +kernel
theorem dX9_marked_37 : decode cX9_marked 37 = .ok (.aload_n 0, 1) := by decide +kernel
theorem dX9_marked_38 : decode cX9_marked 38 = .ok (.getfield 22, 3) := by decide +kernel
theorem dX9_marked_41 : decode cX9_marked 41 = .ok (.iconst 3, 1) := by decide +kernel
theorem dX9_marked_42 : decode cX9_marked 42 = .ok (.iload_n 1, 1) := by decide +kernel
theorem dX9_marked_43 : decode cX9_marked 43 = .ok (.imul, 1) := by decide +kernel
theorem dX9_marked_44 : decode cX9_marked 44 = .ok (.iaload, 1) := by decide +kernel
theorem dX9_marked_45 : decode cX9_marked 45 = .ok (.aload_n 0, 1) := by decide +kernel
theorem dX9_marked_46 : decode cX9_marked 46 = .ok (.getfield 22, 3) := by decide +kernel
theorem dX9_marked_49 : decode cX9_marked 49 = .ok (.iconst 3, 1) := by decide +kernel
theorem dX9_marked_50 : decode cX9_marked 50 = .ok (.iload_n 1, 1) := by decide +kernel
theorem dX9_marked_51 : decode cX9_marked 51 = .ok (.imul, 1) := by decide +kernel
theorem dX9_marked_52 : decode cX9_marked 52 = .ok (.iconst 1, 1) := by decide +kernel
theorem dX9_marked_53 : decode cX9_marked 53 = .ok (.iadd, 1) := by decide +kernel
theorem dX9_marked_54 : decode cX9_marked 54 = .ok (.iaload, 1) := by decide +kernel
theorem dX9_marked_55 : decode cX9_marked 55 = .ok (.iadd, 1) := by decide +kernel
theorem dX9_marked_56 : decode cX9_marked 56 = .ok (.aload_n 0, 1) := by decide +kernel
theorem dX9_marked_57 : decode cX9_marked 57 = .ok (.getfield 22, 3) := by decide +kernel
theorem dX9_marked_60 : decode cX9_marked 60 = .ok (.iconst 3, 1) := by decide +kernel
theorem dX9_marked_61 : decode cX9_marked 61 = .ok (.iload_n 1, 1) := by decide +kernel
theorem dX9_marked_62 : decode cX9_marked 62 = .ok (.imul, 1) := by decide +kernel
theorem dX9_marked_63 : decode cX9_marked 63 = .ok (.iconst 2, 1) := by decide +kernel
theorem dX9_marked_64 : decode cX9_marked 64 = .ok (.iadd, 1) := by decide +kernel
theorem dX9_marked_65 : decode cX9_marked 65 = .ok (.iaload, 1) := by decide +kernel
theorem dX9_marked_66 : decode cX9_marked 66 = .ok (.iadd, 1) := by decide +kernel
theorem dX9_marked_67 : decode cX9_marked 67 = .ok (.iload_n 2, 1) := by decide +kernel
theorem dX9_marked_68 : decode cX9_marked 68 = .ok (.iconst 1, 1) := by decide +kernel
theorem dX9_marked_69 : decode cX9_marked 69 = .ok (.invokestatic 174, 3) := by decide +kernel
theorem dX9_marked_72 : decode cX9_marked 72 = .ok (.ifCond .eq 8, 3) := by decide +kernel
theorem dX9_marked_75 : decode cX9_marked 75 = .ok (.bipush 100, 2) := by decide +kernel
theorem dX9_marked_77 : decode cX9_marked 77 = .ok (.goto 4, 3) := by decide +kernel
theorem dX9_marked_80 : decode cX9_marked 80 = .ok (.iconst 0, 1) := by decide +kernel
theorem dX9_marked_81 : decode cX9_marked 81 = .ok (.iadd, 1) := by decide +kernel
theorem dX9_marked_82 : decode cX9_marked 82 = .ok (.istore_n 3, 1) := by decide +kernel
theorem dX9_marked_83 : decode cX9_marked 83 = .ok (.iload_n 2, 1) := by decide +kernel
theorem dX9_marked_84 : decode cX9_marked 84 = .ok (.iconst 4, 1) := by decide +kernel
theorem dX9_marked_85 : decode cX9_marked 85 = .ok (.if_icmp .ne 13, 3) := by decide +kernel
theorem dX9_marked_88 : decode cX9_marked 88 = .ok (.iload_n 3, 1) := by decide +kernel
theorem dX9_marked_89 : decode cX9_marked 89 = .ok (.aload_n 0, 1) := by decide +kernel
theorem dX9_marked_90 : decode cX9_marked 90 = .ok (.iload_n 1, 1) := by decide +kernel
theorem dX9_marked_91 : decode cX9_marked 91 = .ok (.invokevirtual 184, 3) := by decide +kernel
theorem dX9_marked_94 : decode cX9_marked 94 = .ok (.iadd, 1) := by decide +kernel
theorem dX9_marked_95 : decode cX9_marked 95 = .ok (.goto 4, 3) := by decide +kernel
theorem dX9_marked_98 : decode cX9_marked 98 = .ok (.iload_n 3, 1) := by decide +kernel
theorem dX9_marked_99 : decode cX9_marked 99 = .ok (.ireturn, 1) := by decide +kernel
theorem dX9_sized_0 : decode cX9_sized 0 = .ok (.aload_n 0, 1) := by decide +kernel
theorem dX9_sized_1 : decode cX9_sized 1 = .ok (.iload_n 1, 1) := by decide +kernel
theorem dX9_sized_2 : decode cX9_sized 2 = .ok (.invokevirtual 171, 3) := by decide +kernel
theorem dX9_sized_5 : decode cX9_sized 5 = .ok (.istore_n 2, 1) := by decide +kernel
theorem dX9_sized_6 : decode cX9_sized 6 = .ok (.iload_n 2, 1) := by decide +kernel
theorem dX9_sized_7 : decode cX9_sized 7 = .ok (.iconst 3, 1) := by decide +kernel
theorem dX9_sized_8 : decode cX9_sized 8 = .ok (.if_icmp .ne 11, 3) := by decide +kernel
theorem dX9_sized_11 : decode cX9_sized 11 = .ok (.aload_n 0, 1) := by decide +kernel
theorem dX9_sized_12 : decode cX9_sized 12 = .ok (.bipush 13, 2) := by decide +kernel
theorem dX9_sized_14 : decode cX9_sized 14 = .ok (.invokevirtual 180, 3) := by decide +kernel
theorem dX9_sized_17 : decode cX9_sized 17 = .ok (.iconst 0, 1) := by decide +kernel
theorem dX9_sized_18 : decode cX9_sized 18 = .ok (.ireturn, 1) := by decide +kernel
theorem dX9_sized_19 : decode cX9_sized 19 = .ok (.iload_n 2, 1) := by decide +kernel
theorem dX9_sized_20 : decode cX9_sized 20 = .ok (.iconst 2, 1) := by decide +kernel
theorem dX9_sized_21 : decode cX9_sized 21 = .ok (.if_icmp .ne 9, 3) := by decide +kernel
theorem dX9_sized_24 : decode cX9_sized 24 = .ok (.aload_n 0, 1) := by decide +kernel
theorem dX9_sized_25 : decode cX9_sized 25 = .ok (.bipush 12, 2) := by decide +kernel
theorem dX9_sized_27 : decode cX9_sized 27 = .ok (.invokevirtual 180, 3) := by decide +kernel
theorem dX9_sized_30 : decode cX9_sized 30 = .ok (.iload_n 2, 1) := by decide +kernel
theorem dX9_sized_31 : decode cX9_sized 31 = .ok (.iconst 1, 1) := by decide +kernel
theorem dX9_sized_32 : decode cX9_sized 32 = .ok (.invokestatic 174, 3) := by decide +kernel
theorem dX9_sized_35 : decode cX9_sized 35 = .ok (.ifCond .eq 9, 3) := by decide +kernel
theorem dX9_sized_38 : decode cX9_sized 38 = .ok (.aload_n 0, 1) := by decide +kernel
theorem dX9_sized_39 : decode cX9_sized 39 = .ok (.bipush 11, 2) := by decide +kernel
theorem dX9_sized_41 : decode cX9_sized 41 = .ok (.invokevirtual 180, 3) := by decide +kernel
theorem dX9_sized_44 : decode cX9_sized 44 = .ok (.aload_n 0, 1) := by decide +kernel
theorem dX9_sized_45 : decode cX9_sized 45 = .ok (.iload_n 1, 1) := by decide +kernel
theorem dX9_sized_46 : decode cX9_sized 46 = .ok (.invokevirtual 184, 3) := by decide +kernel
theorem dX9_sized_49 : decode cX9_sized 49 = .ok (.istore_n 3, 1) := by decide +kernel
theorem dX9_sized_50 : decode cX9_sized 50 = .ok (.iload_n 2, 1) := by decide +kernel
theorem dX9_sized_51 : decode cX9_sized 51 = .ok (.iconst 1, 1) := by decide +kernel
theorem dX9_sized_52 : decode cX9_sized 52 = .ok (.invokestatic 174, 3) := by decide +kernel
theorem dX9_sized_55 : decode cX9_sized 55 = .ok (.ifCond .eq 16, 3) := by decide +kernel
theorem dX9_sized_58 : decode cX9_sized 58 = .ok (.iload_n 3, 1) := by decide +kernel
theorem dX9_sized_59 : decode cX9_sized 59 = .ok (.aload_n 0, 1) := by decide +kernel
theorem dX9_sized_60 : decode cX9_sized 60 = .ok (.iload_n 1, 1) := by decide +kernel
theorem dX9_sized_61 : decode cX9_sized 61 = .ok (.iconst 1, 1) := by decide +kernel
theorem dX9_sized_62 : decode cX9_sized 62 = .ok (.iconst 1, 1) := by decide +kernel
theorem dX9_sized_63 : decode cX9_sized 63 = .ok (.invokevirtual 112, 3) := by decide +kernel
theorem dX9_sized_66 : decode cX9_sized 66 = .ok (.l2i, 1) := by decide +kernel
theorem dX9_sized_67 : decode cX9_sized 67 = .ok (.iconst 2, 1) := by decide +kernel
theorem dX9_sized_68 : decode cX9_sized 68 = .ok (.idiv, 1) := by decide +kernel
theorem dX9_sized_69 : decode cX9_sized 69 = .ok (.iadd, 1) := by decide +kernel
theorem dX9_sized_70 : decode cX9_sized 70 = .ok (.istore_n 3, 1) := by decide +kernel
theorem dX9_sized_71 : decode cX9_sized 71 = .ok (.iload_n 2, 1) := by decide +kernel
theorem dX9_sized_72 : decode cX9_sized 72 = .ok (.iconst 2, 1) := by decide +kernel
theorem dX9_sized_73 : decode cX9_sized 73 = .ok (.if_icmp .ne 13, 3) := by decide +kernel
theorem dX9_sized_76 : decode cX9_sized 76 = .ok (.iload_n 3, 1) := by decide +kernel
theorem dX9_sized_77 : decode cX9_sized 77 = .ok (.aload_n 0, 1) := by decide +kernel
theorem dX9_sized_78 : decode cX9_sized 78 = .ok (.iload_n 1, 1) := by decide +kernel
theorem dX9_sized_79 : decode cX9_sized 79 = .ok (.invokevirtual 187, 3) := by decide +kernel
theorem dX9_sized_82 : decode cX9_sized 82 = .ok (.iadd, 1) := by decide +kernel
theorem dX9_sized_83 : decode cX9_sized 83 = .ok (.goto 4, 3) := by decide +kernel
theorem dX9_sized_86 : decode cX9_sized 86 = .ok (.iload_n 3, 1) := by decide +kernel
theorem dX9_sized_87 : decode cX9_sized 87 = .ok (.ireturn, 1) := by decide +kernel
theorem dX9_ask_0 : decode cX9_ask 0 = .ok (.aload_n 0, 1) := by decide +kernel
theorem dX9_ask_1 : decode cX9_ask 1 = .ok (.iconst 0, 1) := by decide +kernel
theorem dX9_ask_2 : decode cX9_ask 2 = .ok (.putfield 52, 3) := by decide +kernel
theorem dX9_ask_5 : decode cX9_ask 5 = .ok (.aload_n 0, 1) := by decide +kernel
theorem dX9_ask_6 : decode cX9_ask 6 = .ok (.iload_n 1, 1) := by decide +kernel
theorem dX9_ask_7 : decode cX9_ask 7 = .ok (.invokevirtual 107, 3) := by decide +kernel
theorem dX9_ask_10 : decode cX9_ask 10 = .ok (.ifCond .eq 13, 3) := by decide +kernel
theorem dX9_ask_13 : decode cX9_ask 13 = .ok (.iload_n 2, 1) := by decide +kernel
theorem dX9_ask_14 : decode cX9_ask 14 = .ok (.i2l, 1) := by decide +kernel
theorem dX9_ask_15 : decode cX9_ask 15 = .ok (.lconst 0, 1) := by decide +kernel
theorem dX9_ask_16 : decode cX9_ask 16 = .ok (.lconst 1, 1) := by decide +kernel
theorem dX9_ask_17 : decode cX9_ask 17 = .ok (.invokestatic 62, 3) := by decide +kernel
theorem dX9_ask_20 : decode cX9_ask 20 = .ok (.ifCond .ne 6, 3) := by decide +kernel
theorem dX9_ask_23 : decode cX9_ask 23 = .ok (.ldc 72, 2) := by decide +kernel
theorem dX9_ask_25 : decode cX9_ask 25 = .ok (.ireturn, 1) := by decide +kernel
theorem dX9_ask_26 : decode cX9_ask 26 = .ok (.aload_n 0, 1) := by decide +kernel
theorem dX9_ask_27 : decode cX9_ask 27 = .ok (.iconst 0, 1) := by decide +kernel
theorem dX9_ask_28 : decode cX9_ask 28 = .ok (.putfield 177, 3) := by decide +kernel
theorem dX9_ask_31 : decode cX9_ask 31 = .ok (.iload_n 2, 1) := by decide +kernel
theorem dX9_ask_32 : decode cX9_ask 32 = .ok (.ifCond .ne 11, 3) := by decide +kernel
theorem dX9_ask_35 : decode cX9_ask 35 = .ok (.aload_n 0, 1) := by decide +kernel
theorem dX9_ask_36 : decode cX9_ask 36 = .ok (.iload_n 1, 1) := by decide +kernel
theorem dX9_ask_37 : decode cX9_ask 37 = .ok (.invokevirtual 190, 3) := by decide +kernel
theorem dX9_ask_40 : decode cX9_ask 40 = .ok (.goto 8, 3) := by decide +kernel
theorem dX9_ask_43 : decode cX9_ask 43 = .ok (.aload_n 0, 1) := by decide +kernel
theorem dX9_ask_44 : decode cX9_ask 44 = .ok (.iload_n 1, 1) := by decide +kernel
theorem dX9_ask_45 : decode cX9_ask 45 = .ok (.invokevirtual 187, 3) := by decide +kernel
theorem dX9_ask_48 : decode cX9_ask 48 = .ok (.ireturn, 1) := by decide +kernel
theorem dX9_trace_0 : decode cX9_trace 0 = .ok (.aload_n 0, 1) := by decide +kernel
theorem dX9_trace_1 : decode cX9_trace 1 = .ok (.iconst 0, 1) := by decide +kernel
theorem dX9_trace_2 : decode cX9_trace 2 = .ok (.putfield 52, 3) := by decide +kernel
theorem dX9_trace_5 : decode cX9_trace 5 = .ok (.iload_n 1, 1) := by decide +kernel
theorem dX9_trace_6 : decode cX9_trace 6 = .ok (.i2l, 1) := by decide +kernel
theorem dX9_trace_7 : decode cX9_trace 7 = .ok (.lconst 0, 1) := by decide +kernel
theorem dX9_trace_8 : decode cX9_trace 8 = .ok (.aload_n 0, 1) := by decide +kernel
theorem dX9_trace_9 : decode cX9_trace 9 = .ok (.getfield 177, 3) := by decide +kernel
theorem dX9_trace_12 : decode cX9_trace 12 = .ok (.iconst 1, 1) := by decide +kernel
theorem dX9_trace_13 : decode cX9_trace 13 = .ok (.isub, 1) := by decide +kernel
theorem dX9_trace_14 : decode cX9_trace 14 = .ok (.i2l, 1) := by decide +kernel
theorem dX9_trace_15 : decode cX9_trace 15 = .ok (.invokestatic 62, 3) := by decide +kernel
theorem dX9_trace_18 : decode cX9_trace 18 = .ok (.ifCond .eq 12, 3) := by decide +kernel
theorem dX9_trace_21 : decode cX9_trace 21 = .ok (.aload_n 0, 1) := by decide +kernel
theorem dX9_trace_22 : decode cX9_trace 22 = .ok (.getfield 49, 3) := by decide +kernel
theorem dX9_trace_25 : decode cX9_trace 25 = .ok (.iload_n 1, 1) := by decide +kernel
theorem dX9_trace_26 : decode cX9_trace 26 = .ok (.iaload, 1) := by decide +kernel
theorem dX9_trace_27 : decode cX9_trace 27 = .ok (.goto 5, 3) := by decide +kernel
theorem dX9_trace_30 : decode cX9_trace 30 = .ok (.ldc 116, 2) := by decide +kernel
theorem dX9_trace_32 : decode cX9_trace 32 = .ok (.ireturn, 1) := by decide +kernel
theorem dX9_count_0 : decode cX9_count 0 = .ok (.aload_n 0, 1) := by decide +kernel
theorem dX9_count_1 : decode cX9_count 1 = .ok (.iconst 0, 1) := by decide +kernel
theorem dX9_count_2 : decode cX9_count 2 = .ok (.putfield 52, 3) := by decide +kernel
theorem dX9_count_5 : decode cX9_count 5 = .ok (.iconst 0, 1) := by decide +kernel
theorem dX9_count_6 : decode cX9_count 6 = .ok (.istore_n 2, 1) := by decide +kernel
theorem dX9_count_7 : decode cX9_count 7 = .ok (.iload_n 1, 1) := by decide +kernel
theorem dX9_count_8 : decode cX9_count 8 = .ok (.tableswitch 136 0 7 #[48, 81, 86, 91, 91, 91, 91, 131], 48) := by decide +kernel
theorem dX9_count_56 : decode cX9_count 56 = .ok (.iconst 0, 1) := by decide +kernel
theorem dX9_count_57 : decode cX9_count 57 = .ok (.istore_n 3, 1) := by decide +kernel
theorem dX9_count_58 : decode cX9_count 58 = .ok (.iload_n 3, 1) := by decide +kernel
theorem dX9_count_59 : decode cX9_count 59 = .ok (.bipush 8, 2) := by decide +kernel
theorem dX9_count_61 : decode cX9_count 61 = .ok (.if_icmp .ge 26, 3) := by decide +kernel
theorem dX9_count_64 : decode cX9_count 64 = .ok (.iload_n 2, 1) := by decide +kernel
theorem dX9_count_65 : decode cX9_count 65 = .ok (.aload_n 0, 1) := by decide +kernel
theorem dX9_count_66 : decode cX9_count 66 = .ok (.getfield 7, 3) := by decide +kernel
theorem dX9_count_69 : decode cX9_count 69 = .ok (.iload_n 3, 1) := by decide +kernel
theorem dX9_count_70 : decode cX9_count 70 = .ok (.iaload, 1) := by decide +kernel
theorem dX9_count_71 : decode cX9_count 71 = .ok (.ifCond .lt 7, 3) := by decide +kernel
theorem dX9_count_74 : decode cX9_count 74 = .ok (.iconst 1, 1) := by decide +kernel
theorem dX9_count_75 : decode cX9_count 75 = .ok (.goto 4, 3) := by decide +kernel
theorem dX9_count_78 : decode cX9_count 78 = .ok (.iconst 0, 1) := by decide +kernel
theorem dX9_count_79 : decode cX9_count 79 = .ok (.iadd, 1) := by decide +kernel
theorem dX9_count_80 : decode cX9_count 80 = .ok (.istore_n 2, 1) := by decide +kernel
theorem dX9_count_81 : decode cX9_count 81 = .ok (.iinc 3 1, 3) := by decide +kernel
theorem dX9_count_84 : decode cX9_count 84 = .ok (.goto (-26), 3) := by decide +kernel
theorem dX9_count_87 : decode cX9_count 87 = .ok (.iload_n 2, 1) := by decide +kernel
theorem dX9_count_88 : decode cX9_count 88 = .ok (.ireturn, 1) := by decide +kernel
theorem dX9_count_89 : decode cX9_count 89 = .ok (.aload_n 0, 1) := by decide +kernel
theorem dX9_count_90 : decode cX9_count 90 = .ok (.getfield 77, 3) := by decide +kernel
theorem dX9_count_93 : decode cX9_count 93 = .ok (.ireturn, 1) := by decide +kernel
theorem dX9_count_94 : decode cX9_count 94 = .ok (.aload_n 0, 1) := by decide +kernel
theorem dX9_count_95 : decode cX9_count 95 = .ok (.getfield 99, 3) := by decide +kernel
theorem dX9_count_98 : decode cX9_count 98 = .ok (.ireturn, 1) := by decide +kernel
theorem dX9_count_99 : decode cX9_count 99 = .ok (.iconst 0, 1) := by decide +kernel
theorem dX9_count_100 : decode cX9_count 100 = .ok (.istore_n 3, 1) := by decide +kernel
theorem dX9_count_101 : decode cX9_count 101 = .ok (.iload_n 3, 1) := by decide +kernel
theorem dX9_count_102 : decode cX9_count 102 = .ok (.aload_n 0, 1) := by decide +kernel
theorem dX9_count_103 : decode cX9_count 103 = .ok (.getfield 99, 3) := by decide +kernel
theorem dX9_count_106 : decode cX9_count 106 = .ok (.if_icmp .ge 31, 3) := by decide +kernel
theorem dX9_count_109 : decode cX9_count 109 = .ok (.iload_n 2, 1) := by decide +kernel
theorem dX9_count_110 : decode cX9_count 110 = .ok (.aload_n 0, 1) := by decide +kernel
theorem dX9_count_111 : decode cX9_count 111 = .ok (.iload_n 3, 1) := by decide +kernel
theorem dX9_count_112 : decode cX9_count 112 = .ok (.invokevirtual 171, 3) := by decide +kernel
theorem dX9_count_115 : decode cX9_count 115 = .ok (.iload_n 1, 1) := by decide +kernel
theorem dX9_count_116 : decode cX9_count 116 = .ok (.iconst 2, 1) := by decide +kernel
theorem dX9_count_117 : decode cX9_count 117 = .ok (.isub, 1) := by decide +kernel
theorem dX9_count_118 : decode cX9_count 118 = .ok (.invokestatic 174, 3) := by decide +kernel
theorem dX9_count_121 : decode cX9_count 121 = .ok (.ifCond .eq 7, 3) := by decide +kernel
theorem dX9_count_124 : decode cX9_count 124 = .ok (.iconst 1, 1) := by decide +kernel
theorem dX9_count_125 : decode cX9_count 125 = .ok (.goto 4, 3) := by decide +kernel
theorem dX9_count_128 : decode cX9_count 128 = .ok (.iconst 0, 1) := by decide +kernel
theorem dX9_count_129 : decode cX9_count 129 = .ok (.iadd, 1) := by decide +kernel
theorem dX9_count_130 : decode cX9_count 130 = .ok (.istore_n 2, 1) := by decide +kernel
theorem dX9_count_131 : decode cX9_count 131 = .ok (.iinc 3 1, 3) := by decide +kernel
theorem dX9_count_134 : decode cX9_count 134 = .ok (.goto (-33), 3) := by decide +kernel
theorem dX9_count_137 : decode cX9_count 137 = .ok (.iload_n 2, 1) := by decide +kernel
theorem dX9_count_138 : decode cX9_count 138 = .ok (.ireturn, 1) := by decide +kernel
theorem dX9_count_139 : decode cX9_count 139 = .ok (.aload_n 0, 1) := by decide +kernel
theorem dX9_count_140 : decode cX9_count 140 = .ok (.getfield 123, 3) := by decide +kernel
theorem dX9_count_143 : decode cX9_count 143 = .ok (.ireturn, 1) := by decide +kernel
theorem dX9_count_144 : decode cX9_count 144 = .ok (.ldc 72, 2) := by decide +kernel
theorem dX9_count_146 : decode cX9_count 146 = .ok (.ireturn, 1) := by decide +kernel
theorem dX9_status_0 : decode cX9_status 0 = .ok (.aload_n 0, 1) := by decide +kernel
theorem dX9_status_1 : decode cX9_status 1 = .ok (.iconst 0, 1) := by decide +kernel
theorem dX9_status_2 : decode cX9_status 2 = .ok (.putfield 52, 3) := by decide +kernel
theorem dX9_status_5 : decode cX9_status 5 = .ok (.aload_n 0, 1) := by decide +kernel
theorem dX9_status_6 : decode cX9_status 6 = .ok (.getfield 56, 3) := by decide +kernel
theorem dX9_status_9 : decode cX9_status 9 = .ok (.ireturn, 1) := by decide +kernel
