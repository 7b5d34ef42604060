theorem dX8_init_0 : decode cX8_init 0 = .ok (.aload_n 0, 1) := by decide +kernel
theorem dX8_init_1 : decode cX8_init 1 = .ok (.invokespecial 1, 3) := by decide +kernel
theorem dX8_init_4 : decode cX8_init 4 = .ok (.aload_n 0, 1) := by decide +kernel
theorem dX8_init_5 : decode cX8_init 5 = .ok (.new 7, 3) := by decide +kernel
theorem dX8_init_8 : decode cX8_init 8 = .ok (.dup, 1) := by decide +kernel
theorem dX8_init_9 : decode cX8_init 9 = .ok (.invokespecial 9, 3) := by decide +kernel
theorem dX8_init_12 : decode cX8_init 12 = .ok (.putfield 10, 3) := by decide +kernel
theorem dX8_init_15 : decode cX8_init 15 = .ok (.aload_n 0, 1) := by decide +kernel
theorem dX8_init_16 : decode cX8_init 16 = .ok (.new 16, 3) := by decide +kernel
theorem dX8_init_19 : decode cX8_init 19 = .ok (.dup, 1) := by decide +kernel
theorem dX8_init_20 : decode cX8_init 20 = .ok (.invokespecial 18, 3) := by decide +kernel
theorem dX8_init_23 : decode cX8_init 23 = .ok (.putfield 19, 3) := by decide +kernel
theorem dX8_init_26 : decode cX8_init 26 = .ok (.aload_n 0, 1) := by decide +kernel
theorem dX8_init_27 : decode cX8_init 27 = .ok (.new 23, 3) := by decide +kernel
theorem dX8_init_30 : decode cX8_init 30 = .ok (.dup, 1) := by decide +kernel
theorem dX8_init_31 : decode cX8_init 31 = .ok (.aload_n 0, 1) := by decide +kernel
theorem dX8_init_32 : decode cX8_init 32 = .ok (.getfield 19, 3) := by decide +kernel
theorem dX8_init_35 : decode cX8_init 35 = .ok (.invokespecial 25, 3) := by decide +kernel
theorem dX8_init_38 : decode cX8_init 38 = .ok (.putfield 28, 3) := by decide +kernel
theorem dX8_init_41 : decode cX8_init 41 = .ok (.aload_n 0, 1) := by decide +kernel
theorem dX8_init_42 : decode cX8_init 42 = .ok (.new 32, 3) := by decide +kernel
theorem dX8_init_45 : decode cX8_init 45 = .ok (.dup, 1) := by decide +kernel
theorem dX8_init_46 : decode cX8_init 46 = .ok (.invokespecial 34, 3) := by decide +kernel
theorem dX8_init_49 : decode cX8_init 49 = .ok (.putfield 35, 3) := by decide +kernel
theorem dX8_init_52 : decode cX8_init 52 = .ok (.aload_n 0, 1) := by decide +kernel
theorem dX8_init_53 : decode cX8_init 53 = .ok (.new 39, 3) := by decide +kernel
theorem dX8_init_56 : decode cX8_init 56 = .ok (.dup, 1) := by decide +kernel
theorem dX8_init_57 : decode cX8_init 57 = .ok (.aload_n 0, 1) := by decide +kernel
theorem dX8_init_58 : decode cX8_init 58 = .ok (.getfield 19, 3) := by decide +kernel
theorem dX8_init_61 : decode cX8_init 61 = .ok (.aload_n 0, 1) := by decide +kernel
theorem dX8_init_62 : decode cX8_init 62 = .ok (.getfield 28, 3) := by decide +kernel
theorem dX8_init_65 : decode cX8_init 65 = .ok (.invokespecial 41, 3) := by decide +kernel
theorem dX8_init_68 : decode cX8_init 68 = .ok (.putfield 44, 3) := by decide +kernel
theorem dX8_init_71 : decode cX8_init 71 = .ok (.aload_n 0, 1) := by decide +kernel
theorem dX8_init_72 : decode cX8_init 72 = .ok (.new 48, 3) := by decide +kernel
theorem dX8_init_75 : decode cX8_init 75 = .ok (.dup, 1) := by decide +kernel
theorem dX8_init_76 : decode cX8_init 76 = .ok (.invokespecial 50, 3) := by decide +kernel
theorem dX8_init_79 : decode cX8_init 79 = .ok (.putfield 51, 3) := by decide +kernel
theorem dX8_init_82 : decode cX8_init 82 = .ok (.aload_n 0, 1) := by decide +kernel
theorem dX8_init_83 : decode cX8_init 83 = .ok (.new 55, 3) := by decide +kernel
theorem dX8_init_86 : decode cX8_init 86 = .ok (.dup, 1) := by decide +kernel
theorem dX8_init_87 : decode cX8_init 87 = .ok (.aload_n 0, 1) := by decide +kernel
theorem dX8_init_88 : decode cX8_init 88 = .ok (.getfield 10, 3) := by decide +kernel
theorem dX8_init_91 : decode cX8_init 91 = .ok (.invokespecial 57, 3) := by decide +kernel
theorem dX8_init_94 : decode cX8_init 94 = .ok (.putfield 60, 3) := by decide +kernel
theorem dX8_init_97 : decode cX8_init 97 = .ok (.aload_n 0, 1) := by decide +kernel
theorem dX8_init_98 : decode cX8_init 98 = .ok (.new 64, 3) := by decide +kernel
theorem dX8_init_101 : decode cX8_init 101 = .ok (.dup, 1) := by decide +kernel
theorem dX8_init_102 : decode cX8_init 102 = .ok (.aload_n 0, 1) := by decide +kernel
theorem dX8_init_103 : decode cX8_init 103 = .ok (.getfield 28, 3) := by decide +kernel
theorem dX8_init_106 : decode cX8_init 106 = .ok (.invokespecial 66, 3) := by decide +kernel
theorem dX8_init_109 : decode cX8_init 109 = .ok (.putfield 69, 3) := by decide +kernel
theorem dX8_init_112 : decode cX8_init 112 = .ok (.aload_n 0, 1) := by decide +kernel
theorem dX8_init_113 : decode cX8_init 113 = .ok (.iconst 0, 1) := by decide +kernel
theorem dX8_init_114 : decode cX8_init 114 = .ok (.putfield 73, 3) := by decide +kernel
theorem dX8_init_117 : decode cX8_init 117 = .ok (.return_, 1) := by decide +kernel
theorem dX8_sheet_0 : decode cX8_sheet 0 = .ok (.iload_n 1, 1) := by decide +kernel
theorem dX8_sheet_1 : decode cX8_sheet 1 = .ok (.invokestatic 77, 3) := by decide +kernel
theorem dX8_sheet_4 : decode cX8_sheet 4 = .ok (.ifCond .eq 17, 3) := by decide +kernel
theorem dX8_sheet_7 : decode cX8_sheet 7 = .ok (.iload_n 2, 1) := by decide +kernel
theorem dX8_sheet_8 : decode cX8_sheet 8 = .ok (.invokestatic 81, 3) := by decide +kernel
theorem dX8_sheet_11 : decode cX8_sheet 11 = .ok (.ifCond .eq 10, 3) := by decide +kernel
theorem dX8_sheet_14 : decode cX8_sheet 14 = .ok (.iload_n 3, 1) := by decide +kernel
theorem dX8_sheet_15 : decode cX8_sheet 15 = .ok (.sipush 144, 3) := by decide +kernel
theorem dX8_sheet_18 : decode cX8_sheet 18 = .ok (.if_icmp .le 6, 3) := by decide +kernel
theorem dX8_sheet_21 : decode cX8_sheet 21 = .ok (.ldc 84, 2) := by decide +kernel
theorem dX8_sheet_23 : decode cX8_sheet 23 = .ok (.ireturn, 1) := by decide +kernel
theorem dX8_sheet_24 : decode cX8_sheet 24 = .ok (.iload_n 3, 1) := by decide +kernel
theorem dX8_sheet_25 : decode cX8_sheet 25 = .ok (.ifCond .ge 9, 3) := by decide +kernel
theorem dX8_sheet_28 : decode cX8_sheet 28 = .ok (.aload_n 0, 1) := by decide +kernel
theorem dX8_sheet_29 : decode cX8_sheet 29 = .ok (.iconst 4, 1) := by decide +kernel
theorem dX8_sheet_30 : decode cX8_sheet 30 = .ok (.invokevirtual 85, 3) := by decide +kernel
theorem dX8_sheet_33 : decode cX8_sheet 33 = .ok (.ireturn, 1) := by decide +kernel
theorem dX8_sheet_34 : decode cX8_sheet 34 = .ok (.aload_n 0, 1) := by decide +kernel
theorem dX8_sheet_35 : decode cX8_sheet 35 = .ok (.getfield 10, 3) := by decide +kernel
theorem dX8_sheet_38 : decode cX8_sheet 38 = .ok (.iload_n 1, 1) := by decide +kernel
theorem dX8_sheet_39 : decode cX8_sheet 39 = .ok (.iload_n 2, 1) := by decide +kernel
theorem dX8_sheet_40 : decode cX8_sheet 40 = .ok (.iload_n 3, 1) := by decide +kernel
theorem dX8_sheet_41 : decode cX8_sheet 41 = .ok (.invokevirtual 89, 3) := by decide +kernel
theorem dX8_sheet_44 : decode cX8_sheet 44 = .ok (.aload_n 0, 1) := by decide +kernel
theorem dX8_sheet_45 : decode cX8_sheet 45 = .ok (.iload_n 3, 1) := by decide +kernel
theorem dX8_sheet_46 : decode cX8_sheet 46 = .ok (.invokevirtual 93, 3) := by decide +kernel
theorem dX8_sheet_49 : decode cX8_sheet 49 = .ok (.ireturn, 1) := by decide +kernel
theorem dX8_set_0 : decode cX8_set 0 = .ok (.iload_n 1, 1) := by decide +kernel
theorem dX8_set_1 : decode cX8_set 1 = .ok (.invokestatic 77, 3) := by decide +kernel
theorem dX8_set_4 : decode cX8_set 4 = .ok (.ifCond .ne 6, 3) := by decide +kernel
theorem dX8_set_7 : decode cX8_set 7 = .ok (.ldc 84, 2) := by decide +kernel
theorem dX8_set_9 : decode cX8_set 9 = .ok (.ireturn, 1) := by decide +kernel
theorem dX8_set_10 : decode cX8_set 10 = .ok (.aload_n 0, 1) := by decide +kernel
theorem dX8_set_11 : decode cX8_set 11 = .ok (.getfield 10, 3) := by decide +kernel
theorem dX8_set_14 : decode cX8_set 14 = .ok (.iload_n 1, 1) := by decide +kernel
theorem dX8_set_15 : decode cX8_set 15 = .ok (.invokevirtual 96, 3) := by decide +kernel
theorem dX8_set_18 : decode cX8_set 18 = .ok (.ifCond .eq 9, 3) := by decide +kernel
theorem dX8_set_21 : decode cX8_set 21 = .ok (.aload_n 0, 1) := by decide +kernel
theorem dX8_set_22 : decode cX8_set 22 = .ok (.iconst 1, 1) := by decide +kernel
theorem dX8_set_23 : decode cX8_set 23 = .ok (.invokevirtual 85, 3) := by decide +kernel
theorem dX8_set_26 : decode cX8_set 26 = .ok (.ireturn, 1) := by decide +kernel
theorem dX8_set_27 : decode cX8_set 27 = .ok (.aload_n 0, 1) := by decide +kernel
theorem dX8_set_28 : decode cX8_set 28 = .ok (.getfield 10, 3) := by decide +kernel
theorem dX8_set_31 : decode cX8_set 31 = .ok (.iload_n 1, 1) := by decide +kernel
theorem dX8_set_32 : decode cX8_set 32 = .ok (.iload_n 2, 1) := by decide +kernel
theorem dX8_set_33 : decode cX8_set 33 = .ok (.iconst 1, 1) := by decide +kernel
theorem dX8_set_34 : decode cX8_set 34 = .ok (.invokevirtual 99, 3) := by decide +kernel
theorem dX8_set_37 : decode cX8_set 37 = .ok (.ifCond .ne 9, 3) := by decide +kernel
theorem dX8_set_40 : decode cX8_set 40 = .ok (.aload_n 0, 1) := by decide +kernel
theorem dX8_set_41 : decode cX8_set 41 = .ok (.iconst 2, 1) := by decide +kernel
theorem dX8_set_42 : decode cX8_set 42 = .ok (.invokevirtual 85, 3) := by decide +kernel
theorem dX8_set_45 : decode cX8_set 45 = .ok (.ireturn, 1) := by decide +kernel
theorem dX8_set_46 : decode cX8_set 46 = .ok (.aload_n 0, 1) := by decide +kernel
theorem dX8_set_47 : decode cX8_set 47 = .ok (.getfield 10, 3) := by decide +kernel
theorem dX8_set_50 : decode cX8_set 50 = .ok (.iload_n 1, 1) := by decide +kernel
theorem dX8_set_51 : decode cX8_set 51 = .ok (.iload_n 2, 1) := by decide +kernel
theorem dX8_set_52 : decode cX8_set 52 = .ok (.iload_n 3, 1) := by decide +kernel
theorem dX8_set_53 : decode cX8_set 53 = .ok (.invokevirtual 103, 3) := by decide +kernel
theorem dX8_set_56 : decode cX8_set 56 = .ok (.aload_n 0, 1) := by decide +kernel
theorem dX8_set_57 : decode cX8_set 57 = .ok (.aload_n 0, 1) := by decide +kernel
theorem dX8_set_58 : decode cX8_set 58 = .ok (.getfield 10, 3) := by decide +kernel
theorem dX8_set_61 : decode cX8_set 61 = .ok (.iload_n 1, 1) := by decide +kernel
theorem dX8_set_62 : decode cX8_set 62 = .ok (.iload_n 2, 1) := by decide +kernel
theorem dX8_set_63 : decode cX8_set 63 = .ok (.invokevirtual 106, 3) := by decide +kernel
theorem dX8_set_66 : decode cX8_set 66 = .ok (.invokevirtual 93, 3) := by decide +kernel
theorem dX8_set_69 : decode cX8_set 69 = .ok (.ireturn, 1) := by decide +kernel
theorem dX8_copy_0 : decode cX8_copy 0 = .ok (.iload_n 1, 1) := by decide +kernel
theorem dX8_copy_1 : decode cX8_copy 1 = .ok (.invokestatic 77, 3) := by decide +kernel
theorem dX8_copy_4 : decode cX8_copy 4 = .ok (.ifCond .eq 10, 3) := by decide +kernel
theorem dX8_copy_7 : decode cX8_copy 7 = .ok (.iload_n 3, 1) := by decide +kernel
theorem dX8_copy_8 : decode cX8_copy 8 = .ok (.invokestatic 77, 3) := by decide +kernel
theorem dX8_copy_11 : decode cX8_copy 11 = .ok (.ifCond .ne 6, 3) := by decide +kernel
theorem dX8_copy_14 : decode cX8_copy 14 = .ok (.ldc 84, 2) := by decide +kernel
theorem dX8_copy_16 : decode cX8_copy 16 = .ok (.ireturn, 1) := by decide +kernel
theorem dX8_copy_17 : decode cX8_copy 17 = .ok (.aload_n 0, 1) := by decide +kernel
theorem dX8_copy_18 : decode cX8_copy 18 = .ok (.getfield 10, 3) := by decide +kernel
theorem dX8_copy_21 : decode cX8_copy 21 = .ok (.iload_n 1, 1) := by decide +kernel
theorem dX8_copy_22 : decode cX8_copy 22 = .ok (.invokevirtual 96, 3) := by decide +kernel
theorem dX8_copy_25 : decode cX8_copy 25 = .ok (.ifCond .ne 14, 3) := by decide +kernel
theorem dX8_copy_28 : decode cX8_copy 28 = .ok (.aload_n 0, 1) := by decide +kernel
theorem dX8_copy_29 : decode cX8_copy 29 = .ok (.getfield 10, 3) := by decide +kernel
theorem dX8_copy_32 : decode cX8_copy 32 = .ok (.iload_n 3, 1) := by decide +kernel
theorem dX8_copy_33 : decode cX8_copy 33 = .ok (.invokevirtual 96, 3) := by decide +kernel
theorem dX8_copy_36 : decode cX8_copy 36 = .ok (.ifCond .eq 9, 3) := by decide +kernel
theorem dX8_copy_39 : decode cX8_copy 39 = .ok (.aload_n 0, 1) := by decide +kernel
theorem dX8_copy_40 : decode cX8_copy 40 = .ok (.iconst 1, 1) := by decide +kernel
theorem dX8_copy_41 : decode cX8_copy 41 = .ok (.invokevirtual 85, 3) := by decide +kernel
theorem dX8_copy_44 : decode cX8_copy 44 = .ok (.ireturn, 1) := by decide +kernel
theorem dX8_copy_45 : decode cX8_copy 45 = .ok (.aload_n 0, 1) := by decide +kernel
theorem dX8_copy_46 : decode cX8_copy 46 = .ok (.getfield 10, 3) := by decide +kernel
theorem dX8_copy_49 : decode cX8_copy 49 = .ok (.iload_n 1, 1) := by decide +kernel
theorem dX8_copy_50 : decode cX8_copy 50 = .ok (.invokevirtual 110, 3) := by decide +kernel
theorem dX8_copy_53 : decode cX8_copy 53 = .ok (.aload_n 0, 1) := by decide +kernel
theorem dX8_copy_54 : decode cX8_copy 54 = .ok (.getfield 10, 3) := by decide +kernel
theorem dX8_copy_57 : decode cX8_copy 57 = .ok (.iload_n 3, 1) := by decide +kernel
theorem dX8_copy_58 : decode cX8_copy 58 = .ok (.invokevirtual 110, 3) := by decide +kernel
theorem dX8_copy_61 : decode cX8_copy 61 = .ok (.if_icmp .eq 9, 3) := by decide +kernel
theorem dX8_copy_64 : decode cX8_copy 64 = .ok (.aload_n 0, 1) := by decide +kernel
theorem dX8_copy_65 : decode cX8_copy 65 = .ok (.iconst 5, 1) := by decide +kernel
theorem dX8_copy_66 : decode cX8_copy 66 = .ok (.invokevirtual 85, 3) := by decide +kernel
theorem dX8_copy_69 : decode cX8_copy 69 = .ok (.ireturn, 1) := by decide +kernel
theorem dX8_copy_70 : decode cX8_copy 70 = .ok (.aload_n 0, 1) := by decide +kernel
theorem dX8_copy_71 : decode cX8_copy 71 = .ok (.getfield 10, 3) := by decide +kernel
theorem dX8_copy_74 : decode cX8_copy 74 = .ok (.iload_n 1, 1) := by decide +kernel
theorem dX8_copy_75 : decode cX8_copy 75 = .ok (.iload_n 2, 1) := by decide +kernel
theorem dX8_copy_76 : decode cX8_copy 76 = .ok (.iload 5, 2) := by decide +kernel
theorem dX8_copy_78 : decode cX8_copy 78 = .ok (.invokevirtual 99, 3) := by decide +kernel
theorem dX8_copy_81 : decode cX8_copy 81 = .ok (.ifCond .eq 18, 3) := by decide +kernel
theorem dX8_copy_84 : decode cX8_copy 84 = .ok (.aload_n 0, 1) := by decide +kernel
theorem dX8_copy_85 : decode cX8_copy 85 = .ok (.getfield 10, 3) := by decide +kernel
theorem dX8_copy_88 : decode cX8_copy 88 = .ok (.iload_n 3, 1) := by decide +kernel
theorem dX8_copy_89 : decode cX8_copy 89 = .ok (.iload 4, 2) := by decide +kernel
theorem dX8_copy_91 : decode cX8_copy 91 = .ok (.iload 5, 2) := by decide +kernel
theorem dX8_copy_93 : decode cX8_copy 93 = .ok (.invokevirtual 99, 3) := by decide +kernel
theorem dX8_copy_96 : decode cX8_copy 96 = .ok (.ifCond .ne 9, 3) := by decide +kernel
theorem dX8_copy_99 : decode cX8_copy 99 = .ok (.aload_n 0, 1) := by decide +kernel
theorem dX8_copy_100 : decode cX8_copy 100 = .ok (.iconst 2, 1) := by decide +kernel
theorem dX8_copy_101 : decode cX8_copy 101 = .ok (.invokevirtual 85, 3) := by decide +kernel
theorem dX8_copy_104 : decode cX8_copy 104 = .ok (.ireturn, 1) := by decide +kernel
theorem dX8_copy_105 : decode cX8_copy 105 = .ok (.aload_n 0, 1) := by decide +kernel
theorem dX8_copy_106 : decode cX8_copy 106 = .ok (.getfield 10, 3) := by decide +kernel
theorem dX8_copy_109 : decode cX8_copy 109 = .ok (.iload_n 1, 1) := by decide +kernel
theorem dX8_copy_110 : decode cX8_copy 110 = .ok (.iload_n 2, 1) := by decide +kernel
theorem dX8_copy_111 : decode cX8_copy 111 = .ok (.iload_n 3, 1) := by decide +kernel
theorem dX8_copy_112 : decode cX8_copy 112 = .ok (.iload 4, 2) := by decide +kernel
theorem dX8_copy_114 : decode cX8_copy 114 = .ok (.iload 5, 2) := by decide +kernel
theorem dX8_copy_116 : decode cX8_copy 116 = .ok (.invokevirtual 113, 3) := by decide +kernel
theorem dX8_copy_119 : decode cX8_copy 119 = .ok (.aload_n 0, 1) := by decide +kernel
theorem dX8_copy_120 : decode cX8_copy 120 = .ok (.iload 5, 2) := by decide +kernel
theorem dX8_copy_122 : decode cX8_copy 122 = .ok (.invokevirtual 93, 3) := by decide +kernel
theorem dX8_copy_125 : decode cX8_copy 125 = .ok (.ireturn, 1) := by decide +kernel
theorem dX8_drop_0 : decode cX8_drop 0 = .ok (.iload_n 1, 1) := by decide +kernel
theorem dX8_drop_1 : decode cX8_drop 1 = .ok (.invokestatic 77, 3) := by decide +kernel
theorem dX8_drop_4 : decode cX8_drop 4 = .ok (.ifCond .ne 6, 3) := by decide +kernel
theorem dX8_drop_7 : decode cX8_drop 7 = .ok (.ldc 84, 2) := by decide +kernel
theorem dX8_drop_9 : decode cX8_drop 9 = .ok (.ireturn, 1) := by decide +kernel
theorem dX8_drop_10 : decode cX8_drop 10 = .ok (.aload_n 0, 1) := by decide +kernel
theorem dX8_drop_11 : decode cX8_drop 11 = .ok (.getfield 10, 3) := by decide +kernel
theorem dX8_drop_14 : decode cX8_drop 14 = .ok (.iload_n 1, 1) := by decide +kernel
theorem dX8_drop_15 : decode cX8_drop 15 = .ok (.invokevirtual 96, 3) := by decide +kernel
theorem dX8_drop_18 : decode cX8_drop 18 = .ok (.ifCond .eq 9, 3) := by decide +kernel
theorem dX8_drop_21 : decode cX8_drop 21 = .ok (.aload_n 0, 1) := by decide +kernel
theorem dX8_drop_22 : decode cX8_drop 22 = .ok (.iconst 1, 1) := by decide +kernel
theorem dX8_drop_23 : decode cX8_drop 23 = .ok (.invokevirtual 85, 3) := by decide +kernel
theorem dX8_drop_26 : decode cX8_drop 26 = .ok (.ireturn, 1) := by decide +kernel
theorem dX8_drop_27 : decode cX8_drop 27 = .ok (.aload_n 0, 1) := by decide +kernel
theorem dX8_drop_28 : decode cX8_drop 28 = .ok (.aload_n 0, 1) := by decide +kernel
theorem dX8_drop_29 : decode cX8_drop 29 = .ok (.getfield 10, 3) := by decide +kernel
theorem dX8_drop_32 : decode cX8_drop 32 = .ok (.iload_n 1, 1) := by decide +kernel
theorem dX8_drop_33 : decode cX8_drop 33 = .ok (.invokevirtual 117, 3) := by decide +kernel
theorem dX8_drop_36 : decode cX8_drop 36 = .ok (.invokevirtual 93, 3) := by decide +kernel
theorem dX8_drop_39 : decode cX8_drop 39 = .ok (.ireturn, 1) := by decide +kernel
theorem dX8_mark_0 : decode cX8_mark 0 = .ok (.iload_n 1, 1) := by decide +kernel
theorem dX8_mark_1 : decode cX8_mark 1 = .ok (.iload_n 2, 1) := by decide +kernel
theorem dX8_mark_2 : decode cX8_mark 2 = .ok (.invokestatic 120, 3) := by decide +kernel
theorem dX8_mark_5 : decode cX8_mark 5 = .ok (.ifCond .eq 12, 3) := by decide +kernel
theorem dX8_mark_8 : decode cX8_mark 8 = .ok (.iload_n 3, 1) := by decide +kernel
theorem dX8_mark_9 : decode cX8_mark 9 = .ok (.iload 4, 2) := by decide +kernel
theorem dX8_mark_11 : decode cX8_mark 11 = .ok (.invokestatic 120, 3) := by decide +kernel
theorem dX8_mark_14 : decode cX8_mark 14 = .ok (.ifCond .ne 6, 3) := by decide +kernel
theorem dX8_mark_17 : decode cX8_mark 17 = .ok (.ldc 84, 2) := by decide +kernel
theorem dX8_mark_19 : decode cX8_mark 19 = .ok (.ireturn, 1) := by decide +kernel
theorem dX8_mark_20 : decode cX8_mark 20 = .ok (.aload_n 0, 1) := by decide +kernel
theorem dX8_mark_21 : decode cX8_mark 21 = .ok (.getfield 19, 3) := by decide +kernel
theorem dX8_mark_24 : decode cX8_mark 24 = .ok (.invokevirtual 124, 3) := by decide +kernel
theorem dX8_mark_27 : decode cX8_mark 27 = .ok (.ifCond .eq 6, 3) := by decide +kernel
theorem dX8_mark_30 : decode cX8_mark 30 = .ok (.ldc 128, 2) := by decide +kernel
theorem dX8_mark_32 : decode cX8_mark 32 = .ok (.ireturn, 1) := by decide +kernel
theorem dX8_mark_33 : decode cX8_mark 33 = .ok (.aload_n 0, 1) := by decide +kernel
theorem dX8_mark_34 : decode cX8_mark 34 = .ok (.getfield 19, 3) := by decide +kernel
theorem dX8_mark_37 : decode cX8_mark 37 = .ok (.iload_n 1, 1) := by decide +kernel
theorem dX8_mark_38 : decode cX8_mark 38 = .ok (.iload_n 2, 1) := by decide +kernel
theorem dX8_mark_39 : decode cX8_mark 39 = .ok (.iload_n 3, 1) := by decide +kernel
theorem dX8_mark_40 : decode cX8_mark 40 = .ok (.iload 4, 2) := by decide +kernel
theorem dX8_mark_42 : decode cX8_mark 42 = .ok (.invokevirtual 129, 3) := by decide +kernel
theorem dX8_mark_45 : decode cX8_mark 45 = .ok (.ireturn, 1) := by decide +kernel
theorem dX8_move_0 : decode cX8_move 0 = .ok (.aload_n 0, 1) := by decide +kernel
theorem dX8_move_1 : decode cX8_move 1 = .ok (.getfield 19, 3) := by decide +kernel
theorem dX8_move_4 : decode cX8_move 4 = .ok (.iload_n 1, 1) := by decide +kernel
theorem dX8_move_5 : decode cX8_move 5 = .ok (.invokevirtual 133, 3) := by decide +kernel
theorem dX8_move_8 : decode cX8_move 8 = .ok (.ifCond .eq 19, 3) := by decide +kernel
theorem dX8_move_11 : decode cX8_move 11 = .ok (.iload_n 2, 1) := by decide +kernel
theorem dX8_move_12 : decode cX8_move 12 = .ok (.invokestatic 136, 3) := by decide +kernel
theorem dX8_move_15 : decode cX8_move 15 = .ok (.ifCond .eq 12, 3) := by decide +kernel
theorem dX8_move_18 : decode cX8_move 18 = .ok (.iload_n 3, 1) := by decide +kernel
theorem dX8_move_19 : decode cX8_move 19 = .ok (.iload 4, 2) := by decide +kernel
theorem dX8_move_21 : decode cX8_move 21 = .ok (.invokestatic 120, 3) := by decide +kernel
theorem dX8_move_24 : decode cX8_move 24 = .ok (.ifCond .ne 6, 3) := by decide +kernel
theorem dX8_move_27 : decode cX8_move 27 = .ok (.ldc 84, 2) := by decide +kernel
theorem dX8_move_29 : decode cX8_move 29 = .ok (.ireturn, 1) := by decide +kernel
theorem dX8_move_30 : decode cX8_move 30 = .ok (.aload_n 0, 1) := by decide +kernel
theorem dX8_move_31 : decode cX8_move 31 = .ok (.getfield 19, 3) := by decide +kernel
theorem dX8_move_34 : decode cX8_move 34 = .ok (.iload_n 1, 1) := by decide +kernel
theorem dX8_move_35 : decode cX8_move 35 = .ok (.iload_n 2, 1) := by decide +kernel
theorem dX8_move_36 : decode cX8_move 36 = .ok (.iload_n 3, 1) := by decide +kernel
theorem dX8_move_37 : decode cX8_move 37 = .ok (.iload 4, 2) := by decide +kernel
theorem dX8_move_39 : decode cX8_move 39 = .ok (.invokevirtual 139, 3) := by decide +kernel
theorem dX8_move_42 : decode cX8_move 42 = .ok (.iconst 1, 1) := by decide +kernel
theorem dX8_move_43 : decode cX8_move 43 = .ok (.ireturn, 1) := by decide +kernel
theorem dX8_at_0 : decode cX8_at 0 = .ok (.aload_n 0, 1) := by decide +kernel
theorem dX8_at_1 : decode cX8_at 1 = .ok (.getfield 19, 3) := by decide +kernel
theorem dX8_at_4 : decode cX8_at 4 = .ok (.iload_n 1, 1) := by decide +kernel
theorem dX8_at_5 : decode cX8_at 5 = .ok (.invokevirtual 133, 3) := by decide +kernel
theorem dX8_at_8 : decode cX8_at 8 = .ok (.ifCond .eq 21, 3) := by decide +kernel
theorem dX8_at_11 : decode cX8_at 11 = .ok (.iload_n 2, 1) := by decide +kernel
theorem dX8_at_12 : decode cX8_at 12 = .ok (.iload_n 3, 1) := by decide +kernel
theorem dX8_at_13 : decode cX8_at 13 = .ok (.invokestatic 142, 3) := by decide +kernel
theorem dX8_at_16 : decode cX8_at 16 = .ok (.ifCond .eq 13, 3) := by decide +kernel
theorem dX8_at_19 : decode cX8_at 19 = .ok (.iload 4, 2) := by decide +kernel
theorem dX8_at_21 : decode cX8_at 21 = .ok (.iconst 0, 1) := by decide +kernel
theorem dX8_at_22 : decode cX8_at 22 = .ok (.iconst 1, 1) := by decide +kernel
theorem dX8_at_23 : decode cX8_at 23 = .ok (.invokestatic 145, 3) := by decide +kernel
theorem dX8_at_26 : decode cX8_at 26 = .ok (.ifCond .ne 6, 3) := by decide +kernel
theorem dX8_at_29 : decode cX8_at 29 = .ok (.ldc 84, 2) := by decide +kernel
theorem dX8_at_31 : decode cX8_at 31 = .ok (.ireturn, 1) := by decide +kernel
theorem dX8_at_32 : decode cX8_at 32 = .ok (.iload 4, 2) := by decide +kernel
theorem dX8_at_34 : decode cX8_at 34 = .ok (.ifCond .ne 16, 3) := by decide +kernel
theorem dX8_at_37 : decode cX8_at 37 = .ok (.aload_n 0, 1) := by decide +kernel
theorem dX8_at_38 : decode cX8_at 38 = .ok (.getfield 19, 3) := by decide +kernel
theorem dX8_at_41 : decode cX8_at 41 = .ok (.iload_n 1, 1) := by decide +kernel
theorem dX8_at_42 : decode cX8_at 42 = .ok (.iload_n 2, 1) := by decide +kernel
theorem dX8_at_43 : decode cX8_at 43 = .ok (.iload_n 3, 1) := by decide +kernel
theorem dX8_at_44 : decode cX8_at 44 = .ok (.invokevirtual 148, 3) := by decide +kernel
theorem dX8_at_47 : decode cX8_at 47 = .ok (.goto 13, 3) := by decide +kernel
theorem dX8_at_50 : decode cX8_at 50 = .ok (.aload_n 0, 1) := by decide +kernel
theorem dX8_at_51 : decode cX8_at 51 = .ok (.getfield 19, 3) := by decide +kernel
theorem dX8_at_54 : decode cX8_at 54 = .ok (.iload_n 1, 1) := by decide +kernel
theorem dX8_at_55 : decode cX8_at 55 = .ok (.iload_n 2, 1) := by decide +kernel
theorem dX8_at_56 : decode cX8_at 56 = .ok (.iload_n 3, 1) := by decide +kernel
theorem dX8_at_57 : decode cX8_at 57 = .ok (.invokevirtual 152, 3) := by decide +kernel
theorem dX8_at_60 : decode cX8_at 60 = .ok (.ireturn, 1) := by decide +kernel
theorem dX8_third_0 : decode cX8_third 0 = .ok (.aload_n 0, 1) := by decide +kernel
theorem dX8_third_1 : decode cX8_third 1 = .ok (.getfield 19, 3) := by decide +kernel
theorem dX8_third_4 : decode cX8_third 4 = .ok (.iload_n 1, 1) := by decide +kernel
theorem dX8_third_5 : decode cX8_third 5 = .ok (.invokevirtual 133, 3) := by decide +kernel
theorem dX8_third_8 : decode cX8_third 8 = .ok (.ifCond .eq 40, 3) := by decide +kernel
theorem dX8_third_11 : decode cX8_third 11 = .ok (.aload_n 0, 1) := by decide +kernel
theorem dX8_third_12 : decode cX8_third 12 = .ok (.getfield 19, 3) := by decide +kernel
theorem dX8_third_15 : decode cX8_third 15 = .ok (.iload_n 2, 1) := by decide +kernel
theorem dX8_third_16 : decode cX8_third 16 = .ok (.invokevirtual 133, 3) := by decide +kernel
theorem dX8_third_19 : decode cX8_third 19 = .ok (.ifCond .eq 29, 3) := by decide +kernel
theorem dX8_third_22 : decode cX8_third 22 = .ok (.aload_n 0, 1) := by decide +kernel
theorem dX8_third_23 : decode cX8_third 23 = .ok (.getfield 19, 3) := by decide +kernel
theorem dX8_third_26 : decode cX8_third 26 = .ok (.iload_n 3, 1) := by decide +kernel
theorem dX8_third_27 : decode cX8_third 27 = .ok (.invokevirtual 133, 3) := by decide +kernel
theorem dX8_third_30 : decode cX8_third 30 = .ok (.ifCond .eq 18, 3) := by decide +kernel
theorem dX8_third_33 : decode cX8_third 33 = .ok (.iload_n 1, 1) := by decide +kernel
theorem dX8_third_34 : decode cX8_third 34 = .ok (.iload_n 2, 1) := by decide +kernel
theorem dX8_third_35 : decode cX8_third 35 = .ok (.if_icmp .eq 13, 3) := by decide +kernel
theorem dX8_third_38 : decode cX8_third 38 = .ok (.iload_n 2, 1) := by decide +kernel
theorem dX8_third_39 : decode cX8_third 39 = .ok (.iload_n 3, 1) := by decide +kernel
theorem dX8_third_40 : decode cX8_third 40 = .ok (.if_icmp .eq 8, 3) := by decide +kernel
theorem dX8_third_43 : decode cX8_third 43 = .ok (.iload_n 1, 1) := by decide +kernel
theorem dX8_third_44 : decode cX8_third 44 = .ok (.iload_n 3, 1) := by decide +kernel
theorem dX8_third_45 : decode cX8_third 45 = .ok (.if_icmp .ne 6, 3) := by decide +kernel
theorem dX8_third_48 : decode cX8_third 48 = .ok (.ldc 84, 2) := by decide +kernel
theorem dX8_third_50 : decode cX8_third 50 = .ok (.ireturn, 1) := by decide +kernel
theorem dX8_third_51 : decode cX8_third 51 = .ok (.aload_n 0, 1) := by decide +kernel
theorem dX8_third_52 : decode cX8_third 52 = .ok (.getfield 28, 3) := by decide +kernel
theorem dX8_third_55 : decode cX8_third 55 = .ok (.iload_n 1, 1) := by decide +kernel
theorem dX8_third_56 : decode cX8_third 56 = .ok (.iload_n 2, 1) := by decide +kernel
theorem dX8_third_57 : decode cX8_third 57 = .ok (.iload_n 3, 1) := by decide +kernel
theorem dX8_third_58 : decode cX8_third 58 = .ok (.invokevirtual 155, 3) := by decide +kernel
theorem dX8_third_61 : decode cX8_third 61 = .ok (.ifCond .eq 6, 3) := by decide +kernel
theorem dX8_third_64 : decode cX8_third 64 = .ok (.ldc 158, 2) := by decide +kernel
theorem dX8_third_66 : decode cX8_third 66 = .ok (.ireturn, 1) := by decide +kernel
theorem dX8_third_67 : decode cX8_third 67 = .ok (.aload_n 0, 1) := by decide +kernel
theorem dX8_third_68 : decode cX8_third 68 = .ok (.getfield 28, 3) := by decide +kernel
theorem dX8_third_71 : decode cX8_third 71 = .ok (.invokevirtual 159, 3) := by decide +kernel
theorem dX8_third_74 : decode cX8_third 74 = .ok (.ifCond .eq 6, 3) := by decide +kernel
theorem dX8_third_77 : decode cX8_third 77 = .ok (.ldc 128, 2) := by decide +kernel
theorem dX8_third_79 : decode cX8_third 79 = .ok (.ireturn, 1) := by decide +kernel
theorem dX8_third_80 : decode cX8_third 80 = .ok (.aload_n 0, 1) := by decide +kernel
theorem dX8_third_81 : decode cX8_third 81 = .ok (.getfield 28, 3) := by decide +kernel
theorem dX8_third_84 : decode cX8_third 84 = .ok (.iload_n 1, 1) := by decide +kernel
theorem dX8_third_85 : decode cX8_third 85 = .ok (.iload_n 2, 1) := by decide +kernel
theorem dX8_third_86 : decode cX8_third 86 = .ok (.iload_n 3, 1) := by decide +kernel
theorem dX8_third_87 : decode cX8_third 87 = .ok (.invokevirtual 160, 3) := by decide +kernel
theorem dX8_third_90 : decode cX8_third 90 = .ok (.ireturn, 1) := by decide +kernel
theorem dX8_told_0 : decode cX8_told 0 = .ok (.aload_n 0, 1) := by decide +kernel
theorem dX8_told_1 : decode cX8_told 1 = .ok (.getfield 28, 3) := by decide +kernel
theorem dX8_told_4 : decode cX8_told 4 = .ok (.iload_n 1, 1) := by decide +kernel
theorem dX8_told_5 : decode cX8_told 5 = .ok (.invokevirtual 162, 3) := by decide +kernel
theorem dX8_told_8 : decode cX8_told 8 = .ok (.ifCond .eq 12, 3) := by decide +kernel
theorem dX8_told_11 : decode cX8_told 11 = .ok (.iload_n 2, 1) := by decide +kernel
theorem dX8_told_12 : decode cX8_told 12 = .ok (.iconst 0, 1) := by decide +kernel
theorem dX8_told_13 : decode cX8_told 13 = .ok (.iconst 4, 1) := by decide +kernel
theorem dX8_told_14 : decode cX8_told 14 = .ok (.invokestatic 145, 3) := by decide +kernel
theorem dX8_told_17 : decode cX8_told 17 = .ok (.ifCond .ne 6, 3) := by decide +kernel
theorem dX8_told_20 : decode cX8_told 20 = .ok (.ldc 84, 2) := by decide +kernel
theorem dX8_told_22 : decode cX8_told 22 = .ok (.ireturn, 1) := by decide +kernel
theorem dX8_told_23 : decode cX8_told 23 = .ok (.iload_n 2, 1) := by decide +kernel
theorem dX8_told_24 : decode cX8_told 24 = .ok (.iconst 3, 1) := by decide +kernel
theorem dX8_told_25 : decode cX8_told 25 = .ok (.if_icmp .ge 15, 3) := by decide +kernel
theorem dX8_told_28 : decode cX8_told 28 = .ok (.aload_n 0, 1) := by decide +kernel
theorem dX8_told_29 : decode cX8_told 29 = .ok (.getfield 28, 3) := by decide +kernel
theorem dX8_told_32 : decode cX8_told 32 = .ok (.iload_n 1, 1) := by decide +kernel
theorem dX8_told_33 : decode cX8_told 33 = .ok (.iload_n 2, 1) := by decide +kernel
theorem dX8_told_34 : decode cX8_told 34 = .ok (.invokevirtual 165, 3) := by decide +kernel
theorem dX8_told_37 : decode cX8_told 37 = .ok (.goto 14, 3) := by decide +kernel
theorem dX8_told_40 : decode cX8_told 40 = .ok (.aload_n 0, 1) := by decide +kernel
theorem dX8_told_41 : decode cX8_told 41 = .ok (.getfield 28, 3) := by decide +kernel
theorem dX8_told_44 : decode cX8_told 44 = .ok (.iload_n 1, 1) := by decide +kernel
theorem dX8_told_45 : decode cX8_told 45 = .ok (.iload_n 2, 1) := by decide +kernel
theorem dX8_told_46 : decode cX8_told 46 = .ok (.iconst 3, 1) := by decide +kernel
theorem dX8_told_47 : decode cX8_told 47 = .ok (.isub, 1) := by decide +kernel
theorem dX8_told_48 : decode cX8_told 48 = .ok (.invokevirtual 168, 3) := by decide +kernel
theorem dX8_told_51 : decode cX8_told 51 = .ok (.ireturn, 1) := by decide +kernel
theorem dX8_folds_0 : decode cX8_folds 0 = .ok (.aload_n 0, 1) := by decide +kernel
theorem dX8_folds_1 : decode cX8_folds 1 = .ok (.getfield 28, 3) := by decide +kernel
theorem dX8_folds_4 : decode cX8_folds 4 = .ok (.iload_n 1, 1) := by decide +kernel
theorem dX8_folds_5 : decode cX8_folds 5 = .ok (.invokevirtual 162, 3) := by decide +kernel
theorem dX8_folds_8 : decode cX8_folds 8 = .ok (.ifCond .eq 10, 3) := by decide +kernel
theorem dX8_folds_11 : decode cX8_folds 11 = .ok (.iload_n 2, 1) := by decide +kernel
theorem dX8_folds_12 : decode cX8_folds 12 = .ok (.invokestatic 171, 3) := by decide +kernel
theorem dX8_folds_15 : decode cX8_folds 15 = .ok (.ifCond .ne 6, 3) := by decide +kernel
theorem dX8_folds_18 : decode cX8_folds 18 = .ok (.ldc 84, 2) := by decide +kernel
theorem dX8_folds_20 : decode cX8_folds 20 = .ok (.ireturn, 1) := by decide +kernel
theorem dX8_folds_21 : decode cX8_folds 21 = .ok (.aload_n 0, 1) := by decide +kernel
theorem dX8_folds_22 : decode cX8_folds 22 = .ok (.getfield 28, 3) := by decide +kernel
theorem dX8_folds_25 : decode cX8_folds 25 = .ok (.iload_n 1, 1) := by decide +kernel
theorem dX8_folds_26 : decode cX8_folds 26 = .ok (.iload_n 2, 1) := by decide +kernel
theorem dX8_folds_27 : decode cX8_folds 27 = .ok (.invokevirtual 174, 3) := by decide +kernel
theorem dX8_folds_30 : decode cX8_folds 30 = .ok (.ireturn, 1) := by decide +kernel
theorem dX8_first_0 : decode cX8_first 0 = .ok (.iload_n 1, 1) := by decide +kernel
theorem dX8_first_1 : decode cX8_first 1 = .ok (.invokestatic 171, 3) := by decide +kernel
theorem dX8_first_4 : decode cX8_first 4 = .ok (.ifCond .eq 12, 3) := by decide +kernel
theorem dX8_first_7 : decode cX8_first 7 = .ok (.iload_n 2, 1) := by decide +kernel
theorem dX8_first_8 : decode cX8_first 8 = .ok (.iconst 0, 1) := by decide +kernel
theorem dX8_first_9 : decode cX8_first 9 = .ok (.iconst 1, 1) := by decide +kernel
theorem dX8_first_10 : decode cX8_first 10 = .ok (.invokestatic 145, 3) := by decide +kernel
theorem dX8_first_13 : decode cX8_first 13 = .ok (.ifCond .ne 6, 3) := by decide +kernel
theorem dX8_first_16 : decode cX8_first 16 = .ok (.ldc 84, 2) := by decide +kernel
theorem dX8_first_18 : decode cX8_first 18 = .ok (.ireturn, 1) := by decide +kernel
theorem dX8_first_19 : decode cX8_first 19 = .ok (.aload_n 0, 1) := by decide +kernel
theorem dX8_first_20 : decode cX8_first 20 = .ok (.getfield 28, 3) := by decide +kernel
theorem dX8_first_23 : decode cX8_first 23 = .ok (.iload_n 1, 1) := by decide +kernel
theorem dX8_first_24 : decode cX8_first 24 = .ok (.invokevirtual 177, 3) := by decide +kernel
theorem dX8_first_27 : decode cX8_first 27 = .ok (.istore_n 3, 1) := by decide +kernel
theorem dX8_first_28 : decode cX8_first 28 = .ok (.iload_n 3, 1) := by decide +kernel
theorem dX8_first_29 : decode cX8_first 29 = .ok (.ldc 180, 2) := by decide +kernel
theorem dX8_first_31 : decode cX8_first 31 = .ok (.if_icmp .eq 8, 3) := by decide +kernel
theorem dX8_first_34 : decode cX8_first 34 = .ok (.iload_n 2, 1) := by decide +kernel
theorem dX8_first_35 : decode cX8_first 35 = .ok (.iconst 1, 1) := by decide +kernel
theorem dX8_first_36 : decode cX8_first 36 = .ok (.if_icmp .ne 5, 3) := by decide +kernel
theorem dX8_first_39 : decode cX8_first 39 = .ok (.iload_n 3, 1) := by decide +kernel
theorem dX8_first_40 : decode cX8_first 40 = .ok (.ireturn, 1) := by decide +kernel
theorem dX8_first_41 : decode cX8_first 41 = .ok (.aload_n 0, 1) := by decide +kernel
theorem dX8_first_42 : decode cX8_first 42 = .ok (.getfield 28, 3) := by decide +kernel
theorem dX8_first_45 : decode cX8_first 45 = .ok (.iload_n 3, 1) := by decide +kernel
theorem dX8_first_46 : decode cX8_first 46 = .ok (.iload_n 1, 1) := by decide +kernel
theorem dX8_first_47 : decode cX8_first 47 = .ok (.invokevirtual 174, 3) := by decide +kernel
theorem dX8_first_50 : decode cX8_first 50 = .ok (.ireturn, 1) := by decide +kernel
theorem dX8_sides_0 : decode cX8_sides 0 = .ok (.iload_n 1, 1) := by decide +kernel
theorem dX8_sides_1 : decode cX8_sides 1 = .ok (.iconst 1, 1) := by decide +kernel
theorem dX8_sides_2 : decode cX8_sides 2 = .ok (.bipush 24, 2) := by decide +kernel
theorem dX8_sides_4 : decode cX8_sides 4 = .ok (.invokestatic 145, 3) := by decide +kernel
theorem dX8_sides_7 : decode cX8_sides 7 = .ok (.ifCond .ne 6, 3) := by decide +kernel
theorem dX8_sides_10 : decode cX8_sides 10 = .ok (.ldc 84, 2) := by decide +kernel
theorem dX8_sides_12 : decode cX8_sides 12 = .ok (.ireturn, 1) := by decide +kernel
theorem dX8_sides_13 : decode cX8_sides 13 = .ok (.aload_n 0, 1) := by decide +kernel
theorem dX8_sides_14 : decode cX8_sides 14 = .ok (.getfield 28, 3) := by decide +kernel
theorem dX8_sides_17 : decode cX8_sides 17 = .ok (.iload_n 1, 1) := by decide +kernel
theorem dX8_sides_18 : decode cX8_sides 18 = .ok (.invokevirtual 181, 3) := by decide +kernel
theorem dX8_sides_21 : decode cX8_sides 21 = .ok (.ireturn, 1) := by decide +kernel
theorem dX8_key_0 : decode cX8_key 0 = .ok (.iload_n 1, 1) := by decide +kernel
theorem dX8_key_1 : decode cX8_key 1 = .ok (.iload_n 2, 1) := by decide +kernel
theorem dX8_key_2 : decode cX8_key 2 = .ok (.invokestatic 120, 3) := by decide +kernel
theorem dX8_key_5 : decode cX8_key 5 = .ok (.ifCond .ne 6, 3) := by decide +kernel
theorem dX8_key_8 : decode cX8_key 8 = .ok (.ldc 84, 2) := by decide +kernel
theorem dX8_key_10 : decode cX8_key 10 = .ok (.ireturn, 1) := by decide +kernel
theorem dX8_key_11 : decode cX8_key 11 = .ok (.aload_n 0, 1) := by decide +kernel
theorem dX8_key_12 : decode cX8_key 12 = .ok (.getfield 35, 3) := by decide +kernel
theorem dX8_key_15 : decode cX8_key 15 = .ok (.iload_n 1, 1) := by decide +kernel
theorem dX8_key_16 : decode cX8_key 16 = .ok (.iload_n 2, 1) := by decide +kernel
theorem dX8_key_17 : decode cX8_key 17 = .ok (.invokevirtual 184, 3) := by decide +kernel
theorem dX8_key_20 : decode cX8_key 20 = .ok (.ifCond .ne 6, 3) := by decide +kernel
theorem dX8_key_23 : decode cX8_key 23 = .ok (.ldc 158, 2) := by decide +kernel
theorem dX8_key_25 : decode cX8_key 25 = .ok (.ireturn, 1) := by decide +kernel
theorem dX8_key_26 : decode cX8_key 26 = .ok (.aload_n 0, 1) := by decide +kernel
theorem dX8_key_27 : decode cX8_key 27 = .ok (.getfield 35, 3) := by decide +kernel
theorem dX8_key_30 : decode cX8_key 30 = .ok (.invokevirtual 187, 3) := by decide +kernel
theorem dX8_key_33 : decode cX8_key 33 = .ok (.ifCond .eq 6, 3) := by decide +kernel
theorem dX8_key_36 : decode cX8_key 36 = .ok (.ldc 128, 2) := by decide +kernel
theorem dX8_key_38 : decode cX8_key 38 = .ok (.ireturn, 1) := by decide +kernel
theorem dX8_key_39 : decode cX8_key 39 = .ok (.aload_n 0, 1) := by decide +kernel
theorem dX8_key_40 : decode cX8_key 40 = .ok (.getfield 35, 3) := by decide +kernel
theorem dX8_key_43 : decode cX8_key 43 = .ok (.iload_n 1, 1) := by decide +kernel
theorem dX8_key_44 : decode cX8_key 44 = .ok (.iload_n 2, 1) := by decide +kernel
theorem dX8_key_45 : decode cX8_key 45 = .ok (.invokevirtual 188, 3) := by decide +kernel
theorem dX8_key_48 : decode cX8_key 48 = .ok (.ireturn, 1) := by decide +kernel
theorem dX8_eased_0 : decode cX8_eased 0 = .ok (.iload_n 1, 1) := by decide +kernel
theorem dX8_eased_1 : decode cX8_eased 1 = .ok (.iconst 0, 1) := by decide +kernel
theorem dX8_eased_2 : decode cX8_eased 2 = .ok (.sipush 1000, 3) := by decide +kernel
theorem dX8_eased_5 : decode cX8_eased 5 = .ok (.invokestatic 145, 3) := by decide +kernel
theorem dX8_eased_8 : decode cX8_eased 8 = .ok (.ifCond .ne 6, 3) := by decide +kernel
theorem dX8_eased_11 : decode cX8_eased 11 = .ok (.ldc 84, 2) := by decide +kernel
theorem dX8_eased_13 : decode cX8_eased 13 = .ok (.ireturn, 1) := by decide +kernel
theorem dX8_eased_14 : decode cX8_eased 14 = .ok (.aload_n 0, 1) := by decide +kernel
theorem dX8_eased_15 : decode cX8_eased 15 = .ok (.getfield 35, 3) := by decide +kernel
theorem dX8_eased_18 : decode cX8_eased 18 = .ok (.iload_n 1, 1) := by decide +kernel
theorem dX8_eased_19 : decode cX8_eased 19 = .ok (.invokevirtual 190, 3) := by decide +kernel
theorem dX8_eased_22 : decode cX8_eased 22 = .ok (.ireturn, 1) := by decide +kernel
theorem dX8_unkey_0 : decode cX8_unkey 0 = .ok (.aload_n 0, 1) := by decide +kernel
theorem dX8_unkey_1 : decode cX8_unkey 1 = .ok (.getfield 35, 3) := by decide +kernel
theorem dX8_unkey_4 : decode cX8_unkey 4 = .ok (.invokevirtual 193, 3) := by decide +kernel
theorem dX8_unkey_7 : decode cX8_unkey 7 = .ok (.ireturn, 1) := by decide +kernel
theorem dX8_in_0 : decode cX8_in 0 = .ok (.iload_n 1, 1) := by decide +kernel
theorem dX8_in_1 : decode cX8_in 1 = .ok (.iload_n 2, 1) := by decide +kernel
theorem dX8_in_2 : decode cX8_in 2 = .ok (.invokestatic 120, 3) := by decide +kernel
theorem dX8_in_5 : decode cX8_in 5 = .ok (.ifCond .eq 12, 3) := by decide +kernel
theorem dX8_in_8 : decode cX8_in 8 = .ok (.iload_n 3, 1) := by decide +kernel
theorem dX8_in_9 : decode cX8_in 9 = .ok (.iload 4, 2) := by decide +kernel
theorem dX8_in_11 : decode cX8_in 11 = .ok (.invokestatic 142, 3) := by decide +kernel
theorem dX8_in_14 : decode cX8_in 14 = .ok (.ifCond .ne 6, 3) := by decide +kernel
theorem dX8_in_17 : decode cX8_in 17 = .ok (.ldc 84, 2) := by decide +kernel
theorem dX8_in_19 : decode cX8_in 19 = .ok (.ireturn, 1) := by decide +kernel
theorem dX8_in_20 : decode cX8_in 20 = .ok (.aload_n 0, 1) := by decide +kernel
theorem dX8_in_21 : decode cX8_in 21 = .ok (.getfield 44, 3) := by decide +kernel
theorem dX8_in_24 : decode cX8_in 24 = .ok (.iload_n 1, 1) := by decide +kernel
theorem dX8_in_25 : decode cX8_in 25 = .ok (.iload_n 2, 1) := by decide +kernel
theorem dX8_in_26 : decode cX8_in 26 = .ok (.iload_n 3, 1) := by decide +kernel
theorem dX8_in_27 : decode cX8_in 27 = .ok (.iload 4, 2) := by decide +kernel
theorem dX8_in_29 : decode cX8_in 29 = .ok (.invokevirtual 196, 3) := by decide +kernel
theorem dX8_in_32 : decode cX8_in 32 = .ok (.ireturn, 1) := by decide +kernel
theorem dX8_from_0 : decode cX8_from 0 = .ok (.iload_n 1, 1) := by decide +kernel
theorem dX8_from_1 : decode cX8_from 1 = .ok (.iload_n 2, 1) := by decide +kernel
theorem dX8_from_2 : decode cX8_from 2 = .ok (.invokestatic 120, 3) := by decide +kernel
theorem dX8_from_5 : decode cX8_from 5 = .ok (.ifCond .eq 22, 3) := by decide +kernel
theorem dX8_from_8 : decode cX8_from 8 = .ok (.iload_n 3, 1) := by decide +kernel
theorem dX8_from_9 : decode cX8_from 9 = .ok (.iload 4, 2) := by decide +kernel
theorem dX8_from_11 : decode cX8_from 11 = .ok (.invokestatic 142, 3) := by decide +kernel
theorem dX8_from_14 : decode cX8_from 14 = .ok (.ifCond .eq 13, 3) := by decide +kernel
theorem dX8_from_17 : decode cX8_from 17 = .ok (.iload 5, 2) := by decide +kernel
theorem dX8_from_19 : decode cX8_from 19 = .ok (.iconst 0, 1) := by decide +kernel
theorem dX8_from_20 : decode cX8_from 20 = .ok (.iconst 3, 1) := by decide +kernel
theorem dX8_from_21 : decode cX8_from 21 = .ok (.invokestatic 145, 3) := by decide +kernel
theorem dX8_from_24 : decode cX8_from 24 = .ok (.ifCond .ne 6, 3) := by decide +kernel
theorem dX8_from_27 : decode cX8_from 27 = .ok (.ldc 84, 2) := by decide +kernel
theorem dX8_from_29 : decode cX8_from 29 = .ok (.ireturn, 1) := by decide +kernel
theorem dX8_from_30 : decode cX8_from 30 = .ok (.aload_n 0, 1) := by decide +kernel
theorem dX8_from_31 : decode cX8_from 31 = .ok (.getfield 44, 3) := by decide +kernel
theorem dX8_from_34 : decode cX8_from 34 = .ok (.iload_n 1, 1) := by decide +kernel
theorem dX8_from_35 : decode cX8_from 35 = .ok (.iload_n 2, 1) := by decide +kernel
theorem dX8_from_36 : decode cX8_from 36 = .ok (.iload_n 3, 1) := by decide +kernel
theorem dX8_from_37 : decode cX8_from 37 = .ok (.iload 4, 2) := by decide +kernel
theorem dX8_from_39 : decode cX8_from 39 = .ok (.invokevirtual 196, 3) := by decide +kernel
theorem dX8_from_42 : decode cX8_from 42 = .ok (.ldc 180, 2) := by decide +kernel
theorem dX8_from_44 : decode cX8_from 44 = .ok (.if_icmp .ne 6, 3) := by decide +kernel
theorem dX8_from_47 : decode cX8_from 47 = .ok (.ldc 180, 2) := by decide +kernel
theorem dX8_from_49 : decode cX8_from 49 = .ok (.ireturn, 1) := by decide +kernel
theorem dX8_from_50 : decode cX8_from 50 = .ok (.iload 5, 2) := by decide +kernel
theorem dX8_from_52 : decode cX8_from 52 = .ok (.iconst 2, 1) := by decide +kernel
theorem dX8_from_53 : decode cX8_from 53 = .ok (.idiv, 1) := by decide +kernel
theorem dX8_from_54 : decode cX8_from 54 = .ok (.istore 6, 2) := by decide +kernel
theorem dX8_from_56 : decode cX8_from 56 = .ok (.iload 5, 2) := by decide +kernel
theorem dX8_from_58 : decode cX8_from 58 = .ok (.iconst 2, 1) := by decide +kernel
theorem dX8_from_59 : decode cX8_from 59 = .ok (.irem, 1) := by decide +kernel
theorem dX8_from_60 : decode cX8_from 60 = .ok (.ifCond .ne 15, 3) := by decide +kernel
theorem dX8_from_63 : decode cX8_from 63 = .ok (.aload_n 0, 1) := by decide +kernel
theorem dX8_from_64 : decode cX8_from 64 = .ok (.getfield 44, 3) := by decide +kernel
theorem dX8_from_67 : decode cX8_from 67 = .ok (.iload 6, 2) := by decide +kernel
theorem dX8_from_69 : decode cX8_from 69 = .ok (.invokevirtual 199, 3) := by decide +kernel
theorem dX8_from_72 : decode cX8_from 72 = .ok (.goto 12, 3) := by decide +kernel
theorem dX8_from_75 : decode cX8_from 75 = .ok (.aload_n 0, 1) := by decide +kernel
theorem dX8_from_76 : decode cX8_from 76 = .ok (.getfield 44, 3) := by decide +kernel
theorem dX8_from_79 : decode cX8_from 79 = .ok (.iload 6, 2) := by decide +kernel
theorem dX8_from_81 : decode cX8_from 81 = .ok (.invokevirtual 202, 3) := by decide +kernel
theorem dX8_from_84 : decode cX8_from 84 = .ok (.ireturn, 1) := by decide +kernel
theorem dX8_picture_0 : decode cX8_picture 0 = .ok (.iload_n 1, 1) := by decide +kernel
theorem dX8_picture_1 : decode cX8_picture 1 = .ok (.invokestatic 136, 3) := by decide +kernel
theorem dX8_picture_4 : decode cX8_picture 4 = .ok (.ifCond .eq 20, 3) := by decide +kernel
theorem dX8_picture_7 : decode cX8_picture 7 = .ok (.iload_n 2, 1) := by decide +kernel
theorem dX8_picture_8 : decode cX8_picture 8 = .ok (.invokestatic 77, 3) := by decide +kernel
theorem dX8_picture_11 : decode cX8_picture 11 = .ok (.ifCond .eq 13, 3) := by decide +kernel
theorem dX8_picture_14 : decode cX8_picture 14 = .ok (.iload 4, 2) := by decide +kernel
theorem dX8_picture_16 : decode cX8_picture 16 = .ok (.iload 5, 2) := by decide +kernel
theorem dX8_picture_18 : decode cX8_picture 18 = .ok (.invokestatic 205, 3) := by decide +kernel
theorem dX8_picture_21 : decode cX8_picture 21 = .ok (.ifCond .ne 6, 3) := by decide +kernel
theorem dX8_picture_24 : decode cX8_picture 24 = .ok (.ldc 84, 2) := by decide +kernel
theorem dX8_picture_26 : decode cX8_picture 26 = .ok (.ireturn, 1) := by decide +kernel
theorem dX8_picture_27 : decode cX8_picture 27 = .ok (.aload_n 0, 1) := by decide +kernel
theorem dX8_picture_28 : decode cX8_picture 28 = .ok (.getfield 10, 3) := by decide +kernel
theorem dX8_picture_31 : decode cX8_picture 31 = .ok (.iload_n 2, 1) := by decide +kernel
theorem dX8_picture_32 : decode cX8_picture 32 = .ok (.invokevirtual 96, 3) := by decide +kernel
theorem dX8_picture_35 : decode cX8_picture 35 = .ok (.ifCond .eq 9, 3) := by decide +kernel
theorem dX8_picture_38 : decode cX8_picture 38 = .ok (.aload_n 0, 1) := by decide +kernel
theorem dX8_picture_39 : decode cX8_picture 39 = .ok (.iconst 1, 1) := by decide +kernel
theorem dX8_picture_40 : decode cX8_picture 40 = .ok (.invokevirtual 85, 3) := by decide +kernel
theorem dX8_picture_43 : decode cX8_picture 43 = .ok (.ireturn, 1) := by decide +kernel
theorem dX8_picture_44 : decode cX8_picture 44 = .ok (.aload_n 0, 1) := by decide +kernel
theorem dX8_picture_45 : decode cX8_picture 45 = .ok (.getfield 10, 3) := by decide +kernel
theorem dX8_picture_48 : decode cX8_picture 48 = .ok (.iload_n 2, 1) := by decide +kernel
theorem dX8_picture_49 : decode cX8_picture 49 = .ok (.iload_n 3, 1) := by decide +kernel
theorem dX8_picture_50 : decode cX8_picture 50 = .ok (.iload 4, 2) := by decide +kernel
theorem dX8_picture_52 : decode cX8_picture 52 = .ok (.iload 5, 2) := by decide +kernel
theorem dX8_picture_54 : decode cX8_picture 54 = .ok (.imul, 1) := by decide +kernel
theorem dX8_picture_55 : decode cX8_picture 55 = .ok (.invokevirtual 99, 3) := by decide +kernel
theorem dX8_picture_58 : decode cX8_picture 58 = .ok (.ifCond .ne 9, 3) := by decide +kernel
theorem dX8_picture_61 : decode cX8_picture 61 = .ok (.aload_n 0, 1) := by decide +kernel
theorem dX8_picture_62 : decode cX8_picture 62 = .ok (.iconst 2, 1) := by decide +kernel
theorem dX8_picture_63 : decode cX8_picture 63 = .ok (.invokevirtual 85, 3) := by decide +kernel
theorem dX8_picture_66 : decode cX8_picture 66 = .ok (.ireturn, 1) := by decide +kernel
theorem dX8_picture_67 : decode cX8_picture 67 = .ok (.aload_n 0, 1) := by decide +kernel
theorem dX8_picture_68 : decode cX8_picture 68 = .ok (.getfield 10, 3) := by decide +kernel
theorem dX8_picture_71 : decode cX8_picture 71 = .ok (.iload_n 2, 1) := by decide +kernel
theorem dX8_picture_72 : decode cX8_picture 72 = .ok (.iload_n 3, 1) := by decide +kernel
theorem dX8_picture_73 : decode cX8_picture 73 = .ok (.iload 4, 2) := by decide +kernel
theorem dX8_picture_75 : decode cX8_picture 75 = .ok (.iload 5, 2) := by decide +kernel
theorem dX8_picture_77 : decode cX8_picture 77 = .ok (.imul, 1) := by decide +kernel
theorem dX8_picture_78 : decode cX8_picture 78 = .ok (.sipush 255, 3) := by decide +kernel
theorem dX8_picture_81 : decode cX8_picture 81 = .ok (.invokevirtual 208, 3) := by decide +kernel
theorem dX8_picture_84 : decode cX8_picture 84 = .ok (.ifCond .ne 6, 3) := by decide +kernel
theorem dX8_picture_87 : decode cX8_picture 87 = .ok (.ldc 84, 2) := by decide +kernel
theorem dX8_picture_89 : decode cX8_picture 89 = .ok (.ireturn, 1) := by decide +kernel
theorem dX8_picture_90 : decode cX8_picture 90 = .ok (.aload_n 0, 1) := by decide +kernel
theorem dX8_picture_91 : decode cX8_picture 91 = .ok (.getfield 51, 3) := by decide +kernel
theorem dX8_picture_94 : decode cX8_picture 94 = .ok (.iload_n 1, 1) := by decide +kernel
theorem dX8_picture_95 : decode cX8_picture 95 = .ok (.aload_n 0, 1) := by decide +kernel
theorem dX8_picture_96 : decode cX8_picture 96 = .ok (.getfield 10, 3) := by decide +kernel
theorem dX8_picture_99 : decode cX8_picture 99 = .ok (.iload_n 2, 1) := by decide +kernel
theorem dX8_picture_100 : decode cX8_picture 100 = .ok (.iload_n 3, 1) := by decide +kernel
theorem dX8_picture_101 : decode cX8_picture 101 = .ok (.iload 4, 2) := by decide +kernel
theorem dX8_picture_103 : decode cX8_picture 103 = .ok (.iload 5, 2) := by decide +kernel
theorem dX8_picture_105 : decode cX8_picture 105 = .ok (.invokevirtual 212, 3) := by decide +kernel
theorem dX8_picture_108 : decode cX8_picture 108 = .ok (.aload_n 0, 1) := by decide +kernel
theorem dX8_picture_109 : decode cX8_picture 109 = .ok (.iconst 1, 1) := by decide +kernel
theorem dX8_picture_110 : decode cX8_picture 110 = .ok (.invokevirtual 93, 3) := by decide +kernel
theorem dX8_picture_113 : decode cX8_picture 113 = .ok (.ireturn, 1) := by decide +kernel
theorem dX8_seen_0 : decode cX8_seen 0 = .ok (.iload_n 1, 1) := by decide +kernel
theorem dX8_seen_1 : decode cX8_seen 1 = .ok (.iload_n 2, 1) := by decide +kernel
theorem dX8_seen_2 : decode cX8_seen 2 = .ok (.invokestatic 120, 3) := by decide +kernel
theorem dX8_seen_5 : decode cX8_seen 5 = .ok (.ifCond .eq 12, 3) := by decide +kernel
theorem dX8_seen_8 : decode cX8_seen 8 = .ok (.iload_n 3, 1) := by decide +kernel
theorem dX8_seen_9 : decode cX8_seen 9 = .ok (.iload 4, 2) := by decide +kernel
theorem dX8_seen_11 : decode cX8_seen 11 = .ok (.invokestatic 142, 3) := by decide +kernel
theorem dX8_seen_14 : decode cX8_seen 14 = .ok (.ifCond .ne 6, 3) := by decide +kernel
theorem dX8_seen_17 : decode cX8_seen 17 = .ok (.ldc 84, 2) := by decide +kernel
theorem dX8_seen_19 : decode cX8_seen 19 = .ok (.ireturn, 1) := by decide +kernel
theorem dX8_seen_20 : decode cX8_seen 20 = .ok (.aload_n 0, 1) := by decide +kernel
theorem dX8_seen_21 : decode cX8_seen 21 = .ok (.getfield 51, 3) := by decide +kernel
theorem dX8_seen_24 : decode cX8_seen 24 = .ok (.iconst 0, 1) := by decide +kernel
theorem dX8_seen_25 : decode cX8_seen 25 = .ok (.invokevirtual 216, 3) := by decide +kernel
theorem dX8_seen_28 : decode cX8_seen 28 = .ok (.ifCond .eq 14, 3) := by decide +kernel
theorem dX8_seen_31 : decode cX8_seen 31 = .ok (.aload_n 0, 1) := by decide +kernel
theorem dX8_seen_32 : decode cX8_seen 32 = .ok (.getfield 51, 3) := by decide +kernel
theorem dX8_seen_35 : decode cX8_seen 35 = .ok (.iconst 1, 1) := by decide +kernel
theorem dX8_seen_36 : decode cX8_seen 36 = .ok (.invokevirtual 216, 3) := by decide +kernel
theorem dX8_seen_39 : decode cX8_seen 39 = .ok (.ifCond .ne 6, 3) := by decide +kernel
theorem dX8_seen_42 : decode cX8_seen 42 = .ok (.ldc 158, 2) := by decide +kernel
theorem dX8_seen_44 : decode cX8_seen 44 = .ok (.ireturn, 1) := by decide +kernel
theorem dX8_seen_45 : decode cX8_seen 45 = .ok (.aload_n 0, 1) := by decide +kernel
theorem dX8_seen_46 : decode cX8_seen 46 = .ok (.getfield 44, 3) := by decide +kernel
theorem dX8_seen_49 : decode cX8_seen 49 = .ok (.iload_n 1, 1) := by decide +kernel
theorem dX8_seen_50 : decode cX8_seen 50 = .ok (.iload_n 2, 1) := by decide +kernel
theorem dX8_seen_51 : decode cX8_seen 51 = .ok (.iload_n 3, 1) := by decide +kernel
theorem dX8_seen_52 : decode cX8_seen 52 = .ok (.iload 4, 2) := by decide +kernel
theorem dX8_seen_54 : decode cX8_seen 54 = .ok (.invokevirtual 196, 3) := by decide +kernel
theorem dX8_seen_57 : decode cX8_seen 57 = .ok (.ldc 180, 2) := by decide +kernel
theorem dX8_seen_59 : decode cX8_seen 59 = .ok (.if_icmp .ne 6, 3) := by decide +kernel
theorem dX8_seen_62 : decode cX8_seen 62 = .ok (.ldc 180, 2) := by decide +kernel
theorem dX8_seen_64 : decode cX8_seen 64 = .ok (.ireturn, 1) := by decide +kernel
theorem dX8_seen_65 : decode cX8_seen 65 = .ok (.iload 4, 2) := by decide +kernel
theorem dX8_seen_67 : decode cX8_seen 67 = .ok (.iload_n 3, 1) := by decide +kernel
theorem dX8_seen_68 : decode cX8_seen 68 = .ok (.isub, 1) := by decide +kernel
theorem dX8_seen_69 : decode cX8_seen 69 = .ok (.aload_n 0, 1) := by decide +kernel
theorem dX8_seen_70 : decode cX8_seen 70 = .ok (.iconst 0, 1) := by decide +kernel
theorem dX8_seen_71 : decode cX8_seen 71 = .ok (.invokevirtual 219, 3) := by decide +kernel
theorem dX8_seen_74 : decode cX8_seen 74 = .ok (.imul, 1) := by decide +kernel
theorem dX8_seen_75 : decode cX8_seen 75 = .ok (.iload_n 3, 1) := by decide +kernel
theorem dX8_seen_76 : decode cX8_seen 76 = .ok (.aload_n 0, 1) := by decide +kernel
theorem dX8_seen_77 : decode cX8_seen 77 = .ok (.iconst 1, 1) := by decide +kernel
theorem dX8_seen_78 : decode cX8_seen 78 = .ok (.invokevirtual 219, 3) := by decide +kernel
theorem dX8_seen_81 : decode cX8_seen 81 = .ok (.imul, 1) := by decide +kernel
theorem dX8_seen_82 : decode cX8_seen 82 = .ok (.iadd, 1) := by decide +kernel
theorem dX8_seen_83 : decode cX8_seen 83 = .ok (.iload 4, 2) := by decide +kernel
theorem dX8_seen_85 : decode cX8_seen 85 = .ok (.idiv, 1) := by decide +kernel
theorem dX8_seen_86 : decode cX8_seen 86 = .ok (.ireturn, 1) := by decide +kernel
theorem dX8_pairs_0 : decode cX8_pairs 0 = .ok (.iload 5, 2) := by decide +kernel
theorem dX8_pairs_2 : decode cX8_pairs 2 = .ok (.iconst 0, 1) := by decide +kernel
theorem dX8_pairs_3 : decode cX8_pairs 3 = .ok (.iconst 3, 1) := by decide +kernel
theorem dX8_pairs_4 : decode cX8_pairs 4 = .ok (.invokestatic 145, 3) := by decide +kernel
theorem dX8_pairs_7 : decode cX8_pairs 7 = .ok (.ifCond .ne 6, 3) := by decide +kernel
theorem dX8_pairs_10 : decode cX8_pairs 10 = .ok (.ldc 84, 2) := by decide +kernel
theorem dX8_pairs_12 : decode cX8_pairs 12 = .ok (.ireturn, 1) := by decide +kernel
theorem dX8_pairs_13 : decode cX8_pairs 13 = .ok (.aload_n 0, 1) := by decide +kernel
theorem dX8_pairs_14 : decode cX8_pairs 14 = .ok (.iload_n 1, 1) := by decide +kernel
theorem dX8_pairs_15 : decode cX8_pairs 15 = .ok (.iload_n 2, 1) := by decide +kernel
theorem dX8_pairs_16 : decode cX8_pairs 16 = .ok (.iload_n 3, 1) := by decide +kernel
theorem dX8_pairs_17 : decode cX8_pairs 17 = .ok (.iload 4, 2) := by decide +kernel
theorem dX8_pairs_19 : decode cX8_pairs 19 = .ok (.invokevirtual 222, 3) := by decide +kernel
theorem dX8_pairs_22 : decode cX8_pairs 22 = .ok (.istore 6, 2) := by decide +kernel
theorem dX8_pairs_24 : decode cX8_pairs 24 = .ok (.iload 6, 2) := by decide +kernel
theorem dX8_pairs_26 : decode cX8_pairs 26 = .ok (.ifCond .eq 6, 3) := by decide +kernel
theorem dX8_pairs_29 : decode cX8_pairs 29 = .ok (.iload 6, 2) := by decide +kernel
theorem dX8_pairs_31 : decode cX8_pairs 31 = .ok (.ireturn, 1) := by decide +kernel
theorem dX8_pairs_32 : decode cX8_pairs 32 = .ok (.aload_n 0, 1) := by decide +kernel
theorem dX8_pairs_33 : decode cX8_pairs 33 = .ok (.getfield 60, 3) := by decide +kernel
theorem dX8_pairs_36 : decode cX8_pairs 36 = .ok (.iload_n 1, 1) := by decide +kernel
theorem dX8_pairs_37 : decode cX8_pairs 37 = .ok (.iload_n 2, 1) := by decide +kernel
theorem dX8_pairs_38 : decode cX8_pairs 38 = .ok (.iload_n 3, 1) := by decide +kernel
theorem dX8_pairs_39 : decode cX8_pairs 39 = .ok (.iload 4, 2) := by decide +kernel
theorem dX8_pairs_41 : decode cX8_pairs 41 = .ok (.invokevirtual 225, 3) := by decide +kernel
theorem dX8_pairs_44 : decode cX8_pairs 44 = .ok (.aload_n 0, 1) := by decide +kernel
theorem dX8_pairs_45 : decode cX8_pairs 45 = .ok (.aload_n 0, 1) := by decide +kernel
theorem dX8_pairs_46 : decode cX8_pairs 46 = .ok (.getfield 60, 3) := by decide +kernel
theorem dX8_pairs_49 : decode cX8_pairs 49 = .ok (.iload 5, 2) := by decide +kernel
theorem dX8_pairs_51 : decode cX8_pairs 51 = .ok (.invokevirtual 228, 3) := by decide +kernel
theorem dX8_pairs_54 : decode cX8_pairs 54 = .ok (.invokevirtual 93, 3) := by decide +kernel
theorem dX8_pairs_57 : decode cX8_pairs 57 = .ok (.ireturn, 1) := by decide +kernel
theorem dX8_pair_0 : decode cX8_pair 0 = .ok (.aload_n 0, 1) := by decide +kernel
theorem dX8_pair_1 : decode cX8_pair 1 = .ok (.iload_n 1, 1) := by decide +kernel
theorem dX8_pair_2 : decode cX8_pair 2 = .ok (.iload_n 2, 1) := by decide +kernel
theorem dX8_pair_3 : decode cX8_pair 3 = .ok (.iload_n 3, 1) := by decide +kernel
theorem dX8_pair_4 : decode cX8_pair 4 = .ok (.iload 4, 2) := by decide +kernel
theorem dX8_pair_6 : decode cX8_pair 6 = .ok (.invokevirtual 222, 3) := by decide +kernel
theorem dX8_pair_9 : decode cX8_pair 9 = .ok (.istore 6, 2) := by decide +kernel
theorem dX8_pair_11 : decode cX8_pair 11 = .ok (.iload 6, 2) := by decide +kernel
theorem dX8_pair_13 : decode cX8_pair 13 = .ok (.ifCond .eq 6, 3) := by decide +kernel
theorem dX8_pair_16 : decode cX8_pair 16 = .ok (.iload 6, 2) := by decide +kernel
theorem dX8_pair_18 : decode cX8_pair 18 = .ok (.ireturn, 1) := by decide +kernel
theorem dX8_pair_19 : decode cX8_pair 19 = .ok (.aload_n 0, 1) := by decide +kernel
theorem dX8_pair_20 : decode cX8_pair 20 = .ok (.getfield 60, 3) := by decide +kernel
theorem dX8_pair_23 : decode cX8_pair 23 = .ok (.iload_n 1, 1) := by decide +kernel
theorem dX8_pair_24 : decode cX8_pair 24 = .ok (.iload_n 2, 1) := by decide +kernel
theorem dX8_pair_25 : decode cX8_pair 25 = .ok (.iload_n 3, 1) := by decide +kernel
theorem dX8_pair_26 : decode cX8_pair 26 = .ok (.iload 4, 2) := by decide +kernel
theorem dX8_pair_28 : decode cX8_pair 28 = .ok (.invokevirtual 225, 3) := by decide +kernel
theorem dX8_pair_31 : decode cX8_pair 31 = .ok (.aload_n 0, 1) := by decide +kernel
theorem dX8_pair_32 : decode cX8_pair 32 = .ok (.aload_n 0, 1) := by decide +kernel
theorem dX8_pair_33 : decode cX8_pair 33 = .ok (.getfield 60, 3) := by decide +kernel
theorem dX8_pair_36 : decode cX8_pair 36 = .ok (.iload 5, 2) := by decide +kernel
theorem dX8_pair_38 : decode cX8_pair 38 = .ok (.invokevirtual 231, 3) := by decide +kernel
theorem dX8_pair_41 : decode cX8_pair 41 = .ok (.invokevirtual 93, 3) := by decide +kernel
theorem dX8_pair_44 : decode cX8_pair 44 = .ok (.ireturn, 1) := by decide +kernel
theorem dX8_kind_0 : decode cX8_kind 0 = .ok (.aload_n 0, 1) := by decide +kernel
theorem dX8_kind_1 : decode cX8_kind 1 = .ok (.getfield 28, 3) := by decide +kernel
theorem dX8_kind_4 : decode cX8_kind 4 = .ok (.iload_n 1, 1) := by decide +kernel
theorem dX8_kind_5 : decode cX8_kind 5 = .ok (.invokevirtual 162, 3) := by decide +kernel
theorem dX8_kind_8 : decode cX8_kind 8 = .ok (.ifCond .ne 6, 3) := by decide +kernel
theorem dX8_kind_11 : decode cX8_kind 11 = .ok (.ldc 84, 2) := by decide +kernel
theorem dX8_kind_13 : decode cX8_kind 13 = .ok (.ireturn, 1) := by decide +kernel
theorem dX8_kind_14 : decode cX8_kind 14 = .ok (.aload_n 0, 1) := by decide +kernel
theorem dX8_kind_15 : decode cX8_kind 15 = .ok (.getfield 28, 3) := by decide +kernel
theorem dX8_kind_18 : decode cX8_kind 18 = .ok (.iload_n 1, 1) := by decide +kernel
theorem dX8_kind_19 : decode cX8_kind 19 = .ok (.invokevirtual 234, 3) := by decide +kernel
theorem dX8_kind_22 : decode cX8_kind 22 = .ok (.ireturn, 1) := by decide +kernel
theorem dX8_as_0 : decode cX8_as 0 = .ok (.aload_n 0, 1) := by decide +kernel
theorem dX8_as_1 : decode cX8_as 1 = .ok (.getfield 28, 3) := by decide +kernel
theorem dX8_as_4 : decode cX8_as 4 = .ok (.iload_n 1, 1) := by decide +kernel
theorem dX8_as_5 : decode cX8_as 5 = .ok (.invokevirtual 162, 3) := by decide +kernel
theorem dX8_as_8 : decode cX8_as 8 = .ok (.ifCond .eq 12, 3) := by decide +kernel
theorem dX8_as_11 : decode cX8_as 11 = .ok (.iload_n 2, 1) := by decide +kernel
theorem dX8_as_12 : decode cX8_as 12 = .ok (.iconst 0, 1) := by decide +kernel
theorem dX8_as_13 : decode cX8_as 13 = .ok (.iconst 4, 1) := by decide +kernel
theorem dX8_as_14 : decode cX8_as 14 = .ok (.invokestatic 145, 3) := by decide +kernel
theorem dX8_as_17 : decode cX8_as 17 = .ok (.ifCond .ne 6, 3) := by decide +kernel
theorem dX8_as_20 : decode cX8_as 20 = .ok (.ldc 84, 2) := by decide +kernel
theorem dX8_as_22 : decode cX8_as 22 = .ok (.ireturn, 1) := by decide +kernel
theorem dX8_as_23 : decode cX8_as 23 = .ok (.aload_n 0, 1) := by decide +kernel
theorem dX8_as_24 : decode cX8_as 24 = .ok (.getfield 28, 3) := by decide +kernel
theorem dX8_as_27 : decode cX8_as 27 = .ok (.iload_n 1, 1) := by decide +kernel
theorem dX8_as_28 : decode cX8_as 28 = .ok (.iload_n 2, 1) := by decide +kernel
theorem dX8_as_29 : decode cX8_as 29 = .ok (.invokevirtual 237, 3) := by decide +kernel
theorem dX8_as_32 : decode cX8_as 32 = .ok (.ifCond .ne 9, 3) := by decide +kernel
theorem dX8_as_35 : decode cX8_as 35 = .ok (.aload_n 0, 1) := by decide +kernel
theorem dX8_as_36 : decode cX8_as 36 = .ok (.iconst 3, 1) := by decide +kernel
theorem dX8_as_37 : decode cX8_as 37 = .ok (.invokevirtual 85, 3) := by decide +kernel
theorem dX8_as_40 : decode cX8_as 40 = .ok (.ireturn, 1) := by decide +kernel
theorem dX8_as_41 : decode cX8_as 41 = .ok (.aload_n 0, 1) := by decide +kernel
theorem dX8_as_42 : decode cX8_as 42 = .ok (.aload_n 0, 1) := by decide +kernel
theorem dX8_as_43 : decode cX8_as 43 = .ok (.getfield 28, 3) := by decide +kernel
theorem dX8_as_46 : decode cX8_as 46 = .ok (.iload_n 1, 1) := by decide +kernel
theorem dX8_as_47 : decode cX8_as 47 = .ok (.iconst 1, 1) := by decide +kernel
theorem dX8_as_48 : decode cX8_as 48 = .ok (.invokevirtual 168, 3) := by decide +kernel
theorem dX8_as_51 : decode cX8_as 51 = .ok (.invokevirtual 93, 3) := by decide +kernel
theorem dX8_as_54 : decode cX8_as 54 = .ok (.ireturn, 1) := by decide +kernel
theorem dX8_ask_0 : decode cX8_ask 0 = .ok (.aload_n 0, 1) := by decide +kernel
theorem dX8_ask_1 : decode cX8_ask 1 = .ok (.getfield 28, 3) := by decide +kernel
theorem dX8_ask_4 : decode cX8_ask 4 = .ok (.iload_n 1, 1) := by decide +kernel
theorem dX8_ask_5 : decode cX8_ask 5 = .ok (.invokevirtual 162, 3) := by decide +kernel
theorem dX8_ask_8 : decode cX8_ask 8 = .ok (.ifCond .eq 12, 3) := by decide +kernel
theorem dX8_ask_11 : decode cX8_ask 11 = .ok (.iload_n 2, 1) := by decide +kernel
theorem dX8_ask_12 : decode cX8_ask 12 = .ok (.iconst 0, 1) := by decide +kernel
theorem dX8_ask_13 : decode cX8_ask 13 = .ok (.iconst 1, 1) := by decide +kernel
theorem dX8_ask_14 : decode cX8_ask 14 = .ok (.invokestatic 145, 3) := by decide +kernel
theorem dX8_ask_17 : decode cX8_ask 17 = .ok (.ifCond .ne 6, 3) := by decide +kernel
theorem dX8_ask_20 : decode cX8_ask 20 = .ok (.ldc 84, 2) := by decide +kernel
theorem dX8_ask_22 : decode cX8_ask 22 = .ok (.ireturn, 1) := by decide +kernel
theorem dX8_ask_23 : decode cX8_ask 23 = .ok (.aload_n 0, 1) := by decide +kernel
theorem dX8_ask_24 : decode cX8_ask 24 = .ok (.getfield 69, 3) := by decide +kernel
theorem dX8_ask_27 : decode cX8_ask 27 = .ok (.invokevirtual 240, 3) := by decide +kernel
theorem dX8_ask_30 : decode cX8_ask 30 = .ok (.iload_n 2, 1) := by decide +kernel
theorem dX8_ask_31 : decode cX8_ask 31 = .ok (.ifCond .ne 14, 3) := by decide +kernel
theorem dX8_ask_34 : decode cX8_ask 34 = .ok (.aload_n 0, 1) := by decide +kernel
theorem dX8_ask_35 : decode cX8_ask 35 = .ok (.getfield 69, 3) := by decide +kernel
theorem dX8_ask_38 : decode cX8_ask 38 = .ok (.iload_n 1, 1) := by decide +kernel
theorem dX8_ask_39 : decode cX8_ask 39 = .ok (.invokevirtual 243, 3) := by decide +kernel
theorem dX8_ask_42 : decode cX8_ask 42 = .ok (.goto 11, 3) := by decide +kernel
theorem dX8_ask_45 : decode cX8_ask 45 = .ok (.aload_n 0, 1) := by decide +kernel
theorem dX8_ask_46 : decode cX8_ask 46 = .ok (.getfield 69, 3) := by decide +kernel
theorem dX8_ask_49 : decode cX8_ask 49 = .ok (.iload_n 1, 1) := by decide +kernel
theorem dX8_ask_50 : decode cX8_ask 50 = .ok (.invokevirtual 246, 3) := by decide +kernel
theorem dX8_ask_53 : decode cX8_ask 53 = .ok (.ireturn, 1) := by decide +kernel
theorem dX8_trace_0 : decode cX8_trace 0 = .ok (.aload_n 0, 1) := by decide +kernel
theorem dX8_trace_1 : decode cX8_trace 1 = .ok (.getfield 69, 3) := by decide +kernel
theorem dX8_trace_4 : decode cX8_trace 4 = .ok (.iload_n 1, 1) := by decide +kernel
theorem dX8_trace_5 : decode cX8_trace 5 = .ok (.invokevirtual 249, 3) := by decide +kernel
theorem dX8_trace_8 : decode cX8_trace 8 = .ok (.ireturn, 1) := by decide +kernel
theorem dX8_count_0 : decode cX8_count 0 = .ok (.iload_n 1, 1) := by decide +kernel
theorem dX8_count_1 : decode cX8_count 1 = .ok (.tableswitch 115 0 7 #[47, 55, 63, 71, 80, 89, 98, 107], 47) := by decide +kernel
theorem dX8_count_48 : decode cX8_count 48 = .ok (.aload_n 0, 1) := by decide +kernel
theorem dX8_count_49 : decode cX8_count 49 = .ok (.getfield 10, 3) := by decide +kernel
theorem dX8_count_52 : decode cX8_count 52 = .ok (.invokevirtual 252, 3) := by decide +kernel
theorem dX8_count_55 : decode cX8_count 55 = .ok (.ireturn, 1) := by decide +kernel
theorem dX8_count_56 : decode cX8_count 56 = .ok (.aload_n 0, 1) := by decide +kernel
theorem dX8_count_57 : decode cX8_count 57 = .ok (.getfield 19, 3) := by decide +kernel
theorem dX8_count_60 : decode cX8_count 60 = .ok (.invokevirtual 255, 3) := by decide +kernel
theorem dX8_count_63 : decode cX8_count 63 = .ok (.ireturn, 1) := by decide +kernel
theorem dX8_count_64 : decode cX8_count 64 = .ok (.aload_n 0, 1) := by decide +kernel
theorem dX8_count_65 : decode cX8_count 65 = .ok (.getfield 28, 3) := by decide +kernel
theorem dX8_count_68 : decode cX8_count 68 = .ok (.invokevirtual 256, 3) := by decide +kernel
theorem dX8_count_71 : decode cX8_count 71 = .ok (.ireturn, 1) := by decide +kernel
theorem dX8_count_72 : decode cX8_count 72 = .ok (.aload_n 0, 1) := by decide +kernel
theorem dX8_count_73 : decode cX8_count 73 = .ok (.getfield 28, 3) := by decide +kernel
theorem dX8_count_76 : decode cX8_count 76 = .ok (.iconst 1, 1) := by decide +kernel
theorem dX8_count_77 : decode cX8_count 77 = .ok (.invokevirtual 257, 3) := by decide +kernel
theorem dX8_count_80 : decode cX8_count 80 = .ok (.ireturn, 1) := by decide +kernel
theorem dX8_count_81 : decode cX8_count 81 = .ok (.aload_n 0, 1) := by decide +kernel
theorem dX8_count_82 : decode cX8_count 82 = .ok (.getfield 28, 3) := by decide +kernel
theorem dX8_count_85 : decode cX8_count 85 = .ok (.iconst 2, 1) := by decide +kernel
theorem dX8_count_86 : decode cX8_count 86 = .ok (.invokevirtual 257, 3) := by decide +kernel
theorem dX8_count_89 : decode cX8_count 89 = .ok (.ireturn, 1) := by decide +kernel
theorem dX8_count_90 : decode cX8_count 90 = .ok (.aload_n 0, 1) := by decide +kernel
theorem dX8_count_91 : decode cX8_count 91 = .ok (.getfield 28, 3) := by decide +kernel
theorem dX8_count_94 : decode cX8_count 94 = .ok (.iconst 3, 1) := by decide +kernel
theorem dX8_count_95 : decode cX8_count 95 = .ok (.invokevirtual 257, 3) := by decide +kernel
theorem dX8_count_98 : decode cX8_count 98 = .ok (.ireturn, 1) := by decide +kernel
theorem dX8_count_99 : decode cX8_count 99 = .ok (.aload_n 0, 1) := by decide +kernel
theorem dX8_count_100 : decode cX8_count 100 = .ok (.getfield 28, 3) := by decide +kernel
theorem dX8_count_103 : decode cX8_count 103 = .ok (.iconst 4, 1) := by decide +kernel
theorem dX8_count_104 : decode cX8_count 104 = .ok (.invokevirtual 257, 3) := by decide +kernel
theorem dX8_count_107 : decode cX8_count 107 = .ok (.ireturn, 1) := by decide +kernel
theorem dX8_count_108 : decode cX8_count 108 = .ok (.aload_n 0, 1) := by decide +kernel
theorem dX8_count_109 : decode cX8_count 109 = .ok (.getfield 35, 3) := by decide +kernel
theorem dX8_count_112 : decode cX8_count 112 = .ok (.invokevirtual 260, 3) := by decide +kernel
theorem dX8_count_115 : decode cX8_count 115 = .ok (.ireturn, 1) := by decide +kernel
theorem dX8_count_116 : decode cX8_count 116 = .ok (.ldc 84, 2) := by decide +kernel
theorem dX8_count_118 : decode cX8_count 118 = .ok (.ireturn, 1) := by decide +kernel
theorem dX8_status_0 : decode cX8_status 0 = .ok (.aload_n 0, 1) := by decide +kernel
theorem dX8_status_1 : decode cX8_status 1 = .ok (.getfield 73, 3) := by decide +kernel
theorem dX8_status_4 : decode cX8_status 4 = .ok (.ireturn, 1) := by decide +kernel
theorem dX8_found_0 : decode cX8_found 0 = .ok (.aload_n 0, 1) := by decide +kernel
theorem dX8_found_1 : decode cX8_found 1 = .ok (.iload_n 1, 1) := by decide +kernel
theorem dX8_found_2 : decode cX8_found 2 = .ok (.putfield 73, 3) := by decide +kernel
theorem dX8_found_5 : decode cX8_found 5 = .ok (.ldc_w 261, 3) := by decide +kernel
theorem dX8_found_8 : decode cX8_found 8 = .ok (.iload_n 1, 1) := by decide +kernel
theorem dX8_found_9 : decode cX8_found 9 = .ok (.isub, 1) := by decide +kernel
theorem dX8_found_10 : decode cX8_found 10 = .ok (.ireturn, 1) := by decide +kernel
theorem dX8_answered_0 : decode cX8_answered 0 = .ok (.aload_n 0, 1) := by decide +kernel
theorem dX8_answered_1 : decode cX8_answered 1 = .ok (.iconst 0, 1) := by decide +kernel
theorem dX8_answered_2 : decode cX8_answered 2 = .ok (.putfield 73, 3) := by decide +kernel
theorem dX8_answered_5 : decode cX8_answered 5 = .ok (.iload_n 1, 1) := by decide +kernel
theorem dX8_answered_6 : decode cX8_answered 6 = .ok (.ireturn, 1) := by decide +kernel
theorem dX8_refusalOfRows_0 : decode cX8_refusalOfRows 0 = .ok (.iload_n 1, 1) := by decide +kernel
theorem dX8_refusalOfRows_1 : decode cX8_refusalOfRows 1 = .ok (.invokestatic 77, 3) := by decide +kernel
theorem dX8_refusalOfRows_4 : decode cX8_refusalOfRows 4 = .ok (.ifCond .eq 25, 3) := by decide +kernel
theorem dX8_refusalOfRows_7 : decode cX8_refusalOfRows 7 = .ok (.iload_n 3, 1) := by decide +kernel
theorem dX8_refusalOfRows_8 : decode cX8_refusalOfRows 8 = .ok (.invokestatic 77, 3) := by decide +kernel
theorem dX8_refusalOfRows_11 : decode cX8_refusalOfRows 11 = .ok (.ifCond .eq 18, 3) := by decide +kernel
theorem dX8_refusalOfRows_14 : decode cX8_refusalOfRows 14 = .ok (.iload_n 2, 1) := by decide +kernel
theorem dX8_refusalOfRows_15 : decode cX8_refusalOfRows 15 = .ok (.invokestatic 262, 3) := by decide +kernel
theorem dX8_refusalOfRows_18 : decode cX8_refusalOfRows 18 = .ok (.ifCond .eq 11, 3) := by decide +kernel
theorem dX8_refusalOfRows_21 : decode cX8_refusalOfRows 21 = .ok (.iload 4, 2) := by decide +kernel
theorem dX8_refusalOfRows_23 : decode cX8_refusalOfRows 23 = .ok (.invokestatic 262, 3) := by decide +kernel
theorem dX8_refusalOfRows_26 : decode cX8_refusalOfRows 26 = .ok (.ifCond .ne 6, 3) := by decide +kernel
theorem dX8_refusalOfRows_29 : decode cX8_refusalOfRows 29 = .ok (.ldc 84, 2) := by decide +kernel
theorem dX8_refusalOfRows_31 : decode cX8_refusalOfRows 31 = .ok (.ireturn, 1) := by decide +kernel
theorem dX8_refusalOfRows_32 : decode cX8_refusalOfRows 32 = .ok (.aload_n 0, 1) := by decide +kernel
theorem dX8_refusalOfRows_33 : decode cX8_refusalOfRows 33 = .ok (.getfield 10, 3) := by decide +kernel
theorem dX8_refusalOfRows_36 : decode cX8_refusalOfRows 36 = .ok (.iload_n 1, 1) := by decide +kernel
theorem dX8_refusalOfRows_37 : decode cX8_refusalOfRows 37 = .ok (.invokevirtual 96, 3) := by decide +kernel
theorem dX8_refusalOfRows_40 : decode cX8_refusalOfRows 40 = .ok (.ifCond .ne 14, 3) := by decide +kernel
theorem dX8_refusalOfRows_43 : decode cX8_refusalOfRows 43 = .ok (.aload_n 0, 1) := by decide +kernel
theorem dX8_refusalOfRows_44 : decode cX8_refusalOfRows 44 = .ok (.getfield 10, 3) := by decide +kernel
theorem dX8_refusalOfRows_47 : decode cX8_refusalOfRows 47 = .ok (.iload_n 3, 1) := by decide +kernel
theorem dX8_refusalOfRows_48 : decode cX8_refusalOfRows 48 = .ok (.invokevirtual 96, 3) := by decide +kernel
theorem dX8_refusalOfRows_51 : decode cX8_refusalOfRows 51 = .ok (.ifCond .eq 9, 3) := by decide +kernel
theorem dX8_refusalOfRows_54 : decode cX8_refusalOfRows 54 = .ok (.aload_n 0, 1) := by decide +kernel
theorem dX8_refusalOfRows_55 : decode cX8_refusalOfRows 55 = .ok (.iconst 1, 1) := by decide +kernel
theorem dX8_refusalOfRows_56 : decode cX8_refusalOfRows 56 = .ok (.invokevirtual 85, 3) := by decide +kernel
theorem dX8_refusalOfRows_59 : decode cX8_refusalOfRows 59 = .ok (.ireturn, 1) := by decide +kernel
theorem dX8_refusalOfRows_60 : decode cX8_refusalOfRows 60 = .ok (.aload_n 0, 1) := by decide +kernel
theorem dX8_refusalOfRows_61 : decode cX8_refusalOfRows 61 = .ok (.getfield 10, 3) := by decide +kernel
theorem dX8_refusalOfRows_64 : decode cX8_refusalOfRows 64 = .ok (.iload_n 1, 1) := by decide +kernel
theorem dX8_refusalOfRows_65 : decode cX8_refusalOfRows 65 = .ok (.iconst 0, 1) := by decide +kernel
theorem dX8_refusalOfRows_66 : decode cX8_refusalOfRows 66 = .ok (.iconst 2, 1) := by decide +kernel
theorem dX8_refusalOfRows_67 : decode cX8_refusalOfRows 67 = .ok (.iload_n 2, 1) := by decide +kernel
theorem dX8_refusalOfRows_68 : decode cX8_refusalOfRows 68 = .ok (.imul, 1) := by decide +kernel
theorem dX8_refusalOfRows_69 : decode cX8_refusalOfRows 69 = .ok (.invokevirtual 99, 3) := by decide +kernel
theorem dX8_refusalOfRows_72 : decode cX8_refusalOfRows 72 = .ok (.ifCond .eq 19, 3) := by decide +kernel
theorem dX8_refusalOfRows_75 : decode cX8_refusalOfRows 75 = .ok (.aload_n 0, 1) := by decide +kernel
theorem dX8_refusalOfRows_76 : decode cX8_refusalOfRows 76 = .ok (.getfield 10, 3) := by decide +kernel
theorem dX8_refusalOfRows_79 : decode cX8_refusalOfRows 79 = .ok (.iload_n 3, 1) := by decide +kernel
theorem dX8_refusalOfRows_80 : decode cX8_refusalOfRows 80 = .ok (.iconst 0, 1) := by decide +kernel
theorem dX8_refusalOfRows_81 : decode cX8_refusalOfRows 81 = .ok (.iconst 2, 1) := by decide +kernel
theorem dX8_refusalOfRows_82 : decode cX8_refusalOfRows 82 = .ok (.iload 4, 2) := by decide +kernel
theorem dX8_refusalOfRows_84 : decode cX8_refusalOfRows 84 = .ok (.imul, 1) := by decide +kernel
theorem dX8_refusalOfRows_85 : decode cX8_refusalOfRows 85 = .ok (.invokevirtual 99, 3) := by decide +kernel
theorem dX8_refusalOfRows_88 : decode cX8_refusalOfRows 88 = .ok (.ifCond .ne 9, 3) := by decide +kernel
theorem dX8_refusalOfRows_91 : decode cX8_refusalOfRows 91 = .ok (.aload_n 0, 1) := by decide +kernel
theorem dX8_refusalOfRows_92 : decode cX8_refusalOfRows 92 = .ok (.iconst 2, 1) := by decide +kernel
theorem dX8_refusalOfRows_93 : decode cX8_refusalOfRows 93 = .ok (.invokevirtual 85, 3) := by decide +kernel
theorem dX8_refusalOfRows_96 : decode cX8_refusalOfRows 96 = .ok (.ireturn, 1) := by decide +kernel
theorem dX8_refusalOfRows_97 : decode cX8_refusalOfRows 97 = .ok (.aload_n 0, 1) := by decide +kernel
theorem dX8_refusalOfRows_98 : decode cX8_refusalOfRows 98 = .ok (.getfield 10, 3) := by decide +kernel
theorem dX8_refusalOfRows_101 : decode cX8_refusalOfRows 101 = .ok (.iload_n 1, 1) := by decide +kernel
theorem dX8_refusalOfRows_102 : decode cX8_refusalOfRows 102 = .ok (.iconst 0, 1) := by decide +kernel
theorem dX8_refusalOfRows_103 : decode cX8_refusalOfRows 103 = .ok (.iconst 2, 1) := by decide +kernel
theorem dX8_refusalOfRows_104 : decode cX8_refusalOfRows 104 = .ok (.iload_n 2, 1) := by decide +kernel
theorem dX8_refusalOfRows_105 : decode cX8_refusalOfRows 105 = .ok (.imul, 1) := by decide +kernel
theorem dX8_refusalOfRows_106 : decode cX8_refusalOfRows 106 = .ok (.sipush 1000, 3) := by decide +kernel
theorem dX8_refusalOfRows_109 : decode cX8_refusalOfRows 109 = .ok (.invokevirtual 208, 3) := by decide +kernel
theorem dX8_refusalOfRows_112 : decode cX8_refusalOfRows 112 = .ok (.ifCond .eq 22, 3) := by decide +kernel
theorem dX8_refusalOfRows_115 : decode cX8_refusalOfRows 115 = .ok (.aload_n 0, 1) := by decide +kernel
theorem dX8_refusalOfRows_116 : decode cX8_refusalOfRows 116 = .ok (.getfield 10, 3) := by decide +kernel
theorem dX8_refusalOfRows_119 : decode cX8_refusalOfRows 119 = .ok (.iload_n 3, 1) := by decide +kernel
theorem dX8_refusalOfRows_120 : decode cX8_refusalOfRows 120 = .ok (.iconst 0, 1) := by decide +kernel
theorem dX8_refusalOfRows_121 : decode cX8_refusalOfRows 121 = .ok (.iconst 2, 1) := by decide +kernel
theorem dX8_refusalOfRows_122 : decode cX8_refusalOfRows 122 = .ok (.iload 4, 2) := by decide +kernel
theorem dX8_refusalOfRows_124 : decode cX8_refusalOfRows 124 = .ok (.imul, 1) := by decide +kernel
theorem dX8_refusalOfRows_125 : decode cX8_refusalOfRows 125 = .ok (.sipush 1000, 3) := by decide +kernel
theorem dX8_refusalOfRows_128 : decode cX8_refusalOfRows 128 = .ok (.invokevirtual 208, 3) := by decide +kernel
theorem dX8_refusalOfRows_131 : decode cX8_refusalOfRows 131 = .ok (.ifCond .ne 6, 3) := by decide +kernel
theorem dX8_refusalOfRows_134 : decode cX8_refusalOfRows 134 = .ok (.ldc 84, 2) := by decide +kernel
theorem dX8_refusalOfRows_136 : decode cX8_refusalOfRows 136 = .ok (.ireturn, 1) := by decide +kernel
theorem dX8_refusalOfRows_137 : decode cX8_refusalOfRows 137 = .ok (.iconst 0, 1) := by decide +kernel
theorem dX8_refusalOfRows_138 : decode cX8_refusalOfRows 138 = .ok (.ireturn, 1) := by decide +kernel
theorem dX8_numberFrom_0 : decode cX8_numberFrom 0 = .ok (.aload_n 0, 1) := by decide +kernel
theorem dX8_numberFrom_1 : decode cX8_numberFrom 1 = .ok (.getfield 51, 3) := by decide +kernel
theorem dX8_numberFrom_4 : decode cX8_numberFrom 4 = .ok (.iload_n 1, 1) := by decide +kernel
theorem dX8_numberFrom_5 : decode cX8_numberFrom 5 = .ok (.aload_n 0, 1) := by decide +kernel
theorem dX8_numberFrom_6 : decode cX8_numberFrom 6 = .ok (.getfield 44, 3) := by decide +kernel
theorem dX8_numberFrom_9 : decode cX8_numberFrom 9 = .ok (.iload_n 1, 1) := by decide +kernel
theorem dX8_numberFrom_10 : decode cX8_numberFrom 10 = .ok (.invokevirtual 199, 3) := by decide +kernel
theorem dX8_numberFrom_13 : decode cX8_numberFrom 13 = .ok (.aload_n 0, 1) := by decide +kernel
theorem dX8_numberFrom_14 : decode cX8_numberFrom 14 = .ok (.getfield 44, 3) := by decide +kernel
theorem dX8_numberFrom_17 : decode cX8_numberFrom 17 = .ok (.iload_n 1, 1) := by decide +kernel
theorem dX8_numberFrom_18 : decode cX8_numberFrom 18 = .ok (.invokevirtual 202, 3) := by decide +kernel
theorem dX8_numberFrom_21 : decode cX8_numberFrom 21 = .ok (.invokevirtual 265, 3) := by decide +kernel
theorem dX8_numberFrom_24 : decode cX8_numberFrom 24 = .ok (.ireturn, 1) := by decide +kernel
theorem dX8_isWithin_0 : decode cX8_isWithin 0 = .ok (.iload_n 0, 1) := by decide +kernel
theorem dX8_isWithin_1 : decode cX8_isWithin 1 = .ok (.iload_n 1, 1) := by decide +kernel
theorem dX8_isWithin_2 : decode cX8_isWithin 2 = .ok (.if_icmp .lt 12, 3) := by decide +kernel
theorem dX8_isWithin_5 : decode cX8_isWithin 5 = .ok (.iload_n 0, 1) := by decide +kernel
theorem dX8_isWithin_6 : decode cX8_isWithin 6 = .ok (.iload_n 2, 1) := by decide +kernel
theorem dX8_isWithin_7 : decode cX8_isWithin 7 = .ok (.if_icmp .gt 7, 3) := by decide +kernel
theorem dX8_isWithin_10 : decode cX8_isWithin 10 = .ok (.iconst 1, 1) := by decide +kernel
theorem dX8_isWithin_11 : decode cX8_isWithin 11 = .ok (.goto 4, 3) := by decide +kernel
theorem dX8_isWithin_14 : decode cX8_isWithin 14 = .ok (.iconst 0, 1) := by decide +kernel
theorem dX8_isWithin_15 : decode cX8_isWithin 15 = .ok (.ireturn, 1) := by decide +kernel
theorem dX8_isPlace_0 : decode cX8_isPlace 0 = .ok (.iload_n 0, 1) := by decide +kernel
theorem dX8_isPlace_1 : decode cX8_isPlace 1 = .ok (.iconst 0, 1) := by decide +kernel
theorem dX8_isPlace_2 : decode cX8_isPlace 2 = .ok (.sipush 1000, 3) := by decide +kernel
theorem dX8_isPlace_5 : decode cX8_isPlace 5 = .ok (.invokestatic 145, 3) := by decide +kernel
theorem dX8_isPlace_8 : decode cX8_isPlace 8 = .ok (.ifCond .eq 18, 3) := by decide +kernel
theorem dX8_isPlace_11 : decode cX8_isPlace 11 = .ok (.iload_n 1, 1) := by decide +kernel
theorem dX8_isPlace_12 : decode cX8_isPlace 12 = .ok (.iconst 0, 1) := by decide +kernel
theorem dX8_isPlace_13 : decode cX8_isPlace 13 = .ok (.sipush 1000, 3) := by decide +kernel
theorem dX8_isPlace_16 : decode cX8_isPlace 16 = .ok (.invokestatic 145, 3) := by decide +kernel
theorem dX8_isPlace_19 : decode cX8_isPlace 19 = .ok (.ifCond .eq 7, 3) := by decide +kernel
theorem dX8_isPlace_22 : decode cX8_isPlace 22 = .ok (.iconst 1, 1) := by decide +kernel
theorem dX8_isPlace_23 : decode cX8_isPlace 23 = .ok (.goto 4, 3) := by decide +kernel
theorem dX8_isPlace_26 : decode cX8_isPlace 26 = .ok (.iconst 0, 1) := by decide +kernel
theorem dX8_isPlace_27 : decode cX8_isPlace 27 = .ok (.ireturn, 1) := by decide +kernel
theorem dX8_isPicture_0 : decode cX8_isPicture 0 = .ok (.iload_n 0, 1) := by decide +kernel
theorem dX8_isPicture_1 : decode cX8_isPicture 1 = .ok (.iconst 0, 1) := by decide +kernel
theorem dX8_isPicture_2 : decode cX8_isPicture 2 = .ok (.iconst 1, 1) := by decide +kernel
theorem dX8_isPicture_3 : decode cX8_isPicture 3 = .ok (.invokestatic 145, 3) := by decide +kernel
theorem dX8_isPicture_6 : decode cX8_isPicture 6 = .ok (.ireturn, 1) := by decide +kernel
theorem dX8_isTicks_0 : decode cX8_isTicks 0 = .ok (.iload_n 0, 1) := by decide +kernel
theorem dX8_isTicks_1 : decode cX8_isTicks 1 = .ok (.iconst 1, 1) := by decide +kernel
theorem dX8_isTicks_2 : decode cX8_isTicks 2 = .ok (.bipush 100, 2) := by decide +kernel
theorem dX8_isTicks_4 : decode cX8_isTicks 4 = .ok (.invokestatic 145, 3) := by decide +kernel
theorem dX8_isTicks_7 : decode cX8_isTicks 7 = .ok (.ireturn, 1) := by decide +kernel
theorem dX8_isTick_0 : decode cX8_isTick 0 = .ok (.iload_n 1, 1) := by decide +kernel
theorem dX8_isTick_1 : decode cX8_isTick 1 = .ok (.invokestatic 171, 3) := by decide +kernel
theorem dX8_isTick_4 : decode cX8_isTick 4 = .ok (.ifCond .eq 16, 3) := by decide +kernel
theorem dX8_isTick_7 : decode cX8_isTick 7 = .ok (.iload_n 0, 1) := by decide +kernel
theorem dX8_isTick_8 : decode cX8_isTick 8 = .ok (.iconst 0, 1) := by decide +kernel
theorem dX8_isTick_9 : decode cX8_isTick 9 = .ok (.iload_n 1, 1) := by decide +kernel
theorem dX8_isTick_10 : decode cX8_isTick 10 = .ok (.invokestatic 145, 3) := by decide +kernel
theorem dX8_isTick_13 : decode cX8_isTick 13 = .ok (.ifCond .eq 7, 3) := by decide +kernel
theorem dX8_isTick_16 : decode cX8_isTick 16 = .ok (.iconst 1, 1) := by decide +kernel
theorem dX8_isTick_17 : decode cX8_isTick 17 = .ok (.goto 4, 3) := by decide +kernel
theorem dX8_isTick_20 : decode cX8_isTick 20 = .ok (.iconst 0, 1) := by decide +kernel
theorem dX8_isTick_21 : decode cX8_isTick 21 = .ok (.ireturn, 1) := by decide +kernel
