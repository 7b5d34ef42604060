theorem dX0_init_0 : decode cX0_init 0 = .ok (.aload_n 0, 1) := by decide +kernel
theorem dX0_init_1 : decode cX0_init 1 = .ok (.invokespecial 3, 3) := by decide +kernel
theorem dX0_init_4 : decode cX0_init 4 = .ok (.aload_n 0, 1) := by decide +kernel
theorem dX0_init_5 : decode cX0_init 5 = .ok (.bipush 16, 2) := by decide +kernel
theorem dX0_init_7 : decode cX0_init 7 = .ok (.newarray .int, 2) := by decide +kernel
theorem dX0_init_9 : decode cX0_init 9 = .ok (.putfield 11, 3) := by decide +kernel
theorem dX0_init_12 : decode cX0_init 12 = .ok (.aload_n 0, 1) := by decide +kernel
theorem dX0_init_13 : decode cX0_init 13 = .ok (.iconst 0, 1) := by decide +kernel
theorem dX0_init_14 : decode cX0_init 14 = .ok (.putfield 15, 3) := by decide +kernel
theorem dX0_init_17 : decode cX0_init 17 = .ok (.aload_n 0, 1) := by decide +kernel
theorem dX0_init_18 : decode cX0_init 18 = .ok (.aload_n 1, 1) := by decide +kernel
theorem dX0_init_19 : decode cX0_init 19 = .ok (.putfield 19, 3) := by decide +kernel
theorem dX0_init_22 : decode cX0_init 22 = .ok (.return_, 1) := by decide +kernel
theorem dX0_clear_0 : decode cX0_clear 0 = .ok (.aload_n 0, 1) := by decide +kernel
theorem dX0_clear_1 : decode cX0_clear 1 = .ok (.iconst 0, 1) := by decide +kernel
theorem dX0_clear_2 : decode cX0_clear 2 = .ok (.putfield 15, 3) := by decide +kernel
theorem dX0_clear_5 : decode cX0_clear 5 = .ok (.return_, 1) := by decide +kernel
theorem dX0_traced_0 : decode cX0_traced 0 = .ok (.iload_n 1, 1) := by decide +kernel
theorem dX0_traced_1 : decode cX0_traced 1 = .ok (.ifCond .lt 20, 3) := by decide +kernel
theorem dX0_traced_4 : decode cX0_traced 4 = .ok (.iload_n 1, 1) := by decide +kernel
theorem dX0_traced_5 : decode cX0_traced 5 = .ok (.aload_n 0, 1) := by decide +kernel
theorem dX0_traced_6 : decode cX0_traced 6 = .ok (.getfield 15, 3) := by decide +kernel
theorem dX0_traced_9 : decode cX0_traced 9 = .ok (.if_icmp .ge 12, 3) := by decide +kernel
theorem dX0_traced_12 : decode cX0_traced 12 = .ok (.aload_n 0, 1) := by decide +kernel
theorem dX0_traced_13 : decode cX0_traced 13 = .ok (.getfield 11, 3) := by decide +kernel
theorem dX0_traced_16 : decode cX0_traced 16 = .ok (.iload_n 1, 1) := by decide +kernel
theorem dX0_traced_17 : decode cX0_traced 17 = .ok (.iaload, 1) := by decide +kernel
theorem dX0_traced_18 : decode cX0_traced 18 = .ok (.goto 5, 3) := by decide +kernel
theorem dX0_traced_21 : decode cX0_traced 21 = .ok (.ldc 23, 2) := by decide +kernel
theorem dX0_traced_23 : decode cX0_traced 23 = .ok (.ireturn, 1) := by decide +kernel
theorem dX0_sizeOf_0 : decode cX0_sizeOf 0 = .ok (.aload_n 0, 1) := by decide +kernel
theorem dX0_sizeOf_1 : decode cX0_sizeOf 1 = .ok (.getfield 19, 3) := by decide +kernel
theorem dX0_sizeOf_4 : decode cX0_sizeOf 4 = .ok (.iload_n 1, 1) := by decide +kernel
theorem dX0_sizeOf_5 : decode cX0_sizeOf 5 = .ok (.invokevirtual 24, 3) := by decide +kernel
theorem dX0_sizeOf_8 : decode cX0_sizeOf 8 = .ok (.tableswitch 45 1 3 #[34, 28, 40], 28) := by decide +kernel
theorem dX0_sizeOf_36 : decode cX0_sizeOf 36 = .ok (.aload_n 0, 1) := by decide +kernel
theorem dX0_sizeOf_37 : decode cX0_sizeOf 37 = .ok (.iload_n 1, 1) := by decide +kernel
theorem dX0_sizeOf_38 : decode cX0_sizeOf 38 = .ok (.invokevirtual 30, 3) := by decide +kernel
theorem dX0_sizeOf_41 : decode cX0_sizeOf 41 = .ok (.ireturn, 1) := by decide +kernel
theorem dX0_sizeOf_42 : decode cX0_sizeOf 42 = .ok (.aload_n 0, 1) := by decide +kernel
theorem dX0_sizeOf_43 : decode cX0_sizeOf 43 = .ok (.iload_n 1, 1) := by decide +kernel
theorem dX0_sizeOf_44 : decode cX0_sizeOf 44 = .ok (.invokevirtual 33, 3) := by decide +kernel
theorem dX0_sizeOf_47 : decode cX0_sizeOf 47 = .ok (.ireturn, 1) := by decide +kernel
theorem dX0_sizeOf_48 : decode cX0_sizeOf 48 = .ok (.aload_n 0, 1) := by decide +kernel
theorem dX0_sizeOf_49 : decode cX0_sizeOf 49 = .ok (.invokevirtual 36, 3) := by decide +kernel
theorem dX0_sizeOf_52 : decode cX0_sizeOf 52 = .ok (.ireturn, 1) := by decide +kernel
theorem dX0_sizeOf_53 : decode cX0_sizeOf 53 = .ok (.aload_n 0, 1) := by decide +kernel
theorem dX0_sizeOf_54 : decode cX0_sizeOf 54 = .ok (.iload_n 1, 1) := by decide +kernel
theorem dX0_sizeOf_55 : decode cX0_sizeOf 55 = .ok (.invokevirtual 40, 3) := by decide +kernel
theorem dX0_sizeOf_58 : decode cX0_sizeOf 58 = .ok (.ireturn, 1) := by decide +kernel
theorem dX0_markOf_0 : decode cX0_markOf 0 = .ok (.aload_n 0, 1) := by decide +kernel
theorem dX0_markOf_1 : decode cX0_markOf 1 = .ok (.getfield 19, 3) := by decide +kernel
theorem dX0_markOf_4 : decode cX0_markOf 4 = .ok (.iload_n 1, 1) := by decide +kernel
theorem dX0_markOf_5 : decode cX0_markOf 5 = .ok (.invokevirtual 24, 3) := by decide +kernel
theorem dX0_markOf_8 : decode cX0_markOf 8 = .ok (.tableswitch 44 1 4 #[32, 32, 44, 38], 32) := by decide +kernel
theorem dX0_markOf_40 : decode cX0_markOf 40 = .ok (.aload_n 0, 1) := by decide +kernel
theorem dX0_markOf_41 : decode cX0_markOf 41 = .ok (.iload_n 1, 1) := by decide +kernel
theorem dX0_markOf_42 : decode cX0_markOf 42 = .ok (.invokevirtual 43, 3) := by decide +kernel
theorem dX0_markOf_45 : decode cX0_markOf 45 = .ok (.ireturn, 1) := by decide +kernel
theorem dX0_markOf_46 : decode cX0_markOf 46 = .ok (.aload_n 0, 1) := by decide +kernel
theorem dX0_markOf_47 : decode cX0_markOf 47 = .ok (.iload_n 1, 1) := by decide +kernel
theorem dX0_markOf_48 : decode cX0_markOf 48 = .ok (.invokevirtual 46, 3) := by decide +kernel
theorem dX0_markOf_51 : decode cX0_markOf 51 = .ok (.ireturn, 1) := by decide +kernel
theorem dX0_markOf_52 : decode cX0_markOf 52 = .ok (.aload_n 0, 1) := by decide +kernel
theorem dX0_markOf_53 : decode cX0_markOf 53 = .ok (.iload_n 1, 1) := by decide +kernel
theorem dX0_markOf_54 : decode cX0_markOf 54 = .ok (.invokevirtual 49, 3) := by decide +kernel
theorem dX0_markOf_57 : decode cX0_markOf 57 = .ok (.ireturn, 1) := by decide +kernel
theorem dX0_begin_0 : decode cX0_begin 0 = .ok (.aload_n 0, 1) := by decide +kernel
theorem dX0_begin_1 : decode cX0_begin 1 = .ok (.getfield 15, 3) := by decide +kernel
theorem dX0_begin_4 : decode cX0_begin 4 = .ok (.bipush 16, 2) := by decide +kernel
theorem dX0_begin_6 : decode cX0_begin 6 = .ok (.if_icmp .ge 23, 3) := by decide +kernel
theorem dX0_begin_9 : decode cX0_begin 9 = .ok (.aload_n 0, 1) := by decide +kernel
theorem dX0_begin_10 : decode cX0_begin 10 = .ok (.getfield 11, 3) := by decide +kernel
theorem dX0_begin_13 : decode cX0_begin 13 = .ok (.aload_n 0, 1) := by decide +kernel
theorem dX0_begin_14 : decode cX0_begin 14 = .ok (.getfield 15, 3) := by decide +kernel
theorem dX0_begin_17 : decode cX0_begin 17 = .ok (.iload_n 1, 1) := by decide +kernel
theorem dX0_begin_18 : decode cX0_begin 18 = .ok (.iastore, 1) := by decide +kernel
theorem dX0_begin_19 : decode cX0_begin 19 = .ok (.aload_n 0, 1) := by decide +kernel
theorem dX0_begin_20 : decode cX0_begin 20 = .ok (.dup, 1) := by decide +kernel
theorem dX0_begin_21 : decode cX0_begin 21 = .ok (.getfield 15, 3) := by decide +kernel
theorem dX0_begin_24 : decode cX0_begin 24 = .ok (.iconst 1, 1) := by decide +kernel
theorem dX0_begin_25 : decode cX0_begin 25 = .ok (.iadd, 1) := by decide +kernel
theorem dX0_begin_26 : decode cX0_begin 26 = .ok (.putfield 15, 3) := by decide +kernel
theorem dX0_begin_29 : decode cX0_begin 29 = .ok (.return_, 1) := by decide +kernel
theorem dX0_body10_0 : decode cX0_body10 0 = .ok (.aload_n 0, 1) := by decide +kernel
theorem dX0_body10_1 : decode cX0_body10 1 = .ok (.bipush 10, 2) := by decide +kernel
theorem dX0_body10_3 : decode cX0_body10 3 = .ok (.invokevirtual 52, 3) := by decide +kernel
theorem dX0_body10_6 : decode cX0_body10 6 = .ok (.aload_n 0, 1) := by decide +kernel
theorem dX0_body10_7 : decode cX0_body10 7 = .ok (.getfield 19, 3) := by decide +kernel
theorem dX0_body10_10 : decode cX0_body10 10 = .ok (.iload_n 1, 1) := by decide +kernel
theorem dX0_body10_11 : decode cX0_body10 11 = .ok (.iconst 0, 1) := by decide +kernel
theorem dX0_body10_12 : decode cX0_body10 12 = .ok (.invokevirtual 56, 3) := by decide +kernel
theorem dX0_body10_15 : decode cX0_body10 15 = .ok (.iconst 2, 1) := by decide +kernel
theorem dX0_body10_16 : decode cX0_body10 16 = .ok (.idiv, 1) := by decide +kernel
theorem dX0_body10_17 : decode cX0_body10 17 = .ok (.ireturn, 1) := by decide +kernel
theorem dX0_body11_0 : decode cX0_body11 0 = .ok (.aload_n 0, 1) := by decide +kernel
theorem dX0_body11_1 : decode cX0_body11 1 = .ok (.bipush 11, 2) := by decide +kernel
theorem dX0_body11_3 : decode cX0_body11 3 = .ok (.invokevirtual 52, 3) := by decide +kernel
theorem dX0_body11_6 : decode cX0_body11 6 = .ok (.aload_n 0, 1) := by decide +kernel
theorem dX0_body11_7 : decode cX0_body11 7 = .ok (.iload_n 1, 1) := by decide +kernel
theorem dX0_body11_8 : decode cX0_body11 8 = .ok (.invokevirtual 40, 3) := by decide +kernel
theorem dX0_body11_11 : decode cX0_body11 11 = .ok (.aload_n 0, 1) := by decide +kernel
theorem dX0_body11_12 : decode cX0_body11 12 = .ok (.getfield 19, 3) := by decide +kernel
theorem dX0_body11_15 : decode cX0_body11 15 = .ok (.iload_n 1, 1) := by decide +kernel
theorem dX0_body11_16 : decode cX0_body11 16 = .ok (.iconst 1, 1) := by decide +kernel
theorem dX0_body11_17 : decode cX0_body11 17 = .ok (.invokevirtual 56, 3) := by decide +kernel
theorem dX0_body11_20 : decode cX0_body11 20 = .ok (.iconst 2, 1) := by decide +kernel
theorem dX0_body11_21 : decode cX0_body11 21 = .ok (.idiv, 1) := by decide +kernel
theorem dX0_body11_22 : decode cX0_body11 22 = .ok (.iadd, 1) := by decide +kernel
theorem dX0_body11_23 : decode cX0_body11 23 = .ok (.ireturn, 1) := by decide +kernel
theorem dX0_body12_0 : decode cX0_body12 0 = .ok (.aload_n 0, 1) := by decide +kernel
theorem dX0_body12_1 : decode cX0_body12 1 = .ok (.bipush 12, 2) := by decide +kernel
theorem dX0_body12_3 : decode cX0_body12 3 = .ok (.invokevirtual 52, 3) := by decide +kernel
theorem dX0_body12_6 : decode cX0_body12 6 = .ok (.aload_n 0, 1) := by decide +kernel
theorem dX0_body12_7 : decode cX0_body12 7 = .ok (.iload_n 1, 1) := by decide +kernel
theorem dX0_body12_8 : decode cX0_body12 8 = .ok (.invokevirtual 33, 3) := by decide +kernel
theorem dX0_body12_11 : decode cX0_body12 11 = .ok (.aload_n 0, 1) := by decide +kernel
theorem dX0_body12_12 : decode cX0_body12 12 = .ok (.iload_n 1, 1) := by decide +kernel
theorem dX0_body12_13 : decode cX0_body12 13 = .ok (.invokevirtual 43, 3) := by decide +kernel
theorem dX0_body12_16 : decode cX0_body12 16 = .ok (.iadd, 1) := by decide +kernel
theorem dX0_body12_17 : decode cX0_body12 17 = .ok (.ireturn, 1) := by decide +kernel
theorem dX0_body13_0 : decode cX0_body13 0 = .ok (.aload_n 0, 1) := by decide +kernel
theorem dX0_body13_1 : decode cX0_body13 1 = .ok (.bipush 13, 2) := by decide +kernel
theorem dX0_body13_3 : decode cX0_body13 3 = .ok (.invokevirtual 52, 3) := by decide +kernel
theorem dX0_body13_6 : decode cX0_body13 6 = .ok (.iconst 0, 1) := by decide +kernel
theorem dX0_body13_7 : decode cX0_body13 7 = .ok (.ireturn, 1) := by decide +kernel
theorem dX0_body20_0 : decode cX0_body20 0 = .ok (.aload_n 0, 1) := by decide +kernel
theorem dX0_body20_1 : decode cX0_body20 1 = .ok (.bipush 20, 2) := by decide +kernel
theorem dX0_body20_3 : decode cX0_body20 3 = .ok (.invokevirtual 52, 3) := by decide +kernel
theorem dX0_body20_6 : decode cX0_body20 6 = .ok (.aload_n 0, 1) := by decide +kernel
theorem dX0_body20_7 : decode cX0_body20 7 = .ok (.getfield 19, 3) := by decide +kernel
theorem dX0_body20_10 : decode cX0_body20 10 = .ok (.iload_n 1, 1) := by decide +kernel
theorem dX0_body20_11 : decode cX0_body20 11 = .ok (.iconst 0, 1) := by decide +kernel
theorem dX0_body20_12 : decode cX0_body20 12 = .ok (.invokevirtual 60, 3) := by decide +kernel
theorem dX0_body20_15 : decode cX0_body20 15 = .ok (.aload_n 0, 1) := by decide +kernel
theorem dX0_body20_16 : decode cX0_body20 16 = .ok (.getfield 19, 3) := by decide +kernel
theorem dX0_body20_19 : decode cX0_body20 19 = .ok (.iload_n 1, 1) := by decide +kernel
theorem dX0_body20_20 : decode cX0_body20 20 = .ok (.iconst 1, 1) := by decide +kernel
theorem dX0_body20_21 : decode cX0_body20 21 = .ok (.invokevirtual 60, 3) := by decide +kernel
theorem dX0_body20_24 : decode cX0_body20 24 = .ok (.iadd, 1) := by decide +kernel
theorem dX0_body20_25 : decode cX0_body20 25 = .ok (.aload_n 0, 1) := by decide +kernel
theorem dX0_body20_26 : decode cX0_body20 26 = .ok (.getfield 19, 3) := by decide +kernel
theorem dX0_body20_29 : decode cX0_body20 29 = .ok (.iload_n 1, 1) := by decide +kernel
theorem dX0_body20_30 : decode cX0_body20 30 = .ok (.iconst 2, 1) := by decide +kernel
theorem dX0_body20_31 : decode cX0_body20 31 = .ok (.invokevirtual 60, 3) := by decide +kernel
theorem dX0_body20_34 : decode cX0_body20 34 = .ok (.iadd, 1) := by decide +kernel
theorem dX0_body20_35 : decode cX0_body20 35 = .ok (.ireturn, 1) := by decide +kernel
theorem dX0_body21_0 : decode cX0_body21 0 = .ok (.aload_n 0, 1) := by decide +kernel
theorem dX0_body21_1 : decode cX0_body21 1 = .ok (.bipush 21, 2) := by decide +kernel
theorem dX0_body21_3 : decode cX0_body21 3 = .ok (.invokevirtual 52, 3) := by decide +kernel
theorem dX0_body21_6 : decode cX0_body21 6 = .ok (.aload_n 0, 1) := by decide +kernel
theorem dX0_body21_7 : decode cX0_body21 7 = .ok (.iload_n 1, 1) := by decide +kernel
theorem dX0_body21_8 : decode cX0_body21 8 = .ok (.invokevirtual 49, 3) := by decide +kernel
theorem dX0_body21_11 : decode cX0_body21 11 = .ok (.bipush 100, 2) := by decide +kernel
theorem dX0_body21_13 : decode cX0_body21 13 = .ok (.iadd, 1) := by decide +kernel
theorem dX0_body21_14 : decode cX0_body21 14 = .ok (.ireturn, 1) := by decide +kernel
theorem dX0_body22_0 : decode cX0_body22 0 = .ok (.aload_n 0, 1) := by decide +kernel
theorem dX0_body22_1 : decode cX0_body22 1 = .ok (.bipush 22, 2) := by decide +kernel
theorem dX0_body22_3 : decode cX0_body22 3 = .ok (.invokevirtual 52, 3) := by decide +kernel
theorem dX0_body22_6 : decode cX0_body22 6 = .ok (.aload_n 0, 1) := by decide +kernel
theorem dX0_body22_7 : decode cX0_body22 7 = .ok (.iload_n 1, 1) := by decide +kernel
theorem dX0_body22_8 : decode cX0_body22 8 = .ok (.invokevirtual 49, 3) := by decide +kernel
theorem dX0_body22_11 : decode cX0_body22 11 = .ok (.aload_n 0, 1) := by decide +kernel
theorem dX0_body22_12 : decode cX0_body22 12 = .ok (.iload_n 1, 1) := by decide +kernel
theorem dX0_body22_13 : decode cX0_body22 13 = .ok (.invokevirtual 40, 3) := by decide +kernel
theorem dX0_body22_16 : decode cX0_body22 16 = .ok (.iadd, 1) := by decide +kernel
theorem dX0_body22_17 : decode cX0_body22 17 = .ok (.ireturn, 1) := by decide +kernel
theorem dX1_init_0 : decode cX1_init 0 = .ok (.aload_n 0, 1) := by decide +kernel
theorem dX1_init_1 : decode cX1_init 1 = .ok (.invokespecial 3, 3) := by decide +kernel
theorem dX1_init_4 : decode cX1_init 4 = .ok (.aload_n 0, 1) := by decide +kernel
theorem dX1_init_5 : decode cX1_init 5 = .ok (.ldc 9, 2) := by decide +kernel
theorem dX1_init_7 : decode cX1_init 7 = .ok (.putfield 10, 3) := by decide +kernel
theorem dX1_init_10 : decode cX1_init 10 = .ok (.aload_n 0, 1) := by decide +kernel
theorem dX1_init_11 : decode cX1_init 11 = .ok (.lconst 0, 1) := by decide +kernel
theorem dX1_init_12 : decode cX1_init 12 = .ok (.putfield 16, 3) := by decide +kernel
theorem dX1_init_15 : decode cX1_init 15 = .ok (.aload_n 0, 1) := by decide +kernel
theorem dX1_init_16 : decode cX1_init 16 = .ok (.lconst 0, 1) := by decide +kernel
theorem dX1_init_17 : decode cX1_init 17 = .ok (.putfield 20, 3) := by decide +kernel
theorem dX1_init_20 : decode cX1_init 20 = .ok (.aload_n 0, 1) := by decide +kernel
theorem dX1_init_21 : decode cX1_init 21 = .ok (.lconst 0, 1) := by decide +kernel
theorem dX1_init_22 : decode cX1_init 22 = .ok (.putfield 23, 3) := by decide +kernel
theorem dX1_init_25 : decode cX1_init 25 = .ok (.aload_n 0, 1) := by decide +kernel
theorem dX1_init_26 : decode cX1_init 26 = .ok (.lconst 0, 1) := by decide +kernel
theorem dX1_init_27 : decode cX1_init 27 = .ok (.putfield 26, 3) := by decide +kernel
theorem dX1_init_30 : decode cX1_init 30 = .ok (.aload_n 0, 1) := by decide +kernel
theorem dX1_init_31 : decode cX1_init 31 = .ok (.aload_n 1, 1) := by decide +kernel
theorem dX1_init_32 : decode cX1_init 32 = .ok (.putfield 29, 3) := by decide +kernel
theorem dX1_init_35 : decode cX1_init 35 = .ok (.aload_n 0, 1) := by decide +kernel
theorem dX1_init_36 : decode cX1_init 36 = .ok (.aload_n 2, 1) := by decide +kernel
theorem dX1_init_37 : decode cX1_init 37 = .ok (.putfield 33, 3) := by decide +kernel
theorem dX1_init_40 : decode cX1_init 40 = .ok (.return_, 1) := by decide +kernel
theorem dX1_find_0 : decode cX1_find 0 = .ok (.iconst 0, 1) := by decide +kernel
theorem dX1_find_1 : decode cX1_find 1 = .ok (.istore 5, 2) := by decide +kernel
theorem dX1_find_3 : decode cX1_find 3 = .ok (.iload 5, 2) := by decide +kernel
theorem dX1_find_5 : decode cX1_find 5 = .ok (.aload_n 0, 1) := by decide +kernel
theorem dX1_find_6 : decode cX1_find 6 = .ok (.getfield 33, 3) := by decide +kernel
theorem dX1_find_9 : decode cX1_find 9 = .ok (.invokevirtual 37, 3) := by decide +kernel
theorem dX1_find_12 : decode cX1_find 12 = .ok (.if_icmp .ge 65, 3) := by decide +kernel
theorem dX1_find_15 : decode cX1_find 15 = .ok (.aload_n 0, 1) := by decide +kernel
theorem dX1_find_16 : decode cX1_find 16 = .ok (.iload 5, 2) := by decide +kernel
theorem dX1_find_18 : decode cX1_find 18 = .ok (.iload_n 1, 1) := by decide +kernel
theorem dX1_find_19 : decode cX1_find 19 = .ok (.iload_n 2, 1) := by decide +kernel
theorem dX1_find_20 : decode cX1_find 20 = .ok (.iload_n 3, 1) := by decide +kernel
theorem dX1_find_21 : decode cX1_find 21 = .ok (.iload 4, 2) := by decide +kernel
theorem dX1_find_23 : decode cX1_find 23 = .ok (.invokevirtual 43, 3) := by decide +kernel
theorem dX1_find_26 : decode cX1_find 26 = .ok (.aload_n 0, 1) := by decide +kernel
theorem dX1_find_27 : decode cX1_find 27 = .ok (.getfield 16, 3) := by decide +kernel
theorem dX1_find_30 : decode cX1_find 30 = .ok (.lconst 0, 1) := by decide +kernel
theorem dX1_find_31 : decode cX1_find 31 = .ok (.lcmp, 1) := by decide +kernel
theorem dX1_find_32 : decode cX1_find 32 = .ok (.ifCond .le 39, 3) := by decide +kernel
theorem dX1_find_35 : decode cX1_find 35 = .ok (.aload_n 0, 1) := by decide +kernel
theorem dX1_find_36 : decode cX1_find 36 = .ok (.getfield 20, 3) := by decide +kernel
theorem dX1_find_39 : decode cX1_find 39 = .ok (.lconst 0, 1) := by decide +kernel
theorem dX1_find_40 : decode cX1_find 40 = .ok (.lcmp, 1) := by decide +kernel
theorem dX1_find_41 : decode cX1_find 41 = .ok (.ifCond .lt 30, 3) := by decide +kernel
theorem dX1_find_44 : decode cX1_find 44 = .ok (.aload_n 0, 1) := by decide +kernel
theorem dX1_find_45 : decode cX1_find 45 = .ok (.getfield 23, 3) := by decide +kernel
theorem dX1_find_48 : decode cX1_find 48 = .ok (.lconst 0, 1) := by decide +kernel
theorem dX1_find_49 : decode cX1_find 49 = .ok (.lcmp, 1) := by decide +kernel
theorem dX1_find_50 : decode cX1_find 50 = .ok (.ifCond .lt 21, 3) := by decide +kernel
theorem dX1_find_53 : decode cX1_find 53 = .ok (.aload_n 0, 1) := by decide +kernel
theorem dX1_find_54 : decode cX1_find 54 = .ok (.getfield 26, 3) := by decide +kernel
theorem dX1_find_57 : decode cX1_find 57 = .ok (.lconst 0, 1) := by decide +kernel
theorem dX1_find_58 : decode cX1_find 58 = .ok (.lcmp, 1) := by decide +kernel
theorem dX1_find_59 : decode cX1_find 59 = .ok (.ifCond .lt 12, 3) := by decide +kernel
theorem dX1_find_62 : decode cX1_find 62 = .ok (.aload_n 0, 1) := by decide +kernel
theorem dX1_find_63 : decode cX1_find 63 = .ok (.iload 5, 2) := by decide +kernel
theorem dX1_find_65 : decode cX1_find 65 = .ok (.putfield 10, 3) := by decide +kernel
theorem dX1_find_68 : decode cX1_find 68 = .ok (.iload 5, 2) := by decide +kernel
theorem dX1_find_70 : decode cX1_find 70 = .ok (.ireturn, 1) := by decide +kernel
theorem dX1_find_71 : decode cX1_find 71 = .ok (.iinc 5 1, 3) := by decide +kernel
theorem dX1_find_74 : decode cX1_find 74 = .ok (.goto (-71), 3) := by decide +kernel
theorem dX1_find_77 : decode cX1_find 77 = .ok (.aload_n 0, 1) := by decide +kernel
theorem dX1_find_78 : decode cX1_find 78 = .ok (.ldc 9, 2) := by decide +kernel
theorem dX1_find_80 : decode cX1_find 80 = .ok (.putfield 10, 3) := by decide +kernel
theorem dX1_find_83 : decode cX1_find 83 = .ok (.ldc 9, 2) := by decide +kernel
theorem dX1_find_85 : decode cX1_find 85 = .ok (.ireturn, 1) := by decide +kernel
theorem dX1_share_0 : decode cX1_share 0 = .ok (.aload_n 0, 1) := by decide +kernel
theorem dX1_share_1 : decode cX1_share 1 = .ok (.getfield 33, 3) := by decide +kernel
theorem dX1_share_4 : decode cX1_share 4 = .ok (.iload_n 1, 1) := by decide +kernel
theorem dX1_share_5 : decode cX1_share 5 = .ok (.iconst 0, 1) := by decide +kernel
theorem dX1_share_6 : decode cX1_share 6 = .ok (.invokevirtual 47, 3) := by decide +kernel
theorem dX1_share_9 : decode cX1_share 9 = .ok (.istore 6, 2) := by decide +kernel
theorem dX1_share_11 : decode cX1_share 11 = .ok (.aload_n 0, 1) := by decide +kernel
theorem dX1_share_12 : decode cX1_share 12 = .ok (.getfield 33, 3) := by decide +kernel
theorem dX1_share_15 : decode cX1_share 15 = .ok (.iload_n 1, 1) := by decide +kernel
theorem dX1_share_16 : decode cX1_share 16 = .ok (.iconst 1, 1) := by decide +kernel
theorem dX1_share_17 : decode cX1_share 17 = .ok (.invokevirtual 47, 3) := by decide +kernel
theorem dX1_share_20 : decode cX1_share 20 = .ok (.istore 7, 2) := by decide +kernel
theorem dX1_share_22 : decode cX1_share 22 = .ok (.aload_n 0, 1) := by decide +kernel
theorem dX1_share_23 : decode cX1_share 23 = .ok (.getfield 33, 3) := by decide +kernel
theorem dX1_share_26 : decode cX1_share 26 = .ok (.iload_n 1, 1) := by decide +kernel
theorem dX1_share_27 : decode cX1_share 27 = .ok (.iconst 2, 1) := by decide +kernel
theorem dX1_share_28 : decode cX1_share 28 = .ok (.invokevirtual 47, 3) := by decide +kernel
theorem dX1_share_31 : decode cX1_share 31 = .ok (.istore 8, 2) := by decide +kernel
theorem dX1_share_33 : decode cX1_share 33 = .ok (.aload_n 0, 1) := by decide +kernel
theorem dX1_share_34 : decode cX1_share 34 = .ok (.getfield 29, 3) := by decide +kernel
theorem dX1_share_37 : decode cX1_share 37 = .ok (.iload 6, 2) := by decide +kernel
theorem dX1_share_39 : decode cX1_share 39 = .ok (.iload 4, 2) := by decide +kernel
theorem dX1_share_41 : decode cX1_share 41 = .ok (.iload 5, 2) := by decide +kernel
theorem dX1_share_43 : decode cX1_share 43 = .ok (.invokevirtual 51, 3) := by decide +kernel
theorem dX1_share_46 : decode cX1_share 46 = .ok (.i2l, 1) := by decide +kernel
theorem dX1_share_47 : decode cX1_share 47 = .ok (.lstore 9, 2) := by decide +kernel
theorem dX1_share_49 : decode cX1_share 49 = .ok (.aload_n 0, 1) := by decide +kernel
theorem dX1_share_50 : decode cX1_share 50 = .ok (.getfield 29, 3) := by decide +kernel
theorem dX1_share_53 : decode cX1_share 53 = .ok (.iload 6, 2) := by decide +kernel
theorem dX1_share_55 : decode cX1_share 55 = .ok (.iload 4, 2) := by decide +kernel
theorem dX1_share_57 : decode cX1_share 57 = .ok (.iload 5, 2) := by decide +kernel
theorem dX1_share_59 : decode cX1_share 59 = .ok (.invokevirtual 57, 3) := by decide +kernel
theorem dX1_share_62 : decode cX1_share 62 = .ok (.i2l, 1) := by decide +kernel
theorem dX1_share_63 : decode cX1_share 63 = .ok (.lstore 11, 2) := by decide +kernel
theorem dX1_share_65 : decode cX1_share 65 = .ok (.aload_n 0, 1) := by decide +kernel
theorem dX1_share_66 : decode cX1_share 66 = .ok (.getfield 29, 3) := by decide +kernel
theorem dX1_share_69 : decode cX1_share 69 = .ok (.iload 7, 2) := by decide +kernel
theorem dX1_share_71 : decode cX1_share 71 = .ok (.iload 4, 2) := by decide +kernel
theorem dX1_share_73 : decode cX1_share 73 = .ok (.iload 5, 2) := by decide +kernel
theorem dX1_share_75 : decode cX1_share 75 = .ok (.invokevirtual 51, 3) := by decide +kernel
theorem dX1_share_78 : decode cX1_share 78 = .ok (.i2l, 1) := by decide +kernel
theorem dX1_share_79 : decode cX1_share 79 = .ok (.lstore 13, 2) := by decide +kernel
theorem dX1_share_81 : decode cX1_share 81 = .ok (.aload_n 0, 1) := by decide +kernel
theorem dX1_share_82 : decode cX1_share 82 = .ok (.getfield 29, 3) := by decide +kernel
theorem dX1_share_85 : decode cX1_share 85 = .ok (.iload 7, 2) := by decide +kernel
theorem dX1_share_87 : decode cX1_share 87 = .ok (.iload 4, 2) := by decide +kernel
theorem dX1_share_89 : decode cX1_share 89 = .ok (.iload 5, 2) := by decide +kernel
theorem dX1_share_91 : decode cX1_share 91 = .ok (.invokevirtual 57, 3) := by decide +kernel
theorem dX1_share_94 : decode cX1_share 94 = .ok (.i2l, 1) := by decide +kernel
theorem dX1_share_95 : decode cX1_share 95 = .ok (.lstore 15, 2) := by decide +kernel
theorem dX1_share_97 : decode cX1_share 97 = .ok (.aload_n 0, 1) := by decide +kernel
theorem dX1_share_98 : decode cX1_share 98 = .ok (.getfield 29, 3) := by decide +kernel
theorem dX1_share_101 : decode cX1_share 101 = .ok (.iload 8, 2) := by decide +kernel
theorem dX1_share_103 : decode cX1_share 103 = .ok (.iload 4, 2) := by decide +kernel
theorem dX1_share_105 : decode cX1_share 105 = .ok (.iload 5, 2) := by decide +kernel
theorem dX1_share_107 : decode cX1_share 107 = .ok (.invokevirtual 51, 3) := by decide +kernel
theorem dX1_share_110 : decode cX1_share 110 = .ok (.i2l, 1) := by decide +kernel
theorem dX1_share_111 : decode cX1_share 111 = .ok (.lstore 17, 2) := by decide +kernel
theorem dX1_share_113 : decode cX1_share 113 = .ok (.aload_n 0, 1) := by decide +kernel
theorem dX1_share_114 : decode cX1_share 114 = .ok (.getfield 29, 3) := by decide +kernel
theorem dX1_share_117 : decode cX1_share 117 = .ok (.iload 8, 2) := by decide +kernel
theorem dX1_share_119 : decode cX1_share 119 = .ok (.iload 4, 2) := by decide +kernel
theorem dX1_share_121 : decode cX1_share 121 = .ok (.iload 5, 2) := by decide +kernel
theorem dX1_share_123 : decode cX1_share 123 = .ok (.invokevirtual 57, 3) := by decide +kernel
theorem dX1_share_126 : decode cX1_share 126 = .ok (.i2l, 1) := by decide +kernel
theorem dX1_share_127 : decode cX1_share 127 = .ok (.lstore 19, 2) := by decide +kernel
theorem dX1_share_129 : decode cX1_share 129 = .ok (.iload_n 2, 1) := by decide +kernel
theorem dX1_share_130 : decode cX1_share 130 = .ok (.i2l, 1) := by decide +kernel
theorem dX1_share_131 : decode cX1_share 131 = .ok (.iload 5, 2) := by decide +kernel
theorem dX1_share_133 : decode cX1_share 133 = .ok (.i2l, 1) := by decide +kernel
theorem dX1_share_134 : decode cX1_share 134 = .ok (.lmul, 1) := by decide +kernel
theorem dX1_share_135 : decode cX1_share 135 = .ok (.lstore 21, 2) := by decide +kernel
theorem dX1_share_137 : decode cX1_share 137 = .ok (.iload_n 3, 1) := by decide +kernel
theorem dX1_share_138 : decode cX1_share 138 = .ok (.i2l, 1) := by decide +kernel
theorem dX1_share_139 : decode cX1_share 139 = .ok (.iload 5, 2) := by decide +kernel
theorem dX1_share_141 : decode cX1_share 141 = .ok (.i2l, 1) := by decide +kernel
theorem dX1_share_142 : decode cX1_share 142 = .ok (.lmul, 1) := by decide +kernel
theorem dX1_share_143 : decode cX1_share 143 = .ok (.lstore 23, 2) := by decide +kernel
theorem dX1_share_145 : decode cX1_share 145 = .ok (.aload_n 0, 1) := by decide +kernel
theorem dX1_share_146 : decode cX1_share 146 = .ok (.lload 9, 2) := by decide +kernel
theorem dX1_share_148 : decode cX1_share 148 = .ok (.lload 11, 2) := by decide +kernel
theorem dX1_share_150 : decode cX1_share 150 = .ok (.lload 13, 2) := by decide +kernel
theorem dX1_share_152 : decode cX1_share 152 = .ok (.lload 15, 2) := by decide +kernel
theorem dX1_share_154 : decode cX1_share 154 = .ok (.lload 17, 2) := by decide +kernel
theorem dX1_share_156 : decode cX1_share 156 = .ok (.lload 19, 2) := by decide +kernel
theorem dX1_share_158 : decode cX1_share 158 = .ok (.invokestatic 60, 3) := by decide +kernel
theorem dX1_share_161 : decode cX1_share 161 = .ok (.putfield 16, 3) := by decide +kernel
theorem dX1_share_164 : decode cX1_share 164 = .ok (.aload_n 0, 1) := by decide +kernel
theorem dX1_share_165 : decode cX1_share 165 = .ok (.lload 21, 2) := by decide +kernel
theorem dX1_share_167 : decode cX1_share 167 = .ok (.lload 23, 2) := by decide +kernel
theorem dX1_share_169 : decode cX1_share 169 = .ok (.lload 13, 2) := by decide +kernel
theorem dX1_share_171 : decode cX1_share 171 = .ok (.lload 15, 2) := by decide +kernel
theorem dX1_share_173 : decode cX1_share 173 = .ok (.lload 17, 2) := by decide +kernel
theorem dX1_share_175 : decode cX1_share 175 = .ok (.lload 19, 2) := by decide +kernel
theorem dX1_share_177 : decode cX1_share 177 = .ok (.invokestatic 60, 3) := by decide +kernel
theorem dX1_share_180 : decode cX1_share 180 = .ok (.putfield 20, 3) := by decide +kernel
theorem dX1_share_183 : decode cX1_share 183 = .ok (.aload_n 0, 1) := by decide +kernel
theorem dX1_share_184 : decode cX1_share 184 = .ok (.lload 9, 2) := by decide +kernel
theorem dX1_share_186 : decode cX1_share 186 = .ok (.lload 11, 2) := by decide +kernel
theorem dX1_share_188 : decode cX1_share 188 = .ok (.lload 21, 2) := by decide +kernel
theorem dX1_share_190 : decode cX1_share 190 = .ok (.lload 23, 2) := by decide +kernel
theorem dX1_share_192 : decode cX1_share 192 = .ok (.lload 17, 2) := by decide +kernel
theorem dX1_share_194 : decode cX1_share 194 = .ok (.lload 19, 2) := by decide +kernel
theorem dX1_share_196 : decode cX1_share 196 = .ok (.invokestatic 60, 3) := by decide +kernel
theorem dX1_share_199 : decode cX1_share 199 = .ok (.putfield 23, 3) := by decide +kernel
theorem dX1_share_202 : decode cX1_share 202 = .ok (.aload_n 0, 1) := by decide +kernel
theorem dX1_share_203 : decode cX1_share 203 = .ok (.lload 9, 2) := by decide +kernel
theorem dX1_share_205 : decode cX1_share 205 = .ok (.lload 11, 2) := by decide +kernel
theorem dX1_share_207 : decode cX1_share 207 = .ok (.lload 13, 2) := by decide +kernel
theorem dX1_share_209 : decode cX1_share 209 = .ok (.lload 15, 2) := by decide +kernel
theorem dX1_share_211 : decode cX1_share 211 = .ok (.lload 21, 2) := by decide +kernel
theorem dX1_share_213 : decode cX1_share 213 = .ok (.lload 23, 2) := by decide +kernel
theorem dX1_share_215 : decode cX1_share 215 = .ok (.invokestatic 60, 3) := by decide +kernel
theorem dX1_share_218 : decode cX1_share 218 = .ok (.putfield 26, 3) := by decide +kernel
theorem dX1_share_221 : decode cX1_share 221 = .ok (.return_, 1) := by decide +kernel
theorem dX1_originX_0 : decode cX1_originX 0 = .ok (.aload_n 0, 1) := by decide +kernel
theorem dX1_originX_1 : decode cX1_originX 1 = .ok (.getfield 10, 3) := by decide +kernel
theorem dX1_originX_4 : decode cX1_originX 4 = .ok (.ldc 9, 2) := by decide +kernel
theorem dX1_originX_6 : decode cX1_originX 6 = .ok (.if_icmp .eq 12, 3) := by decide +kernel
theorem dX1_originX_9 : decode cX1_originX 9 = .ok (.aload_n 0, 1) := by decide +kernel
theorem dX1_originX_10 : decode cX1_originX 10 = .ok (.getfield 16, 3) := by decide +kernel
theorem dX1_originX_13 : decode cX1_originX 13 = .ok (.lconst 0, 1) := by decide +kernel
theorem dX1_originX_14 : decode cX1_originX 14 = .ok (.lcmp, 1) := by decide +kernel
theorem dX1_originX_15 : decode cX1_originX 15 = .ok (.ifCond .gt 6, 3) := by decide +kernel
theorem dX1_originX_18 : decode cX1_originX 18 = .ok (.ldc 9, 2) := by decide +kernel
theorem dX1_originX_20 : decode cX1_originX 20 = .ok (.ireturn, 1) := by decide +kernel
theorem dX1_originX_21 : decode cX1_originX 21 = .ok (.aload_n 0, 1) := by decide +kernel
theorem dX1_originX_22 : decode cX1_originX 22 = .ok (.getfield 20, 3) := by decide +kernel
theorem dX1_originX_25 : decode cX1_originX 25 = .ok (.aload_n 0, 1) := by decide +kernel
theorem dX1_originX_26 : decode cX1_originX 26 = .ok (.getfield 29, 3) := by decide +kernel
theorem dX1_originX_29 : decode cX1_originX 29 = .ok (.aload_n 0, 1) := by decide +kernel
theorem dX1_originX_30 : decode cX1_originX 30 = .ok (.getfield 33, 3) := by decide +kernel
theorem dX1_originX_33 : decode cX1_originX 33 = .ok (.aload_n 0, 1) := by decide +kernel
theorem dX1_originX_34 : decode cX1_originX 34 = .ok (.getfield 10, 3) := by decide +kernel
theorem dX1_originX_37 : decode cX1_originX 37 = .ok (.iconst 0, 1) := by decide +kernel
theorem dX1_originX_38 : decode cX1_originX 38 = .ok (.invokevirtual 47, 3) := by decide +kernel
theorem dX1_originX_41 : decode cX1_originX 41 = .ok (.iload_n 1, 1) := by decide +kernel
theorem dX1_originX_42 : decode cX1_originX 42 = .ok (.invokevirtual 63, 3) := by decide +kernel
theorem dX1_originX_45 : decode cX1_originX 45 = .ok (.i2l, 1) := by decide +kernel
theorem dX1_originX_46 : decode cX1_originX 46 = .ok (.lmul, 1) := by decide +kernel
theorem dX1_originX_47 : decode cX1_originX 47 = .ok (.aload_n 0, 1) := by decide +kernel
theorem dX1_originX_48 : decode cX1_originX 48 = .ok (.getfield 23, 3) := by decide +kernel
theorem dX1_originX_51 : decode cX1_originX 51 = .ok (.aload_n 0, 1) := by decide +kernel
theorem dX1_originX_52 : decode cX1_originX 52 = .ok (.getfield 29, 3) := by decide +kernel
theorem dX1_originX_55 : decode cX1_originX 55 = .ok (.aload_n 0, 1) := by decide +kernel
theorem dX1_originX_56 : decode cX1_originX 56 = .ok (.getfield 33, 3) := by decide +kernel
theorem dX1_originX_59 : decode cX1_originX 59 = .ok (.aload_n 0, 1) := by decide +kernel
theorem dX1_originX_60 : decode cX1_originX 60 = .ok (.getfield 10, 3) := by decide +kernel
theorem dX1_originX_63 : decode cX1_originX 63 = .ok (.iconst 1, 1) := by decide +kernel
theorem dX1_originX_64 : decode cX1_originX 64 = .ok (.invokevirtual 47, 3) := by decide +kernel
theorem dX1_originX_67 : decode cX1_originX 67 = .ok (.iload_n 1, 1) := by decide +kernel
theorem dX1_originX_68 : decode cX1_originX 68 = .ok (.invokevirtual 63, 3) := by decide +kernel
theorem dX1_originX_71 : decode cX1_originX 71 = .ok (.i2l, 1) := by decide +kernel
theorem dX1_originX_72 : decode cX1_originX 72 = .ok (.lmul, 1) := by decide +kernel
theorem dX1_originX_73 : decode cX1_originX 73 = .ok (.ladd, 1) := by decide +kernel
theorem dX1_originX_74 : decode cX1_originX 74 = .ok (.aload_n 0, 1) := by decide +kernel
theorem dX1_originX_75 : decode cX1_originX 75 = .ok (.getfield 26, 3) := by decide +kernel
theorem dX1_originX_78 : decode cX1_originX 78 = .ok (.aload_n 0, 1) := by decide +kernel
theorem dX1_originX_79 : decode cX1_originX 79 = .ok (.getfield 29, 3) := by decide +kernel
theorem dX1_originX_82 : decode cX1_originX 82 = .ok (.aload_n 0, 1) := by decide +kernel
theorem dX1_originX_83 : decode cX1_originX 83 = .ok (.getfield 33, 3) := by decide +kernel
theorem dX1_originX_86 : decode cX1_originX 86 = .ok (.aload_n 0, 1) := by decide +kernel
theorem dX1_originX_87 : decode cX1_originX 87 = .ok (.getfield 10, 3) := by decide +kernel
theorem dX1_originX_90 : decode cX1_originX 90 = .ok (.iconst 2, 1) := by decide +kernel
theorem dX1_originX_91 : decode cX1_originX 91 = .ok (.invokevirtual 47, 3) := by decide +kernel
theorem dX1_originX_94 : decode cX1_originX 94 = .ok (.iload_n 1, 1) := by decide +kernel
theorem dX1_originX_95 : decode cX1_originX 95 = .ok (.invokevirtual 63, 3) := by decide +kernel
theorem dX1_originX_98 : decode cX1_originX 98 = .ok (.i2l, 1) := by decide +kernel
theorem dX1_originX_99 : decode cX1_originX 99 = .ok (.lmul, 1) := by decide +kernel
theorem dX1_originX_100 : decode cX1_originX 100 = .ok (.ladd, 1) := by decide +kernel
theorem dX1_originX_101 : decode cX1_originX 101 = .ok (.aload_n 0, 1) := by decide +kernel
theorem dX1_originX_102 : decode cX1_originX 102 = .ok (.getfield 16, 3) := by decide +kernel
theorem dX1_originX_105 : decode cX1_originX 105 = .ok (.ldiv, 1) := by decide +kernel
theorem dX1_originX_106 : decode cX1_originX 106 = .ok (.l2i, 1) := by decide +kernel
theorem dX1_originX_107 : decode cX1_originX 107 = .ok (.ireturn, 1) := by decide +kernel
theorem dX1_originY_0 : decode cX1_originY 0 = .ok (.aload_n 0, 1) := by decide +kernel
theorem dX1_originY_1 : decode cX1_originY 1 = .ok (.getfield 10, 3) := by decide +kernel
theorem dX1_originY_4 : decode cX1_originY 4 = .ok (.ldc 9, 2) := by decide +kernel
theorem dX1_originY_6 : decode cX1_originY 6 = .ok (.if_icmp .eq 12, 3) := by decide +kernel
theorem dX1_originY_9 : decode cX1_originY 9 = .ok (.aload_n 0, 1) := by decide +kernel
theorem dX1_originY_10 : decode cX1_originY 10 = .ok (.getfield 16, 3) := by decide +kernel
theorem dX1_originY_13 : decode cX1_originY 13 = .ok (.lconst 0, 1) := by decide +kernel
theorem dX1_originY_14 : decode cX1_originY 14 = .ok (.lcmp, 1) := by decide +kernel
theorem dX1_originY_15 : decode cX1_originY 15 = .ok (.ifCond .gt 6, 3) := by decide +kernel
theorem dX1_originY_18 : decode cX1_originY 18 = .ok (.ldc 9, 2) := by decide +kernel
theorem dX1_originY_20 : decode cX1_originY 20 = .ok (.ireturn, 1) := by decide +kernel
theorem dX1_originY_21 : decode cX1_originY 21 = .ok (.aload_n 0, 1) := by decide +kernel
theorem dX1_originY_22 : decode cX1_originY 22 = .ok (.getfield 20, 3) := by decide +kernel
theorem dX1_originY_25 : decode cX1_originY 25 = .ok (.aload_n 0, 1) := by decide +kernel
theorem dX1_originY_26 : decode cX1_originY 26 = .ok (.getfield 29, 3) := by decide +kernel
theorem dX1_originY_29 : decode cX1_originY 29 = .ok (.aload_n 0, 1) := by decide +kernel
theorem dX1_originY_30 : decode cX1_originY 30 = .ok (.getfield 33, 3) := by decide +kernel
theorem dX1_originY_33 : decode cX1_originY 33 = .ok (.aload_n 0, 1) := by decide +kernel
theorem dX1_originY_34 : decode cX1_originY 34 = .ok (.getfield 10, 3) := by decide +kernel
theorem dX1_originY_37 : decode cX1_originY 37 = .ok (.iconst 0, 1) := by decide +kernel
theorem dX1_originY_38 : decode cX1_originY 38 = .ok (.invokevirtual 47, 3) := by decide +kernel
theorem dX1_originY_41 : decode cX1_originY 41 = .ok (.iload_n 1, 1) := by decide +kernel
theorem dX1_originY_42 : decode cX1_originY 42 = .ok (.invokevirtual 66, 3) := by decide +kernel
theorem dX1_originY_45 : decode cX1_originY 45 = .ok (.i2l, 1) := by decide +kernel
theorem dX1_originY_46 : decode cX1_originY 46 = .ok (.lmul, 1) := by decide +kernel
theorem dX1_originY_47 : decode cX1_originY 47 = .ok (.aload_n 0, 1) := by decide +kernel
theorem dX1_originY_48 : decode cX1_originY 48 = .ok (.getfield 23, 3) := by decide +kernel
theorem dX1_originY_51 : decode cX1_originY 51 = .ok (.aload_n 0, 1) := by decide +kernel
theorem dX1_originY_52 : decode cX1_originY 52 = .ok (.getfield 29, 3) := by decide +kernel
theorem dX1_originY_55 : decode cX1_originY 55 = .ok (.aload_n 0, 1) := by decide +kernel
theorem dX1_originY_56 : decode cX1_originY 56 = .ok (.getfield 33, 3) := by decide +kernel
theorem dX1_originY_59 : decode cX1_originY 59 = .ok (.aload_n 0, 1) := by decide +kernel
theorem dX1_originY_60 : decode cX1_originY 60 = .ok (.getfield 10, 3) := by decide +kernel
theorem dX1_originY_63 : decode cX1_originY 63 = .ok (.iconst 1, 1) := by decide +kernel
theorem dX1_originY_64 : decode cX1_originY 64 = .ok (.invokevirtual 47, 3) := by decide +kernel
theorem dX1_originY_67 : decode cX1_originY 67 = .ok (.iload_n 1, 1) := by decide +kernel
theorem dX1_originY_68 : decode cX1_originY 68 = .ok (.invokevirtual 66, 3) := by decide +kernel
theorem dX1_originY_71 : decode cX1_originY 71 = .ok (.i2l, 1) := by decide +kernel
theorem dX1_originY_72 : decode cX1_originY 72 = .ok (.lmul, 1) := by decide +kernel
theorem dX1_originY_73 : decode cX1_originY 73 = .ok (.ladd, 1) := by decide +kernel
theorem dX1_originY_74 : decode cX1_originY 74 = .ok (.aload_n 0, 1) := by decide +kernel
theorem dX1_originY_75 : decode cX1_originY 75 = .ok (.getfield 26, 3) := by decide +kernel
theorem dX1_originY_78 : decode cX1_originY 78 = .ok (.aload_n 0, 1) := by decide +kernel
theorem dX1_originY_79 : decode cX1_originY 79 = .ok (.getfield 29, 3) := by decide +kernel
theorem dX1_originY_82 : decode cX1_originY 82 = .ok (.aload_n 0, 1) := by decide +kernel
theorem dX1_originY_83 : decode cX1_originY 83 = .ok (.getfield 33, 3) := by decide +kernel
theorem dX1_originY_86 : decode cX1_originY 86 = .ok (.aload_n 0, 1) := by decide +kernel
theorem dX1_originY_87 : decode cX1_originY 87 = .ok (.getfield 10, 3) := by decide +kernel
theorem dX1_originY_90 : decode cX1_originY 90 = .ok (.iconst 2, 1) := by decide +kernel
theorem dX1_originY_91 : decode cX1_originY 91 = .ok (.invokevirtual 47, 3) := by decide +kernel
theorem dX1_originY_94 : decode cX1_originY 94 = .ok (.iload_n 1, 1) := by decide +kernel
theorem dX1_originY_95 : decode cX1_originY 95 = .ok (.invokevirtual 66, 3) := by decide +kernel
theorem dX1_originY_98 : decode cX1_originY 98 = .ok (.i2l, 1) := by decide +kernel
theorem dX1_originY_99 : decode cX1_originY 99 = .ok (.lmul, 1) := by decide +kernel
theorem dX1_originY_100 : decode cX1_originY 100 = .ok (.ladd, 1) := by decide +kernel
theorem dX1_originY_101 : decode cX1_originY 101 = .ok (.aload_n 0, 1) := by decide +kernel
theorem dX1_originY_102 : decode cX1_originY 102 = .ok (.getfield 16, 3) := by decide +kernel
theorem dX1_originY_105 : decode cX1_originY 105 = .ok (.ldiv, 1) := by decide +kernel
theorem dX1_originY_106 : decode cX1_originY 106 = .ok (.l2i, 1) := by decide +kernel
theorem dX1_originY_107 : decode cX1_originY 107 = .ok (.ireturn, 1) := by decide +kernel
theorem dX2_init_0 : decode cX2_init 0 = .ok (.aload_n 0, 1) := by decide +kernel
theorem dX2_init_1 : decode cX2_init 1 = .ok (.invokespecial 1, 3) := by decide +kernel
theorem dX2_init_4 : decode cX2_init 4 = .ok (.aload_n 0, 1) := by decide +kernel
theorem dX2_init_5 : decode cX2_init 5 = .ok (.iconst 0, 1) := by decide +kernel
theorem dX2_init_6 : decode cX2_init 6 = .ok (.putfield 7, 3) := by decide +kernel
theorem dX2_init_9 : decode cX2_init 9 = .ok (.aload_n 0, 1) := by decide +kernel
theorem dX2_init_10 : decode cX2_init 10 = .ok (.bipush 6, 2) := by decide +kernel
theorem dX2_init_12 : decode cX2_init 12 = .ok (.newarray .int, 2) := by decide +kernel
theorem dX2_init_14 : decode cX2_init 14 = .ok (.putfield 13, 3) := by decide +kernel
theorem dX2_init_17 : decode cX2_init 17 = .ok (.aload_n 0, 1) := by decide +kernel
theorem dX2_init_18 : decode cX2_init 18 = .ok (.bipush 6, 2) := by decide +kernel
theorem dX2_init_20 : decode cX2_init 20 = .ok (.newarray .int, 2) := by decide +kernel
theorem dX2_init_22 : decode cX2_init 22 = .ok (.putfield 17, 3) := by decide +kernel
theorem dX2_init_25 : decode cX2_init 25 = .ok (.return_, 1) := by decide +kernel
theorem dX2_many_0 : decode cX2_many 0 = .ok (.aload_n 0, 1) := by decide +kernel
theorem dX2_many_1 : decode cX2_many 1 = .ok (.getfield 7, 3) := by decide +kernel
theorem dX2_many_4 : decode cX2_many 4 = .ok (.ireturn, 1) := by decide +kernel
theorem dX2_isFull_0 : decode cX2_isFull 0 = .ok (.aload_n 0, 1) := by decide +kernel
theorem dX2_isFull_1 : decode cX2_isFull 1 = .ok (.getfield 7, 3) := by decide +kernel
theorem dX2_isFull_4 : decode cX2_isFull 4 = .ok (.bipush 6, 2) := by decide +kernel
theorem dX2_isFull_6 : decode cX2_isFull 6 = .ok (.if_icmp .lt 7, 3) := by decide +kernel
theorem dX2_isFull_9 : decode cX2_isFull 9 = .ok (.iconst 1, 1) := by decide +kernel
theorem dX2_isFull_10 : decode cX2_isFull 10 = .ok (.goto 4, 3) := by decide +kernel
theorem dX2_isFull_13 : decode cX2_isFull 13 = .ok (.iconst 0, 1) := by decide +kernel
theorem dX2_isFull_14 : decode cX2_isFull 14 = .ok (.ireturn, 1) := by decide +kernel
theorem dX2_rises_0 : decode cX2_rises 0 = .ok (.aload_n 0, 1) := by decide +kernel
theorem dX2_rises_1 : decode cX2_rises 1 = .ok (.getfield 7, 3) := by decide +kernel
theorem dX2_rises_4 : decode cX2_rises 4 = .ok (.ifCond .eq 33, 3) := by decide +kernel
theorem dX2_rises_7 : decode cX2_rises 7 = .ok (.iload_n 1, 1) := by decide +kernel
theorem dX2_rises_8 : decode cX2_rises 8 = .ok (.aload_n 0, 1) := by decide +kernel
theorem dX2_rises_9 : decode cX2_rises 9 = .ok (.getfield 13, 3) := by decide +kernel
theorem dX2_rises_12 : decode cX2_rises 12 = .ok (.aload_n 0, 1) := by decide +kernel
theorem dX2_rises_13 : decode cX2_rises 13 = .ok (.getfield 7, 3) := by decide +kernel
theorem dX2_rises_16 : decode cX2_rises 16 = .ok (.iconst 1, 1) := by decide +kernel
theorem dX2_rises_17 : decode cX2_rises 17 = .ok (.isub, 1) := by decide +kernel
theorem dX2_rises_18 : decode cX2_rises 18 = .ok (.iaload, 1) := by decide +kernel
theorem dX2_rises_19 : decode cX2_rises 19 = .ok (.if_icmp .le 22, 3) := by decide +kernel
theorem dX2_rises_22 : decode cX2_rises 22 = .ok (.iload_n 2, 1) := by decide +kernel
theorem dX2_rises_23 : decode cX2_rises 23 = .ok (.aload_n 0, 1) := by decide +kernel
theorem dX2_rises_24 : decode cX2_rises 24 = .ok (.getfield 17, 3) := by decide +kernel
theorem dX2_rises_27 : decode cX2_rises 27 = .ok (.aload_n 0, 1) := by decide +kernel
theorem dX2_rises_28 : decode cX2_rises 28 = .ok (.getfield 7, 3) := by decide +kernel
theorem dX2_rises_31 : decode cX2_rises 31 = .ok (.iconst 1, 1) := by decide +kernel
theorem dX2_rises_32 : decode cX2_rises 32 = .ok (.isub, 1) := by decide +kernel
theorem dX2_rises_33 : decode cX2_rises 33 = .ok (.iaload, 1) := by decide +kernel
theorem dX2_rises_34 : decode cX2_rises 34 = .ok (.if_icmp .lt 7, 3) := by decide +kernel
theorem dX2_rises_37 : decode cX2_rises 37 = .ok (.iconst 1, 1) := by decide +kernel
theorem dX2_rises_38 : decode cX2_rises 38 = .ok (.goto 4, 3) := by decide +kernel
theorem dX2_rises_41 : decode cX2_rises 41 = .ok (.iconst 0, 1) := by decide +kernel
theorem dX2_rises_42 : decode cX2_rises 42 = .ok (.ireturn, 1) := by decide +kernel
theorem dX2_add_0 : decode cX2_add 0 = .ok (.aload_n 0, 1) := by decide +kernel
theorem dX2_add_1 : decode cX2_add 1 = .ok (.getfield 13, 3) := by decide +kernel
theorem dX2_add_4 : decode cX2_add 4 = .ok (.aload_n 0, 1) := by decide +kernel
theorem dX2_add_5 : decode cX2_add 5 = .ok (.getfield 7, 3) := by decide +kernel
theorem dX2_add_8 : decode cX2_add 8 = .ok (.iload_n 1, 1) := by decide +kernel
theorem dX2_add_9 : decode cX2_add 9 = .ok (.iastore, 1) := by decide +kernel
theorem dX2_add_10 : decode cX2_add 10 = .ok (.aload_n 0, 1) := by decide +kernel
theorem dX2_add_11 : decode cX2_add 11 = .ok (.getfield 17, 3) := by decide +kernel
theorem dX2_add_14 : decode cX2_add 14 = .ok (.aload_n 0, 1) := by decide +kernel
theorem dX2_add_15 : decode cX2_add 15 = .ok (.getfield 7, 3) := by decide +kernel
theorem dX2_add_18 : decode cX2_add 18 = .ok (.iload_n 2, 1) := by decide +kernel
theorem dX2_add_19 : decode cX2_add 19 = .ok (.iastore, 1) := by decide +kernel
theorem dX2_add_20 : decode cX2_add 20 = .ok (.aload_n 0, 1) := by decide +kernel
theorem dX2_add_21 : decode cX2_add 21 = .ok (.dup, 1) := by decide +kernel
theorem dX2_add_22 : decode cX2_add 22 = .ok (.getfield 7, 3) := by decide +kernel
theorem dX2_add_25 : decode cX2_add 25 = .ok (.iconst 1, 1) := by decide +kernel
theorem dX2_add_26 : decode cX2_add 26 = .ok (.iadd, 1) := by decide +kernel
theorem dX2_add_27 : decode cX2_add 27 = .ok (.putfield 7, 3) := by decide +kernel
theorem dX2_add_30 : decode cX2_add 30 = .ok (.aload_n 0, 1) := by decide +kernel
theorem dX2_add_31 : decode cX2_add 31 = .ok (.getfield 7, 3) := by decide +kernel
theorem dX2_add_34 : decode cX2_add 34 = .ok (.ireturn, 1) := by decide +kernel
theorem dX2_takeAway_0 : decode cX2_takeAway 0 = .ok (.aload_n 0, 1) := by decide +kernel
theorem dX2_takeAway_1 : decode cX2_takeAway 1 = .ok (.getfield 7, 3) := by decide +kernel
theorem dX2_takeAway_4 : decode cX2_takeAway 4 = .ok (.istore_n 1, 1) := by decide +kernel
theorem dX2_takeAway_5 : decode cX2_takeAway 5 = .ok (.aload_n 0, 1) := by decide +kernel
theorem dX2_takeAway_6 : decode cX2_takeAway 6 = .ok (.iconst 0, 1) := by decide +kernel
theorem dX2_takeAway_7 : decode cX2_takeAway 7 = .ok (.putfield 7, 3) := by decide +kernel
theorem dX2_takeAway_10 : decode cX2_takeAway 10 = .ok (.iload_n 1, 1) := by decide +kernel
theorem dX2_takeAway_11 : decode cX2_takeAway 11 = .ok (.ireturn, 1) := by decide +kernel
theorem dX2_shareAt_0 : decode cX2_shareAt 0 = .ok (.aload_n 0, 1) := by decide +kernel
theorem dX2_shareAt_1 : decode cX2_shareAt 1 = .ok (.getfield 7, 3) := by decide +kernel
theorem dX2_shareAt_4 : decode cX2_shareAt 4 = .ok (.ifCond .ne 5, 3) := by decide +kernel
theorem dX2_shareAt_7 : decode cX2_shareAt 7 = .ok (.iload_n 1, 1) := by decide +kernel
theorem dX2_shareAt_8 : decode cX2_shareAt 8 = .ok (.ireturn, 1) := by decide +kernel
theorem dX2_shareAt_9 : decode cX2_shareAt 9 = .ok (.iload_n 1, 1) := by decide +kernel
theorem dX2_shareAt_10 : decode cX2_shareAt 10 = .ok (.aload_n 0, 1) := by decide +kernel
theorem dX2_shareAt_11 : decode cX2_shareAt 11 = .ok (.getfield 13, 3) := by decide +kernel
theorem dX2_shareAt_14 : decode cX2_shareAt 14 = .ok (.iconst 0, 1) := by decide +kernel
theorem dX2_shareAt_15 : decode cX2_shareAt 15 = .ok (.iaload, 1) := by decide +kernel
theorem dX2_shareAt_16 : decode cX2_shareAt 16 = .ok (.if_icmp .ge 10, 3) := by decide +kernel
theorem dX2_shareAt_19 : decode cX2_shareAt 19 = .ok (.aload_n 0, 1) := by decide +kernel
theorem dX2_shareAt_20 : decode cX2_shareAt 20 = .ok (.getfield 17, 3) := by decide +kernel
theorem dX2_shareAt_23 : decode cX2_shareAt 23 = .ok (.iconst 0, 1) := by decide +kernel
theorem dX2_shareAt_24 : decode cX2_shareAt 24 = .ok (.iaload, 1) := by decide +kernel
theorem dX2_shareAt_25 : decode cX2_shareAt 25 = .ok (.ireturn, 1) := by decide +kernel
theorem dX2_shareAt_26 : decode cX2_shareAt 26 = .ok (.iconst 1, 1) := by decide +kernel
theorem dX2_shareAt_27 : decode cX2_shareAt 27 = .ok (.istore_n 2, 1) := by decide +kernel
theorem dX2_shareAt_28 : decode cX2_shareAt 28 = .ok (.iload_n 2, 1) := by decide +kernel
theorem dX2_shareAt_29 : decode cX2_shareAt 29 = .ok (.aload_n 0, 1) := by decide +kernel
theorem dX2_shareAt_30 : decode cX2_shareAt 30 = .ok (.getfield 7, 3) := by decide +kernel
theorem dX2_shareAt_33 : decode cX2_shareAt 33 = .ok (.if_icmp .ge 29, 3) := by decide +kernel
theorem dX2_shareAt_36 : decode cX2_shareAt 36 = .ok (.iload_n 1, 1) := by decide +kernel
theorem dX2_shareAt_37 : decode cX2_shareAt 37 = .ok (.aload_n 0, 1) := by decide +kernel
theorem dX2_shareAt_38 : decode cX2_shareAt 38 = .ok (.getfield 13, 3) := by decide +kernel
theorem dX2_shareAt_41 : decode cX2_shareAt 41 = .ok (.iload_n 2, 1) := by decide +kernel
theorem dX2_shareAt_42 : decode cX2_shareAt 42 = .ok (.iaload, 1) := by decide +kernel
theorem dX2_shareAt_43 : decode cX2_shareAt 43 = .ok (.if_icmp .ge 13, 3) := by decide +kernel
theorem dX2_shareAt_46 : decode cX2_shareAt 46 = .ok (.aload_n 0, 1) := by decide +kernel
theorem dX2_shareAt_47 : decode cX2_shareAt 47 = .ok (.iload_n 2, 1) := by decide +kernel
theorem dX2_shareAt_48 : decode cX2_shareAt 48 = .ok (.iconst 1, 1) := by decide +kernel
theorem dX2_shareAt_49 : decode cX2_shareAt 49 = .ok (.isub, 1) := by decide +kernel
theorem dX2_shareAt_50 : decode cX2_shareAt 50 = .ok (.iload_n 2, 1) := by decide +kernel
theorem dX2_shareAt_51 : decode cX2_shareAt 51 = .ok (.iload_n 1, 1) := by decide +kernel
theorem dX2_shareAt_52 : decode cX2_shareAt 52 = .ok (.invokevirtual 20, 3) := by decide +kernel
theorem dX2_shareAt_55 : decode cX2_shareAt 55 = .ok (.ireturn, 1) := by decide +kernel
theorem dX2_shareAt_56 : decode cX2_shareAt 56 = .ok (.iinc 2 1, 3) := by decide +kernel
theorem dX2_shareAt_59 : decode cX2_shareAt 59 = .ok (.goto (-31), 3) := by decide +kernel
theorem dX2_shareAt_62 : decode cX2_shareAt 62 = .ok (.aload_n 0, 1) := by decide +kernel
theorem dX2_shareAt_63 : decode cX2_shareAt 63 = .ok (.getfield 17, 3) := by decide +kernel
theorem dX2_shareAt_66 : decode cX2_shareAt 66 = .ok (.aload_n 0, 1) := by decide +kernel
theorem dX2_shareAt_67 : decode cX2_shareAt 67 = .ok (.getfield 7, 3) := by decide +kernel
theorem dX2_shareAt_70 : decode cX2_shareAt 70 = .ok (.iconst 1, 1) := by decide +kernel
theorem dX2_shareAt_71 : decode cX2_shareAt 71 = .ok (.isub, 1) := by decide +kernel
theorem dX2_shareAt_72 : decode cX2_shareAt 72 = .ok (.iaload, 1) := by decide +kernel
theorem dX2_shareAt_73 : decode cX2_shareAt 73 = .ok (.ireturn, 1) := by decide +kernel
theorem dX2_shareBetween_0 : decode cX2_shareBetween 0 = .ok (.aload_n 0, 1) := by decide +kernel
theorem dX2_shareBetween_1 : decode cX2_shareBetween 1 = .ok (.getfield 17, 3) := by decide +kernel
theorem dX2_shareBetween_4 : decode cX2_shareBetween 4 = .ok (.iload_n 2, 1) := by decide +kernel
theorem dX2_shareBetween_5 : decode cX2_shareBetween 5 = .ok (.iaload, 1) := by decide +kernel
theorem dX2_shareBetween_6 : decode cX2_shareBetween 6 = .ok (.aload_n 0, 1) := by decide +kernel
theorem dX2_shareBetween_7 : decode cX2_shareBetween 7 = .ok (.getfield 17, 3) := by decide +kernel
theorem dX2_shareBetween_10 : decode cX2_shareBetween 10 = .ok (.iload_n 1, 1) := by decide +kernel
theorem dX2_shareBetween_11 : decode cX2_shareBetween 11 = .ok (.iaload, 1) := by decide +kernel
theorem dX2_shareBetween_12 : decode cX2_shareBetween 12 = .ok (.isub, 1) := by decide +kernel
theorem dX2_shareBetween_13 : decode cX2_shareBetween 13 = .ok (.istore 4, 2) := by decide +kernel
theorem dX2_shareBetween_15 : decode cX2_shareBetween 15 = .ok (.aload_n 0, 1) := by decide +kernel
theorem dX2_shareBetween_16 : decode cX2_shareBetween 16 = .ok (.getfield 17, 3) := by decide +kernel
theorem dX2_shareBetween_19 : decode cX2_shareBetween 19 = .ok (.iload_n 1, 1) := by decide +kernel
theorem dX2_shareBetween_20 : decode cX2_shareBetween 20 = .ok (.iaload, 1) := by decide +kernel
theorem dX2_shareBetween_21 : decode cX2_shareBetween 21 = .ok (.iload 4, 2) := by decide +kernel
theorem dX2_shareBetween_23 : decode cX2_shareBetween 23 = .ok (.iload_n 3, 1) := by decide +kernel
theorem dX2_shareBetween_24 : decode cX2_shareBetween 24 = .ok (.aload_n 0, 1) := by decide +kernel
theorem dX2_shareBetween_25 : decode cX2_shareBetween 25 = .ok (.getfield 13, 3) := by decide +kernel
theorem dX2_shareBetween_28 : decode cX2_shareBetween 28 = .ok (.iload_n 1, 1) := by decide +kernel
theorem dX2_shareBetween_29 : decode cX2_shareBetween 29 = .ok (.iaload, 1) := by decide +kernel
theorem dX2_shareBetween_30 : decode cX2_shareBetween 30 = .ok (.isub, 1) := by decide +kernel
theorem dX2_shareBetween_31 : decode cX2_shareBetween 31 = .ok (.imul, 1) := by decide +kernel
theorem dX2_shareBetween_32 : decode cX2_shareBetween 32 = .ok (.aload_n 0, 1) := by decide +kernel
theorem dX2_shareBetween_33 : decode cX2_shareBetween 33 = .ok (.getfield 13, 3) := by decide +kernel
theorem dX2_shareBetween_36 : decode cX2_shareBetween 36 = .ok (.iload_n 2, 1) := by decide +kernel
theorem dX2_shareBetween_37 : decode cX2_shareBetween 37 = .ok (.iaload, 1) := by decide +kernel
theorem dX2_shareBetween_38 : decode cX2_shareBetween 38 = .ok (.aload_n 0, 1) := by decide +kernel
theorem dX2_shareBetween_39 : decode cX2_shareBetween 39 = .ok (.getfield 13, 3) := by decide +kernel
theorem dX2_shareBetween_42 : decode cX2_shareBetween 42 = .ok (.iload_n 1, 1) := by decide +kernel
theorem dX2_shareBetween_43 : decode cX2_shareBetween 43 = .ok (.iaload, 1) := by decide +kernel
theorem dX2_shareBetween_44 : decode cX2_shareBetween 44 = .ok (.isub, 1) := by decide +kernel
theorem dX2_shareBetween_45 : decode cX2_shareBetween 45 = .ok (.idiv, 1) := by decide +kernel
theorem dX2_shareBetween_46 : decode cX2_shareBetween 46 = .ok (.iadd, 1) := by decide +kernel
theorem dX2_shareBetween_47 : decode cX2_shareBetween 47 = .ok (.ireturn, 1) := by decide +kernel
theorem dX3_init_0 : decode cX3_init 0 = .ok (.aload_n 0, 1) := by decide +kernel
theorem dX3_init_1 : decode cX3_init 1 = .ok (.invokespecial 1, 3) := by decide +kernel
theorem dX3_init_4 : decode cX3_init 4 = .ok (.aload_n 0, 1) := by decide +kernel
theorem dX3_init_5 : decode cX3_init 5 = .ok (.iconst 0, 1) := by decide +kernel
theorem dX3_init_6 : decode cX3_init 6 = .ok (.putfield 7, 3) := by decide +kernel
theorem dX3_init_9 : decode cX3_init 9 = .ok (.aload_n 0, 1) := by decide +kernel
theorem dX3_init_10 : decode cX3_init 10 = .ok (.bipush 32, 2) := by decide +kernel
theorem dX3_init_12 : decode cX3_init 12 = .ok (.newarray .int, 2) := by decide +kernel
theorem dX3_init_14 : decode cX3_init 14 = .ok (.putfield 13, 3) := by decide +kernel
theorem dX3_init_17 : decode cX3_init 17 = .ok (.aload_n 0, 1) := by decide +kernel
theorem dX3_init_18 : decode cX3_init 18 = .ok (.bipush 32, 2) := by decide +kernel
theorem dX3_init_20 : decode cX3_init 20 = .ok (.newarray .int, 2) := by decide +kernel
theorem dX3_init_22 : decode cX3_init 22 = .ok (.putfield 17, 3) := by decide +kernel
theorem dX3_init_25 : decode cX3_init 25 = .ok (.return_, 1) := by decide +kernel
theorem dX3_many_0 : decode cX3_many 0 = .ok (.aload_n 0, 1) := by decide +kernel
theorem dX3_many_1 : decode cX3_many 1 = .ok (.getfield 7, 3) := by decide +kernel
theorem dX3_many_4 : decode cX3_many 4 = .ok (.ireturn, 1) := by decide +kernel
theorem dX3_isFull_0 : decode cX3_isFull 0 = .ok (.aload_n 0, 1) := by decide +kernel
theorem dX3_isFull_1 : decode cX3_isFull 1 = .ok (.getfield 7, 3) := by decide +kernel
theorem dX3_isFull_4 : decode cX3_isFull 4 = .ok (.bipush 16, 2) := by decide +kernel
theorem dX3_isFull_6 : decode cX3_isFull 6 = .ok (.if_icmp .lt 7, 3) := by decide +kernel
theorem dX3_isFull_9 : decode cX3_isFull 9 = .ok (.iconst 1, 1) := by decide +kernel
theorem dX3_isFull_10 : decode cX3_isFull 10 = .ok (.goto 4, 3) := by decide +kernel
theorem dX3_isFull_13 : decode cX3_isFull 13 = .ok (.iconst 0, 1) := by decide +kernel
theorem dX3_isFull_14 : decode cX3_isFull 14 = .ok (.ireturn, 1) := by decide +kernel
theorem dX3_isMark_0 : decode cX3_isMark 0 = .ok (.iload_n 1, 1) := by decide +kernel
theorem dX3_isMark_1 : decode cX3_isMark 1 = .ok (.ifCond .lt 15, 3) := by decide +kernel
theorem dX3_isMark_4 : decode cX3_isMark 4 = .ok (.iload_n 1, 1) := by decide +kernel
theorem dX3_isMark_5 : decode cX3_isMark 5 = .ok (.aload_n 0, 1) := by decide +kernel
theorem dX3_isMark_6 : decode cX3_isMark 6 = .ok (.getfield 7, 3) := by decide +kernel
theorem dX3_isMark_9 : decode cX3_isMark 9 = .ok (.if_icmp .ge 7, 3) := by decide +kernel
theorem dX3_isMark_12 : decode cX3_isMark 12 = .ok (.iconst 1, 1) := by decide +kernel
theorem dX3_isMark_13 : decode cX3_isMark 13 = .ok (.goto 4, 3) := by decide +kernel
theorem dX3_isMark_16 : decode cX3_isMark 16 = .ok (.iconst 0, 1) := by decide +kernel
theorem dX3_isMark_17 : decode cX3_isMark 17 = .ok (.ireturn, 1) := by decide +kernel
theorem dX3_add_0 : decode cX3_add 0 = .ok (.aload_n 0, 1) := by decide +kernel
theorem dX3_add_1 : decode cX3_add 1 = .ok (.getfield 7, 3) := by decide +kernel
theorem dX3_add_4 : decode cX3_add 4 = .ok (.istore 5, 2) := by decide +kernel
theorem dX3_add_6 : decode cX3_add 6 = .ok (.aload_n 0, 1) := by decide +kernel
theorem dX3_add_7 : decode cX3_add 7 = .ok (.dup, 1) := by decide +kernel
theorem dX3_add_8 : decode cX3_add 8 = .ok (.getfield 7, 3) := by decide +kernel
theorem dX3_add_11 : decode cX3_add 11 = .ok (.iconst 1, 1) := by decide +kernel
theorem dX3_add_12 : decode cX3_add 12 = .ok (.iadd, 1) := by decide +kernel
theorem dX3_add_13 : decode cX3_add 13 = .ok (.putfield 7, 3) := by decide +kernel
theorem dX3_add_16 : decode cX3_add 16 = .ok (.aload_n 0, 1) := by decide +kernel
theorem dX3_add_17 : decode cX3_add 17 = .ok (.iload 5, 2) := by decide +kernel
theorem dX3_add_19 : decode cX3_add 19 = .ok (.iconst 0, 1) := by decide +kernel
theorem dX3_add_20 : decode cX3_add 20 = .ok (.iload_n 1, 1) := by decide +kernel
theorem dX3_add_21 : decode cX3_add 21 = .ok (.iload_n 2, 1) := by decide +kernel
theorem dX3_add_22 : decode cX3_add 22 = .ok (.invokevirtual 20, 3) := by decide +kernel
theorem dX3_add_25 : decode cX3_add 25 = .ok (.aload_n 0, 1) := by decide +kernel
theorem dX3_add_26 : decode cX3_add 26 = .ok (.iload 5, 2) := by decide +kernel
theorem dX3_add_28 : decode cX3_add 28 = .ok (.iconst 1, 1) := by decide +kernel
theorem dX3_add_29 : decode cX3_add 29 = .ok (.iload_n 3, 1) := by decide +kernel
theorem dX3_add_30 : decode cX3_add 30 = .ok (.iload 4, 2) := by decide +kernel
theorem dX3_add_32 : decode cX3_add 32 = .ok (.invokevirtual 20, 3) := by decide +kernel
theorem dX3_add_35 : decode cX3_add 35 = .ok (.iload 5, 2) := by decide +kernel
theorem dX3_add_37 : decode cX3_add 37 = .ok (.ireturn, 1) := by decide +kernel
theorem dX3_put_0 : decode cX3_put 0 = .ok (.aload_n 0, 1) := by decide +kernel
theorem dX3_put_1 : decode cX3_put 1 = .ok (.getfield 13, 3) := by decide +kernel
theorem dX3_put_4 : decode cX3_put 4 = .ok (.iload_n 2, 1) := by decide +kernel
theorem dX3_put_5 : decode cX3_put 5 = .ok (.bipush 16, 2) := by decide +kernel
theorem dX3_put_7 : decode cX3_put 7 = .ok (.imul, 1) := by decide +kernel
theorem dX3_put_8 : decode cX3_put 8 = .ok (.iload_n 1, 1) := by decide +kernel
theorem dX3_put_9 : decode cX3_put 9 = .ok (.iadd, 1) := by decide +kernel
theorem dX3_put_10 : decode cX3_put 10 = .ok (.iload_n 3, 1) := by decide +kernel
theorem dX3_put_11 : decode cX3_put 11 = .ok (.iastore, 1) := by decide +kernel
theorem dX3_put_12 : decode cX3_put 12 = .ok (.aload_n 0, 1) := by decide +kernel
theorem dX3_put_13 : decode cX3_put 13 = .ok (.getfield 17, 3) := by decide +kernel
theorem dX3_put_16 : decode cX3_put 16 = .ok (.iload_n 2, 1) := by decide +kernel
theorem dX3_put_17 : decode cX3_put 17 = .ok (.bipush 16, 2) := by decide +kernel
theorem dX3_put_19 : decode cX3_put 19 = .ok (.imul, 1) := by decide +kernel
theorem dX3_put_20 : decode cX3_put 20 = .ok (.iload_n 1, 1) := by decide +kernel
theorem dX3_put_21 : decode cX3_put 21 = .ok (.iadd, 1) := by decide +kernel
theorem dX3_put_22 : decode cX3_put 22 = .ok (.iload 4, 2) := by decide +kernel
theorem dX3_put_24 : decode cX3_put 24 = .ok (.iastore, 1) := by decide +kernel
theorem dX3_put_25 : decode cX3_put 25 = .ok (.return_, 1) := by decide +kernel
theorem dX3_x_0 : decode cX3_x 0 = .ok (.aload_n 0, 1) := by decide +kernel
theorem dX3_x_1 : decode cX3_x 1 = .ok (.getfield 13, 3) := by decide +kernel
theorem dX3_x_4 : decode cX3_x 4 = .ok (.iload_n 2, 1) := by decide +kernel
theorem dX3_x_5 : decode cX3_x 5 = .ok (.bipush 16, 2) := by decide +kernel
theorem dX3_x_7 : decode cX3_x 7 = .ok (.imul, 1) := by decide +kernel
theorem dX3_x_8 : decode cX3_x 8 = .ok (.iload_n 1, 1) := by decide +kernel
theorem dX3_x_9 : decode cX3_x 9 = .ok (.iadd, 1) := by decide +kernel
theorem dX3_x_10 : decode cX3_x 10 = .ok (.iaload, 1) := by decide +kernel
theorem dX3_x_11 : decode cX3_x 11 = .ok (.ireturn, 1) := by decide +kernel
theorem dX3_y_0 : decode cX3_y 0 = .ok (.aload_n 0, 1) := by decide +kernel
theorem dX3_y_1 : decode cX3_y 1 = .ok (.getfield 17, 3) := by decide +kernel
theorem dX3_y_4 : decode cX3_y 4 = .ok (.iload_n 2, 1) := by decide +kernel
theorem dX3_y_5 : decode cX3_y 5 = .ok (.bipush 16, 2) := by decide +kernel
theorem dX3_y_7 : decode cX3_y 7 = .ok (.imul, 1) := by decide +kernel
theorem dX3_y_8 : decode cX3_y 8 = .ok (.iload_n 1, 1) := by decide +kernel
theorem dX3_y_9 : decode cX3_y 9 = .ok (.iadd, 1) := by decide +kernel
theorem dX3_y_10 : decode cX3_y 10 = .ok (.iaload, 1) := by decide +kernel
theorem dX3_y_11 : decode cX3_y 11 = .ok (.ireturn, 1) := by decide +kernel
theorem dX3_tickX_0 : decode cX3_tickX 0 = .ok (.iload_n 3, 1) := by decide +kernel
theorem dX3_tickX_1 : decode cX3_tickX 1 = .ok (.iload_n 2, 1) := by decide +kernel
theorem dX3_tickX_2 : decode cX3_tickX 2 = .ok (.isub, 1) := by decide +kernel
theorem dX3_tickX_3 : decode cX3_tickX 3 = .ok (.aload_n 0, 1) := by decide +kernel
theorem dX3_tickX_4 : decode cX3_tickX 4 = .ok (.iload_n 1, 1) := by decide +kernel
theorem dX3_tickX_5 : decode cX3_tickX 5 = .ok (.iconst 0, 1) := by decide +kernel
theorem dX3_tickX_6 : decode cX3_tickX 6 = .ok (.invokevirtual 24, 3) := by decide +kernel
theorem dX3_tickX_9 : decode cX3_tickX 9 = .ok (.imul, 1) := by decide +kernel
theorem dX3_tickX_10 : decode cX3_tickX 10 = .ok (.iload_n 2, 1) := by decide +kernel
theorem dX3_tickX_11 : decode cX3_tickX 11 = .ok (.aload_n 0, 1) := by decide +kernel
theorem dX3_tickX_12 : decode cX3_tickX 12 = .ok (.iload_n 1, 1) := by decide +kernel
theorem dX3_tickX_13 : decode cX3_tickX 13 = .ok (.iconst 1, 1) := by decide +kernel
theorem dX3_tickX_14 : decode cX3_tickX 14 = .ok (.invokevirtual 24, 3) := by decide +kernel
theorem dX3_tickX_17 : decode cX3_tickX 17 = .ok (.imul, 1) := by decide +kernel
theorem dX3_tickX_18 : decode cX3_tickX 18 = .ok (.iadd, 1) := by decide +kernel
theorem dX3_tickX_19 : decode cX3_tickX 19 = .ok (.ireturn, 1) := by decide +kernel
theorem dX3_tickY_0 : decode cX3_tickY 0 = .ok (.iload_n 3, 1) := by decide +kernel
theorem dX3_tickY_1 : decode cX3_tickY 1 = .ok (.iload_n 2, 1) := by decide +kernel
theorem dX3_tickY_2 : decode cX3_tickY 2 = .ok (.isub, 1) := by decide +kernel
theorem dX3_tickY_3 : decode cX3_tickY 3 = .ok (.aload_n 0, 1) := by decide +kernel
theorem dX3_tickY_4 : decode cX3_tickY 4 = .ok (.iload_n 1, 1) := by decide +kernel
theorem dX3_tickY_5 : decode cX3_tickY 5 = .ok (.iconst 0, 1) := by decide +kernel
theorem dX3_tickY_6 : decode cX3_tickY 6 = .ok (.invokevirtual 28, 3) := by decide +kernel
theorem dX3_tickY_9 : decode cX3_tickY 9 = .ok (.imul, 1) := by decide +kernel
theorem dX3_tickY_10 : decode cX3_tickY 10 = .ok (.iload_n 2, 1) := by decide +kernel
theorem dX3_tickY_11 : decode cX3_tickY 11 = .ok (.aload_n 0, 1) := by decide +kernel
theorem dX3_tickY_12 : decode cX3_tickY 12 = .ok (.iload_n 1, 1) := by decide +kernel
theorem dX3_tickY_13 : decode cX3_tickY 13 = .ok (.iconst 1, 1) := by decide +kernel
theorem dX3_tickY_14 : decode cX3_tickY 14 = .ok (.invokevirtual 28, 3) := by decide +kernel
theorem dX3_tickY_17 : decode cX3_tickY 17 = .ok (.imul, 1) := by decide +kernel
theorem dX3_tickY_18 : decode cX3_tickY 18 = .ok (.iadd, 1) := by decide +kernel
theorem dX3_tickY_19 : decode cX3_tickY 19 = .ok (.ireturn, 1) := by decide +kernel
theorem dX3_stays_0 : decode cX3_stays 0 = .ok (.aload_n 0, 1) := by decide +kernel
theorem dX3_stays_1 : decode cX3_stays 1 = .ok (.iload_n 1, 1) := by decide +kernel
theorem dX3_stays_2 : decode cX3_stays 2 = .ok (.iconst 0, 1) := by decide +kernel
theorem dX3_stays_3 : decode cX3_stays 3 = .ok (.invokevirtual 24, 3) := by decide +kernel
theorem dX3_stays_6 : decode cX3_stays 6 = .ok (.aload_n 0, 1) := by decide +kernel
theorem dX3_stays_7 : decode cX3_stays 7 = .ok (.iload_n 1, 1) := by decide +kernel
theorem dX3_stays_8 : decode cX3_stays 8 = .ok (.iconst 1, 1) := by decide +kernel
theorem dX3_stays_9 : decode cX3_stays 9 = .ok (.invokevirtual 24, 3) := by decide +kernel
theorem dX3_stays_12 : decode cX3_stays 12 = .ok (.if_icmp .ne 22, 3) := by decide +kernel
theorem dX3_stays_15 : decode cX3_stays 15 = .ok (.aload_n 0, 1) := by decide +kernel
theorem dX3_stays_16 : decode cX3_stays 16 = .ok (.iload_n 1, 1) := by decide +kernel
theorem dX3_stays_17 : decode cX3_stays 17 = .ok (.iconst 0, 1) := by decide +kernel
theorem dX3_stays_18 : decode cX3_stays 18 = .ok (.invokevirtual 28, 3) := by decide +kernel
theorem dX3_stays_21 : decode cX3_stays 21 = .ok (.aload_n 0, 1) := by decide +kernel
theorem dX3_stays_22 : decode cX3_stays 22 = .ok (.iload_n 1, 1) := by decide +kernel
theorem dX3_stays_23 : decode cX3_stays 23 = .ok (.iconst 1, 1) := by decide +kernel
theorem dX3_stays_24 : decode cX3_stays 24 = .ok (.invokevirtual 28, 3) := by decide +kernel
theorem dX3_stays_27 : decode cX3_stays 27 = .ok (.if_icmp .ne 7, 3) := by decide +kernel
theorem dX3_stays_30 : decode cX3_stays 30 = .ok (.iconst 1, 1) := by decide +kernel
theorem dX3_stays_31 : decode cX3_stays 31 = .ok (.goto 4, 3) := by decide +kernel
theorem dX3_stays_34 : decode cX3_stays 34 = .ok (.iconst 0, 1) := by decide +kernel
theorem dX3_stays_35 : decode cX3_stays 35 = .ok (.ireturn, 1) := by decide +kernel
theorem dX3_area_0 : decode cX3_area 0 = .ok (.lload 4, 2) := by decide +kernel
theorem dX3_area_2 : decode cX3_area 2 = .ok (.lload_n 0, 1) := by decide +kernel
theorem dX3_area_3 : decode cX3_area 3 = .ok (.lsub, 1) := by decide +kernel
theorem dX3_area_4 : decode cX3_area 4 = .ok (.lload 10, 2) := by decide +kernel
theorem dX3_area_6 : decode cX3_area 6 = .ok (.lload_n 2, 1) := by decide +kernel
theorem dX3_area_7 : decode cX3_area 7 = .ok (.lsub, 1) := by decide +kernel
theorem dX3_area_8 : decode cX3_area 8 = .ok (.lmul, 1) := by decide +kernel
theorem dX3_area_9 : decode cX3_area 9 = .ok (.lload 6, 2) := by decide +kernel
theorem dX3_area_11 : decode cX3_area 11 = .ok (.lload_n 2, 1) := by decide +kernel
theorem dX3_area_12 : decode cX3_area 12 = .ok (.lsub, 1) := by decide +kernel
theorem dX3_area_13 : decode cX3_area 13 = .ok (.lload 8, 2) := by decide +kernel
theorem dX3_area_15 : decode cX3_area 15 = .ok (.lload_n 0, 1) := by decide +kernel
theorem dX3_area_16 : decode cX3_area 16 = .ok (.lsub, 1) := by decide +kernel
theorem dX3_area_17 : decode cX3_area 17 = .ok (.lmul, 1) := by decide +kernel
theorem dX3_area_18 : decode cX3_area 18 = .ok (.lsub, 1) := by decide +kernel
theorem dX3_area_19 : decode cX3_area 19 = .ok (.lreturn, 1) := by decide +kernel
theorem dX4_init_0 : decode cX4_init 0 = .ok (.aload_n 0, 1) := by decide +kernel
theorem dX4_init_1 : decode cX4_init 1 = .ok (.invokespecial 5, 3) := by decide +kernel
theorem dX4_init_4 : decode cX4_init 4 = .ok (.aload_n 0, 1) := by decide +kernel
theorem dX4_init_5 : decode cX4_init 5 = .ok (.iconst 0, 1) := by decide +kernel
theorem dX4_init_6 : decode cX4_init 6 = .ok (.putfield 11, 3) := by decide +kernel
theorem dX4_init_9 : decode cX4_init 9 = .ok (.aload_n 0, 1) := by decide +kernel
theorem dX4_init_10 : decode cX4_init 10 = .ok (.iconst 0, 1) := by decide +kernel
theorem dX4_init_11 : decode cX4_init 11 = .ok (.putfield 15, 3) := by decide +kernel
theorem dX4_init_14 : decode cX4_init 14 = .ok (.aload_n 0, 1) := by decide +kernel
theorem dX4_init_15 : decode cX4_init 15 = .ok (.iconst 0, 1) := by decide +kernel
theorem dX4_init_16 : decode cX4_init 16 = .ok (.putfield 18, 3) := by decide +kernel
theorem dX4_init_19 : decode cX4_init 19 = .ok (.aload_n 0, 1) := by decide +kernel
theorem dX4_init_20 : decode cX4_init 20 = .ok (.iconst 0, 1) := by decide +kernel
theorem dX4_init_21 : decode cX4_init 21 = .ok (.putfield 21, 3) := by decide +kernel
theorem dX4_init_24 : decode cX4_init 24 = .ok (.aload_n 0, 1) := by decide +kernel
theorem dX4_init_25 : decode cX4_init 25 = .ok (.sipush 900, 3) := by decide +kernel
theorem dX4_init_28 : decode cX4_init 28 = .ok (.newarray .int, 2) := by decide +kernel
theorem dX4_init_30 : decode cX4_init 30 = .ok (.putfield 24, 3) := by decide +kernel
theorem dX4_init_33 : decode cX4_init 33 = .ok (.aload_n 0, 1) := by decide +kernel
theorem dX4_init_34 : decode cX4_init 34 = .ok (.bipush 59, 2) := by decide +kernel
theorem dX4_init_36 : decode cX4_init 36 = .ok (.newarray .int, 2) := by decide +kernel
theorem dX4_init_38 : decode cX4_init 38 = .ok (.putfield 28, 3) := by decide +kernel
theorem dX4_init_41 : decode cX4_init 41 = .ok (.aload_n 0, 1) := by decide +kernel
theorem dX4_init_42 : decode cX4_init 42 = .ok (.bipush 59, 2) := by decide +kernel
theorem dX4_init_44 : decode cX4_init 44 = .ok (.newarray .int, 2) := by decide +kernel
theorem dX4_init_46 : decode cX4_init 46 = .ok (.putfield 31, 3) := by decide +kernel
theorem dX4_init_49 : decode cX4_init 49 = .ok (.aload_n 0, 1) := by decide +kernel
theorem dX4_init_50 : decode cX4_init 50 = .ok (.iconst 0, 1) := by decide +kernel
theorem dX4_init_51 : decode cX4_init 51 = .ok (.putfield 34, 3) := by decide +kernel
theorem dX4_init_54 : decode cX4_init 54 = .ok (.aload_n 0, 1) := by decide +kernel
theorem dX4_init_55 : decode cX4_init 55 = .ok (.aload_n 1, 1) := by decide +kernel
theorem dX4_init_56 : decode cX4_init 56 = .ok (.putfield 37, 3) := by decide +kernel
theorem dX4_init_59 : decode cX4_init 59 = .ok (.return_, 1) := by decide +kernel
theorem dX4_isRow_0 : decode cX4_isRow 0 = .ok (.iload_n 0, 1) := by decide +kernel
theorem dX4_isRow_1 : decode cX4_isRow 1 = .ok (.iconst 1, 1) := by decide +kernel
theorem dX4_isRow_2 : decode cX4_isRow 2 = .ok (.bipush 30, 2) := by decide +kernel
theorem dX4_isRow_4 : decode cX4_isRow 4 = .ok (.invokestatic 41, 3) := by decide +kernel
theorem dX4_isRow_7 : decode cX4_isRow 7 = .ok (.ireturn, 1) := by decide +kernel
theorem dX4_join_0 : decode cX4_join 0 = .ok (.aload_n 0, 1) := by decide +kernel
theorem dX4_join_1 : decode cX4_join 1 = .ok (.iload_n 1, 1) := by decide +kernel
theorem dX4_join_2 : decode cX4_join 2 = .ok (.putfield 11, 3) := by decide +kernel
theorem dX4_join_5 : decode cX4_join 5 = .ok (.aload_n 0, 1) := by decide +kernel
theorem dX4_join_6 : decode cX4_join 6 = .ok (.iload_n 3, 1) := by decide +kernel
theorem dX4_join_7 : decode cX4_join 7 = .ok (.putfield 15, 3) := by decide +kernel
theorem dX4_join_10 : decode cX4_join 10 = .ok (.aload_n 0, 1) := by decide +kernel
theorem dX4_join_11 : decode cX4_join 11 = .ok (.iload_n 2, 1) := by decide +kernel
theorem dX4_join_12 : decode cX4_join 12 = .ok (.putfield 18, 3) := by decide +kernel
theorem dX4_join_15 : decode cX4_join 15 = .ok (.aload_n 0, 1) := by decide +kernel
theorem dX4_join_16 : decode cX4_join 16 = .ok (.iload 4, 2) := by decide +kernel
theorem dX4_join_18 : decode cX4_join 18 = .ok (.putfield 21, 3) := by decide +kernel
theorem dX4_join_21 : decode cX4_join 21 = .ok (.iconst 0, 1) := by decide +kernel
theorem dX4_join_22 : decode cX4_join 22 = .ok (.istore 5, 2) := by decide +kernel
theorem dX4_join_24 : decode cX4_join 24 = .ok (.iload 5, 2) := by decide +kernel
theorem dX4_join_26 : decode cX4_join 26 = .ok (.iload_n 2, 1) := by decide +kernel
theorem dX4_join_27 : decode cX4_join 27 = .ok (.if_icmp .ge 55, 3) := by decide +kernel
theorem dX4_join_30 : decode cX4_join 30 = .ok (.iconst 0, 1) := by decide +kernel
theorem dX4_join_31 : decode cX4_join 31 = .ok (.istore 6, 2) := by decide +kernel
theorem dX4_join_33 : decode cX4_join 33 = .ok (.iload 6, 2) := by decide +kernel
theorem dX4_join_35 : decode cX4_join 35 = .ok (.iload 4, 2) := by decide +kernel
theorem dX4_join_37 : decode cX4_join 37 = .ok (.if_icmp .ge 39, 3) := by decide +kernel
theorem dX4_join_40 : decode cX4_join 40 = .ok (.aload_n 0, 1) := by decide +kernel
theorem dX4_join_41 : decode cX4_join 41 = .ok (.getfield 24, 3) := by decide +kernel
theorem dX4_join_44 : decode cX4_join 44 = .ok (.iload 5, 2) := by decide +kernel
theorem dX4_join_46 : decode cX4_join 46 = .ok (.bipush 30, 2) := by decide +kernel
theorem dX4_join_48 : decode cX4_join 48 = .ok (.imul, 1) := by decide +kernel
theorem dX4_join_49 : decode cX4_join 49 = .ok (.iload 6, 2) := by decide +kernel
theorem dX4_join_51 : decode cX4_join 51 = .ok (.iadd, 1) := by decide +kernel
theorem dX4_join_52 : decode cX4_join 52 = .ok (.aload_n 0, 1) := by decide +kernel
theorem dX4_join_53 : decode cX4_join 53 = .ok (.iload 5, 2) := by decide +kernel
theorem dX4_join_55 : decode cX4_join 55 = .ok (.iload 6, 2) := by decide +kernel
theorem dX4_join_57 : decode cX4_join 57 = .ok (.invokevirtual 45, 3) := by decide +kernel
theorem dX4_join_60 : decode cX4_join 60 = .ok (.aload_n 0, 1) := by decide +kernel
theorem dX4_join_61 : decode cX4_join 61 = .ok (.iload 5, 2) := by decide +kernel
theorem dX4_join_63 : decode cX4_join 63 = .ok (.iload 6, 2) := by decide +kernel
theorem dX4_join_65 : decode cX4_join 65 = .ok (.invokevirtual 49, 3) := by decide +kernel
theorem dX4_join_68 : decode cX4_join 68 = .ok (.iadd, 1) := by decide +kernel
theorem dX4_join_69 : decode cX4_join 69 = .ok (.iastore, 1) := by decide +kernel
theorem dX4_join_70 : decode cX4_join 70 = .ok (.iinc 6 1, 3) := by decide +kernel
theorem dX4_join_73 : decode cX4_join 73 = .ok (.goto (-40), 3) := by decide +kernel
theorem dX4_join_76 : decode cX4_join 76 = .ok (.iinc 5 1, 3) := by decide +kernel
theorem dX4_join_79 : decode cX4_join 79 = .ok (.goto (-55), 3) := by decide +kernel
theorem dX4_join_82 : decode cX4_join 82 = .ok (.aload_n 0, 1) := by decide +kernel
theorem dX4_join_83 : decode cX4_join 83 = .ok (.invokevirtual 52, 3) := by decide +kernel
theorem dX4_join_86 : decode cX4_join 86 = .ok (.return_, 1) := by decide +kernel
theorem dX4_tell_0 : decode cX4_tell 0 = .ok (.iload_n 1, 1) := by decide +kernel
theorem dX4_tell_1 : decode cX4_tell 1 = .ok (.tableswitch 67 0 2 #[27, 49, 54], 27) := by decide +kernel
theorem dX4_tell_28 : decode cX4_tell 28 = .ok (.aload_n 0, 1) := by decide +kernel
theorem dX4_tell_29 : decode cX4_tell 29 = .ok (.getfield 24, 3) := by decide +kernel
theorem dX4_tell_32 : decode cX4_tell 32 = .ok (.aload_n 0, 1) := by decide +kernel
theorem dX4_tell_33 : decode cX4_tell 33 = .ok (.getfield 18, 3) := by decide +kernel
theorem dX4_tell_36 : decode cX4_tell 36 = .ok (.iconst 1, 1) := by decide +kernel
theorem dX4_tell_37 : decode cX4_tell 37 = .ok (.isub, 1) := by decide +kernel
theorem dX4_tell_38 : decode cX4_tell 38 = .ok (.bipush 30, 2) := by decide +kernel
theorem dX4_tell_40 : decode cX4_tell 40 = .ok (.imul, 1) := by decide +kernel
theorem dX4_tell_41 : decode cX4_tell 41 = .ok (.aload_n 0, 1) := by decide +kernel
theorem dX4_tell_42 : decode cX4_tell 42 = .ok (.getfield 21, 3) := by decide +kernel
theorem dX4_tell_45 : decode cX4_tell 45 = .ok (.iadd, 1) := by decide +kernel
theorem dX4_tell_46 : decode cX4_tell 46 = .ok (.iconst 1, 1) := by decide +kernel
theorem dX4_tell_47 : decode cX4_tell 47 = .ok (.isub, 1) := by decide +kernel
theorem dX4_tell_48 : decode cX4_tell 48 = .ok (.iaload, 1) := by decide +kernel
theorem dX4_tell_49 : decode cX4_tell 49 = .ok (.ireturn, 1) := by decide +kernel
theorem dX4_tell_50 : decode cX4_tell 50 = .ok (.aload_n 0, 1) := by decide +kernel
theorem dX4_tell_51 : decode cX4_tell 51 = .ok (.getfield 34, 3) := by decide +kernel
theorem dX4_tell_54 : decode cX4_tell 54 = .ok (.ireturn, 1) := by decide +kernel
theorem dX4_tell_55 : decode cX4_tell 55 = .ok (.aload_n 0, 1) := by decide +kernel
theorem dX4_tell_56 : decode cX4_tell 56 = .ok (.aload_n 0, 1) := by decide +kernel
theorem dX4_tell_57 : decode cX4_tell 57 = .ok (.getfield 31, 3) := by decide +kernel
theorem dX4_tell_60 : decode cX4_tell 60 = .ok (.aload_n 0, 1) := by decide +kernel
theorem dX4_tell_61 : decode cX4_tell 61 = .ok (.getfield 21, 3) := by decide +kernel
theorem dX4_tell_64 : decode cX4_tell 64 = .ok (.invokevirtual 55, 3) := by decide +kernel
theorem dX4_tell_67 : decode cX4_tell 67 = .ok (.ireturn, 1) := by decide +kernel
theorem dX4_tell_68 : decode cX4_tell 68 = .ok (.aload_n 0, 1) := by decide +kernel
theorem dX4_tell_69 : decode cX4_tell 69 = .ok (.aload_n 0, 1) := by decide +kernel
theorem dX4_tell_70 : decode cX4_tell 70 = .ok (.getfield 28, 3) := by decide +kernel
theorem dX4_tell_73 : decode cX4_tell 73 = .ok (.aload_n 0, 1) := by decide +kernel
theorem dX4_tell_74 : decode cX4_tell 74 = .ok (.getfield 18, 3) := by decide +kernel
theorem dX4_tell_77 : decode cX4_tell 77 = .ok (.invokevirtual 55, 3) := by decide +kernel
theorem dX4_tell_80 : decode cX4_tell 80 = .ok (.ireturn, 1) := by decide +kernel
theorem dX4_met_0 : decode cX4_met 0 = .ok (.iload_n 1, 1) := by decide +kernel
theorem dX4_met_1 : decode cX4_met 1 = .ok (.ifCond .lt 11, 3) := by decide +kernel
theorem dX4_met_4 : decode cX4_met 4 = .ok (.iload_n 1, 1) := by decide +kernel
theorem dX4_met_5 : decode cX4_met 5 = .ok (.aload_n 0, 1) := by decide +kernel
theorem dX4_met_6 : decode cX4_met 6 = .ok (.getfield 34, 3) := by decide +kernel
theorem dX4_met_9 : decode cX4_met 9 = .ok (.if_icmp .lt 6, 3) := by decide +kernel
theorem dX4_met_12 : decode cX4_met 12 = .ok (.ldc 59, 2) := by decide +kernel
theorem dX4_met_14 : decode cX4_met 14 = .ok (.ireturn, 1) := by decide +kernel
theorem dX4_met_15 : decode cX4_met 15 = .ok (.aload_n 0, 1) := by decide +kernel
theorem dX4_met_16 : decode cX4_met 16 = .ok (.getfield 34, 3) := by decide +kernel
theorem dX4_met_19 : decode cX4_met 19 = .ok (.iconst 1, 1) := by decide +kernel
theorem dX4_met_20 : decode cX4_met 20 = .ok (.isub, 1) := by decide +kernel
theorem dX4_met_21 : decode cX4_met 21 = .ok (.iload_n 1, 1) := by decide +kernel
theorem dX4_met_22 : decode cX4_met 22 = .ok (.isub, 1) := by decide +kernel
theorem dX4_met_23 : decode cX4_met 23 = .ok (.istore_n 2, 1) := by decide +kernel
theorem dX4_met_24 : decode cX4_met 24 = .ok (.aload_n 0, 1) := by decide +kernel
theorem dX4_met_25 : decode cX4_met 25 = .ok (.getfield 28, 3) := by decide +kernel
theorem dX4_met_28 : decode cX4_met 28 = .ok (.iload_n 2, 1) := by decide +kernel
theorem dX4_met_29 : decode cX4_met 29 = .ok (.iaload, 1) := by decide +kernel
theorem dX4_met_30 : decode cX4_met 30 = .ok (.bipush 100, 2) := by decide +kernel
theorem dX4_met_32 : decode cX4_met 32 = .ok (.imul, 1) := by decide +kernel
theorem dX4_met_33 : decode cX4_met 33 = .ok (.aload_n 0, 1) := by decide +kernel
theorem dX4_met_34 : decode cX4_met 34 = .ok (.getfield 31, 3) := by decide +kernel
theorem dX4_met_37 : decode cX4_met 37 = .ok (.iload_n 2, 1) := by decide +kernel
theorem dX4_met_38 : decode cX4_met 38 = .ok (.iaload, 1) := by decide +kernel
theorem dX4_met_39 : decode cX4_met 39 = .ok (.iadd, 1) := by decide +kernel
theorem dX4_met_40 : decode cX4_met 40 = .ok (.ireturn, 1) := by decide +kernel
theorem dX4_apart_0 : decode cX4_apart 0 = .ok (.aload_n 0, 1) := by decide +kernel
theorem dX4_apart_1 : decode cX4_apart 1 = .ok (.getfield 37, 3) := by decide +kernel
theorem dX4_apart_4 : decode cX4_apart 4 = .ok (.aload_n 0, 1) := by decide +kernel
theorem dX4_apart_5 : decode cX4_apart 5 = .ok (.getfield 11, 3) := by decide +kernel
theorem dX4_apart_8 : decode cX4_apart 8 = .ok (.iconst 2, 1) := by decide +kernel
theorem dX4_apart_9 : decode cX4_apart 9 = .ok (.iload_n 1, 1) := by decide +kernel
theorem dX4_apart_10 : decode cX4_apart 10 = .ok (.imul, 1) := by decide +kernel
theorem dX4_apart_11 : decode cX4_apart 11 = .ok (.invokevirtual 60, 3) := by decide +kernel
theorem dX4_apart_14 : decode cX4_apart 14 = .ok (.aload_n 0, 1) := by decide +kernel
theorem dX4_apart_15 : decode cX4_apart 15 = .ok (.getfield 37, 3) := by decide +kernel
theorem dX4_apart_18 : decode cX4_apart 18 = .ok (.aload_n 0, 1) := by decide +kernel
theorem dX4_apart_19 : decode cX4_apart 19 = .ok (.getfield 15, 3) := by decide +kernel
theorem dX4_apart_22 : decode cX4_apart 22 = .ok (.iconst 2, 1) := by decide +kernel
theorem dX4_apart_23 : decode cX4_apart 23 = .ok (.iload_n 2, 1) := by decide +kernel
theorem dX4_apart_24 : decode cX4_apart 24 = .ok (.imul, 1) := by decide +kernel
theorem dX4_apart_25 : decode cX4_apart 25 = .ok (.invokevirtual 60, 3) := by decide +kernel
theorem dX4_apart_28 : decode cX4_apart 28 = .ok (.isub, 1) := by decide +kernel
theorem dX4_apart_29 : decode cX4_apart 29 = .ok (.invokestatic 65, 3) := by decide +kernel
theorem dX4_apart_32 : decode cX4_apart 32 = .ok (.aload_n 0, 1) := by decide +kernel
theorem dX4_apart_33 : decode cX4_apart 33 = .ok (.getfield 37, 3) := by decide +kernel
theorem dX4_apart_36 : decode cX4_apart 36 = .ok (.aload_n 0, 1) := by decide +kernel
theorem dX4_apart_37 : decode cX4_apart 37 = .ok (.getfield 11, 3) := by decide +kernel
theorem dX4_apart_40 : decode cX4_apart 40 = .ok (.iconst 2, 1) := by decide +kernel
theorem dX4_apart_41 : decode cX4_apart 41 = .ok (.iload_n 1, 1) := by decide +kernel
theorem dX4_apart_42 : decode cX4_apart 42 = .ok (.imul, 1) := by decide +kernel
theorem dX4_apart_43 : decode cX4_apart 43 = .ok (.iconst 1, 1) := by decide +kernel
theorem dX4_apart_44 : decode cX4_apart 44 = .ok (.iadd, 1) := by decide +kernel
theorem dX4_apart_45 : decode cX4_apart 45 = .ok (.invokevirtual 60, 3) := by decide +kernel
theorem dX4_apart_48 : decode cX4_apart 48 = .ok (.aload_n 0, 1) := by decide +kernel
theorem dX4_apart_49 : decode cX4_apart 49 = .ok (.getfield 37, 3) := by decide +kernel
theorem dX4_apart_52 : decode cX4_apart 52 = .ok (.aload_n 0, 1) := by decide +kernel
theorem dX4_apart_53 : decode cX4_apart 53 = .ok (.getfield 15, 3) := by decide +kernel
theorem dX4_apart_56 : decode cX4_apart 56 = .ok (.iconst 2, 1) := by decide +kernel
theorem dX4_apart_57 : decode cX4_apart 57 = .ok (.iload_n 2, 1) := by decide +kernel
theorem dX4_apart_58 : decode cX4_apart 58 = .ok (.imul, 1) := by decide +kernel
theorem dX4_apart_59 : decode cX4_apart 59 = .ok (.iconst 1, 1) := by decide +kernel
theorem dX4_apart_60 : decode cX4_apart 60 = .ok (.iadd, 1) := by decide +kernel
theorem dX4_apart_61 : decode cX4_apart 61 = .ok (.invokevirtual 60, 3) := by decide +kernel
theorem dX4_apart_64 : decode cX4_apart 64 = .ok (.isub, 1) := by decide +kernel
theorem dX4_apart_65 : decode cX4_apart 65 = .ok (.invokestatic 65, 3) := by decide +kernel
theorem dX4_apart_68 : decode cX4_apart 68 = .ok (.iadd, 1) := by decide +kernel
theorem dX4_apart_69 : decode cX4_apart 69 = .ok (.ireturn, 1) := by decide +kernel
theorem dX4_costAhead_0 : decode cX4_costAhead 0 = .ok (.iload_n 1, 1) := by decide +kernel
theorem dX4_costAhead_1 : decode cX4_costAhead 1 = .ok (.ifCond .ne 9, 3) := by decide +kernel
theorem dX4_costAhead_4 : decode cX4_costAhead 4 = .ok (.iload_n 2, 1) := by decide +kernel
theorem dX4_costAhead_5 : decode cX4_costAhead 5 = .ok (.ifCond .ne 5, 3) := by decide +kernel
theorem dX4_costAhead_8 : decode cX4_costAhead 8 = .ok (.iconst 0, 1) := by decide +kernel
theorem dX4_costAhead_9 : decode cX4_costAhead 9 = .ok (.ireturn, 1) := by decide +kernel
theorem dX4_costAhead_10 : decode cX4_costAhead 10 = .ok (.iload_n 1, 1) := by decide +kernel
theorem dX4_costAhead_11 : decode cX4_costAhead 11 = .ok (.ifCond .ne 12, 3) := by decide +kernel
theorem dX4_costAhead_14 : decode cX4_costAhead 14 = .ok (.aload_n 0, 1) := by decide +kernel
theorem dX4_costAhead_15 : decode cX4_costAhead 15 = .ok (.getfield 24, 3) := by decide +kernel
theorem dX4_costAhead_18 : decode cX4_costAhead 18 = .ok (.iload_n 2, 1) := by decide +kernel
theorem dX4_costAhead_19 : decode cX4_costAhead 19 = .ok (.iconst 1, 1) := by decide +kernel
theorem dX4_costAhead_20 : decode cX4_costAhead 20 = .ok (.isub, 1) := by decide +kernel
theorem dX4_costAhead_21 : decode cX4_costAhead 21 = .ok (.iaload, 1) := by decide +kernel
theorem dX4_costAhead_22 : decode cX4_costAhead 22 = .ok (.ireturn, 1) := by decide +kernel
theorem dX4_costAhead_23 : decode cX4_costAhead 23 = .ok (.iload_n 2, 1) := by decide +kernel
theorem dX4_costAhead_24 : decode cX4_costAhead 24 = .ok (.ifCond .ne 15, 3) := by decide +kernel
theorem dX4_costAhead_27 : decode cX4_costAhead 27 = .ok (.aload_n 0, 1) := by decide +kernel
theorem dX4_costAhead_28 : decode cX4_costAhead 28 = .ok (.getfield 24, 3) := by decide +kernel
theorem dX4_costAhead_31 : decode cX4_costAhead 31 = .ok (.iload_n 1, 1) := by decide +kernel
theorem dX4_costAhead_32 : decode cX4_costAhead 32 = .ok (.iconst 1, 1) := by decide +kernel
theorem dX4_costAhead_33 : decode cX4_costAhead 33 = .ok (.isub, 1) := by decide +kernel
theorem dX4_costAhead_34 : decode cX4_costAhead 34 = .ok (.bipush 30, 2) := by decide +kernel
theorem dX4_costAhead_36 : decode cX4_costAhead 36 = .ok (.imul, 1) := by decide +kernel
theorem dX4_costAhead_37 : decode cX4_costAhead 37 = .ok (.iaload, 1) := by decide +kernel
theorem dX4_costAhead_38 : decode cX4_costAhead 38 = .ok (.ireturn, 1) := by decide +kernel
theorem dX4_costAhead_39 : decode cX4_costAhead 39 = .ok (.aload_n 0, 1) := by decide +kernel
theorem dX4_costAhead_40 : decode cX4_costAhead 40 = .ok (.getfield 24, 3) := by decide +kernel
theorem dX4_costAhead_43 : decode cX4_costAhead 43 = .ok (.iload_n 1, 1) := by decide +kernel
theorem dX4_costAhead_44 : decode cX4_costAhead 44 = .ok (.iconst 1, 1) := by decide +kernel
theorem dX4_costAhead_45 : decode cX4_costAhead 45 = .ok (.isub, 1) := by decide +kernel
theorem dX4_costAhead_46 : decode cX4_costAhead 46 = .ok (.bipush 30, 2) := by decide +kernel
theorem dX4_costAhead_48 : decode cX4_costAhead 48 = .ok (.imul, 1) := by decide +kernel
theorem dX4_costAhead_49 : decode cX4_costAhead 49 = .ok (.iload_n 2, 1) := by decide +kernel
theorem dX4_costAhead_50 : decode cX4_costAhead 50 = .ok (.iadd, 1) := by decide +kernel
theorem dX4_costAhead_51 : decode cX4_costAhead 51 = .ok (.iaload, 1) := by decide +kernel
theorem dX4_costAhead_52 : decode cX4_costAhead 52 = .ok (.aload_n 0, 1) := by decide +kernel
theorem dX4_costAhead_53 : decode cX4_costAhead 53 = .ok (.getfield 24, 3) := by decide +kernel
theorem dX4_costAhead_56 : decode cX4_costAhead 56 = .ok (.iload_n 1, 1) := by decide +kernel
theorem dX4_costAhead_57 : decode cX4_costAhead 57 = .ok (.bipush 30, 2) := by decide +kernel
theorem dX4_costAhead_59 : decode cX4_costAhead 59 = .ok (.imul, 1) := by decide +kernel
theorem dX4_costAhead_60 : decode cX4_costAhead 60 = .ok (.iload_n 2, 1) := by decide +kernel
theorem dX4_costAhead_61 : decode cX4_costAhead 61 = .ok (.iadd, 1) := by decide +kernel
theorem dX4_costAhead_62 : decode cX4_costAhead 62 = .ok (.iconst 1, 1) := by decide +kernel
theorem dX4_costAhead_63 : decode cX4_costAhead 63 = .ok (.isub, 1) := by decide +kernel
theorem dX4_costAhead_64 : decode cX4_costAhead 64 = .ok (.iaload, 1) := by decide +kernel
theorem dX4_costAhead_65 : decode cX4_costAhead 65 = .ok (.invokestatic 71, 3) := by decide +kernel
theorem dX4_costAhead_68 : decode cX4_costAhead 68 = .ok (.istore_n 3, 1) := by decide +kernel
theorem dX4_costAhead_69 : decode cX4_costAhead 69 = .ok (.iload_n 3, 1) := by decide +kernel
theorem dX4_costAhead_70 : decode cX4_costAhead 70 = .ok (.aload_n 0, 1) := by decide +kernel
theorem dX4_costAhead_71 : decode cX4_costAhead 71 = .ok (.getfield 24, 3) := by decide +kernel
theorem dX4_costAhead_74 : decode cX4_costAhead 74 = .ok (.iload_n 1, 1) := by decide +kernel
theorem dX4_costAhead_75 : decode cX4_costAhead 75 = .ok (.iconst 1, 1) := by decide +kernel
theorem dX4_costAhead_76 : decode cX4_costAhead 76 = .ok (.isub, 1) := by decide +kernel
theorem dX4_costAhead_77 : decode cX4_costAhead 77 = .ok (.bipush 30, 2) := by decide +kernel
theorem dX4_costAhead_79 : decode cX4_costAhead 79 = .ok (.imul, 1) := by decide +kernel
theorem dX4_costAhead_80 : decode cX4_costAhead 80 = .ok (.iload_n 2, 1) := by decide +kernel
theorem dX4_costAhead_81 : decode cX4_costAhead 81 = .ok (.iadd, 1) := by decide +kernel
theorem dX4_costAhead_82 : decode cX4_costAhead 82 = .ok (.iconst 1, 1) := by decide +kernel
theorem dX4_costAhead_83 : decode cX4_costAhead 83 = .ok (.isub, 1) := by decide +kernel
theorem dX4_costAhead_84 : decode cX4_costAhead 84 = .ok (.iaload, 1) := by decide +kernel
theorem dX4_costAhead_85 : decode cX4_costAhead 85 = .ok (.invokestatic 71, 3) := by decide +kernel
theorem dX4_costAhead_88 : decode cX4_costAhead 88 = .ok (.ireturn, 1) := by decide +kernel
theorem dX4_walkBack_0 : decode cX4_walkBack 0 = .ok (.aload_n 0, 1) := by decide +kernel
theorem dX4_walkBack_1 : decode cX4_walkBack 1 = .ok (.getfield 18, 3) := by decide +kernel
theorem dX4_walkBack_4 : decode cX4_walkBack 4 = .ok (.iconst 1, 1) := by decide +kernel
theorem dX4_walkBack_5 : decode cX4_walkBack 5 = .ok (.isub, 1) := by decide +kernel
theorem dX4_walkBack_6 : decode cX4_walkBack 6 = .ok (.istore_n 1, 1) := by decide +kernel
theorem dX4_walkBack_7 : decode cX4_walkBack 7 = .ok (.aload_n 0, 1) := by decide +kernel
theorem dX4_walkBack_8 : decode cX4_walkBack 8 = .ok (.getfield 21, 3) := by decide +kernel
theorem dX4_walkBack_11 : decode cX4_walkBack 11 = .ok (.iconst 1, 1) := by decide +kernel
theorem dX4_walkBack_12 : decode cX4_walkBack 12 = .ok (.isub, 1) := by decide +kernel
theorem dX4_walkBack_13 : decode cX4_walkBack 13 = .ok (.istore_n 2, 1) := by decide +kernel
theorem dX4_walkBack_14 : decode cX4_walkBack 14 = .ok (.aload_n 0, 1) := by decide +kernel
theorem dX4_walkBack_15 : decode cX4_walkBack 15 = .ok (.iconst 0, 1) := by decide +kernel
theorem dX4_walkBack_16 : decode cX4_walkBack 16 = .ok (.iload_n 1, 1) := by decide +kernel
theorem dX4_walkBack_17 : decode cX4_walkBack 17 = .ok (.iload_n 2, 1) := by decide +kernel
theorem dX4_walkBack_18 : decode cX4_walkBack 18 = .ok (.invokevirtual 74, 3) := by decide +kernel
theorem dX4_walkBack_21 : decode cX4_walkBack 21 = .ok (.aload_n 0, 1) := by decide +kernel
theorem dX4_walkBack_22 : decode cX4_walkBack 22 = .ok (.iconst 1, 1) := by decide +kernel
theorem dX4_walkBack_23 : decode cX4_walkBack 23 = .ok (.putfield 34, 3) := by decide +kernel
theorem dX4_walkBack_26 : decode cX4_walkBack 26 = .ok (.aload_n 0, 1) := by decide +kernel
theorem dX4_walkBack_27 : decode cX4_walkBack 27 = .ok (.getfield 34, 3) := by decide +kernel
theorem dX4_walkBack_30 : decode cX4_walkBack 30 = .ok (.bipush 59, 2) := by decide +kernel
theorem dX4_walkBack_32 : decode cX4_walkBack 32 = .ok (.if_icmp .ge 129, 3) := by decide +kernel
theorem dX4_walkBack_35 : decode cX4_walkBack 35 = .ok (.iload_n 1, 1) := by decide +kernel
theorem dX4_walkBack_36 : decode cX4_walkBack 36 = .ok (.ifCond .gt 7, 3) := by decide +kernel
theorem dX4_walkBack_39 : decode cX4_walkBack 39 = .ok (.iload_n 2, 1) := by decide +kernel
theorem dX4_walkBack_40 : decode cX4_walkBack 40 = .ok (.ifCond .le 121, 3) := by decide +kernel
theorem dX4_walkBack_43 : decode cX4_walkBack 43 = .ok (.aload_n 0, 1) := by decide +kernel
theorem dX4_walkBack_44 : decode cX4_walkBack 44 = .ok (.iload_n 1, 1) := by decide +kernel
theorem dX4_walkBack_45 : decode cX4_walkBack 45 = .ok (.iload_n 2, 1) := by decide +kernel
theorem dX4_walkBack_46 : decode cX4_walkBack 46 = .ok (.invokevirtual 49, 3) := by decide +kernel
theorem dX4_walkBack_49 : decode cX4_walkBack 49 = .ok (.istore_n 3, 1) := by decide +kernel
theorem dX4_walkBack_50 : decode cX4_walkBack 50 = .ok (.iload_n 1, 1) := by decide +kernel
theorem dX4_walkBack_51 : decode cX4_walkBack 51 = .ok (.ifCond .le 30, 3) := by decide +kernel
theorem dX4_walkBack_54 : decode cX4_walkBack 54 = .ok (.iload_n 2, 1) := by decide +kernel
theorem dX4_walkBack_55 : decode cX4_walkBack 55 = .ok (.ifCond .le 26, 3) := by decide +kernel
theorem dX4_walkBack_58 : decode cX4_walkBack 58 = .ok (.aload_n 0, 1) := by decide +kernel
theorem dX4_walkBack_59 : decode cX4_walkBack 59 = .ok (.getfield 24, 3) := by decide +kernel
theorem dX4_walkBack_62 : decode cX4_walkBack 62 = .ok (.iload_n 1, 1) := by decide +kernel
theorem dX4_walkBack_63 : decode cX4_walkBack 63 = .ok (.iconst 1, 1) := by decide +kernel
theorem dX4_walkBack_64 : decode cX4_walkBack 64 = .ok (.isub, 1) := by decide +kernel
theorem dX4_walkBack_65 : decode cX4_walkBack 65 = .ok (.bipush 30, 2) := by decide +kernel
theorem dX4_walkBack_67 : decode cX4_walkBack 67 = .ok (.imul, 1) := by decide +kernel
theorem dX4_walkBack_68 : decode cX4_walkBack 68 = .ok (.iload_n 2, 1) := by decide +kernel
theorem dX4_walkBack_69 : decode cX4_walkBack 69 = .ok (.iadd, 1) := by decide +kernel
theorem dX4_walkBack_70 : decode cX4_walkBack 70 = .ok (.iconst 1, 1) := by decide +kernel
theorem dX4_walkBack_71 : decode cX4_walkBack 71 = .ok (.isub, 1) := by decide +kernel
theorem dX4_walkBack_72 : decode cX4_walkBack 72 = .ok (.iaload, 1) := by decide +kernel
theorem dX4_walkBack_73 : decode cX4_walkBack 73 = .ok (.iload_n 3, 1) := by decide +kernel
theorem dX4_walkBack_74 : decode cX4_walkBack 74 = .ok (.if_icmp .ne 7, 3) := by decide +kernel
theorem dX4_walkBack_77 : decode cX4_walkBack 77 = .ok (.iconst 1, 1) := by decide +kernel
theorem dX4_walkBack_78 : decode cX4_walkBack 78 = .ok (.goto 4, 3) := by decide +kernel
theorem dX4_walkBack_81 : decode cX4_walkBack 81 = .ok (.iconst 0, 1) := by decide +kernel
theorem dX4_walkBack_82 : decode cX4_walkBack 82 = .ok (.istore 4, 2) := by decide +kernel
theorem dX4_walkBack_84 : decode cX4_walkBack 84 = .ok (.iload 4, 2) := by decide +kernel
theorem dX4_walkBack_86 : decode cX4_walkBack 86 = .ok (.ifCond .ne 28, 3) := by decide +kernel
theorem dX4_walkBack_89 : decode cX4_walkBack 89 = .ok (.iload_n 1, 1) := by decide +kernel
theorem dX4_walkBack_90 : decode cX4_walkBack 90 = .ok (.ifCond .le 24, 3) := by decide +kernel
theorem dX4_walkBack_93 : decode cX4_walkBack 93 = .ok (.aload_n 0, 1) := by decide +kernel
theorem dX4_walkBack_94 : decode cX4_walkBack 94 = .ok (.getfield 24, 3) := by decide +kernel
theorem dX4_walkBack_97 : decode cX4_walkBack 97 = .ok (.iload_n 1, 1) := by decide +kernel
theorem dX4_walkBack_98 : decode cX4_walkBack 98 = .ok (.iconst 1, 1) := by decide +kernel
theorem dX4_walkBack_99 : decode cX4_walkBack 99 = .ok (.isub, 1) := by decide +kernel
theorem dX4_walkBack_100 : decode cX4_walkBack 100 = .ok (.bipush 30, 2) := by decide +kernel
theorem dX4_walkBack_102 : decode cX4_walkBack 102 = .ok (.imul, 1) := by decide +kernel
theorem dX4_walkBack_103 : decode cX4_walkBack 103 = .ok (.iload_n 2, 1) := by decide +kernel
theorem dX4_walkBack_104 : decode cX4_walkBack 104 = .ok (.iadd, 1) := by decide +kernel
theorem dX4_walkBack_105 : decode cX4_walkBack 105 = .ok (.iaload, 1) := by decide +kernel
theorem dX4_walkBack_106 : decode cX4_walkBack 106 = .ok (.iload_n 3, 1) := by decide +kernel
theorem dX4_walkBack_107 : decode cX4_walkBack 107 = .ok (.if_icmp .ne 7, 3) := by decide +kernel
theorem dX4_walkBack_110 : decode cX4_walkBack 110 = .ok (.iconst 1, 1) := by decide +kernel
theorem dX4_walkBack_111 : decode cX4_walkBack 111 = .ok (.goto 4, 3) := by decide +kernel
theorem dX4_walkBack_114 : decode cX4_walkBack 114 = .ok (.iconst 0, 1) := by decide +kernel
theorem dX4_walkBack_115 : decode cX4_walkBack 115 = .ok (.istore 5, 2) := by decide +kernel
theorem dX4_walkBack_117 : decode cX4_walkBack 117 = .ok (.iload 4, 2) := by decide +kernel
theorem dX4_walkBack_119 : decode cX4_walkBack 119 = .ok (.ifCond .ne 8, 3) := by decide +kernel
theorem dX4_walkBack_122 : decode cX4_walkBack 122 = .ok (.iload 5, 2) := by decide +kernel
theorem dX4_walkBack_124 : decode cX4_walkBack 124 = .ok (.ifCond .eq 6, 3) := by decide +kernel
theorem dX4_walkBack_127 : decode cX4_walkBack 127 = .ok (.iinc 1 (-1), 3) := by decide +kernel
theorem dX4_walkBack_130 : decode cX4_walkBack 130 = .ok (.iload 5, 2) := by decide +kernel
theorem dX4_walkBack_132 : decode cX4_walkBack 132 = .ok (.ifCond .ne 6, 3) := by decide +kernel
theorem dX4_walkBack_135 : decode cX4_walkBack 135 = .ok (.iinc 2 (-1), 3) := by decide +kernel
theorem dX4_walkBack_138 : decode cX4_walkBack 138 = .ok (.aload_n 0, 1) := by decide +kernel
theorem dX4_walkBack_139 : decode cX4_walkBack 139 = .ok (.aload_n 0, 1) := by decide +kernel
theorem dX4_walkBack_140 : decode cX4_walkBack 140 = .ok (.getfield 34, 3) := by decide +kernel
theorem dX4_walkBack_143 : decode cX4_walkBack 143 = .ok (.iload_n 1, 1) := by decide +kernel
theorem dX4_walkBack_144 : decode cX4_walkBack 144 = .ok (.iload_n 2, 1) := by decide +kernel
theorem dX4_walkBack_145 : decode cX4_walkBack 145 = .ok (.invokevirtual 74, 3) := by decide +kernel
theorem dX4_walkBack_148 : decode cX4_walkBack 148 = .ok (.aload_n 0, 1) := by decide +kernel
theorem dX4_walkBack_149 : decode cX4_walkBack 149 = .ok (.dup, 1) := by decide +kernel
theorem dX4_walkBack_150 : decode cX4_walkBack 150 = .ok (.getfield 34, 3) := by decide +kernel
theorem dX4_walkBack_153 : decode cX4_walkBack 153 = .ok (.iconst 1, 1) := by decide +kernel
theorem dX4_walkBack_154 : decode cX4_walkBack 154 = .ok (.iadd, 1) := by decide +kernel
theorem dX4_walkBack_155 : decode cX4_walkBack 155 = .ok (.putfield 34, 3) := by decide +kernel
theorem dX4_walkBack_158 : decode cX4_walkBack 158 = .ok (.goto (-132), 3) := by decide +kernel
theorem dX4_walkBack_161 : decode cX4_walkBack 161 = .ok (.return_, 1) := by decide +kernel
theorem dX4_meet_0 : decode cX4_meet 0 = .ok (.aload_n 0, 1) := by decide +kernel
theorem dX4_meet_1 : decode cX4_meet 1 = .ok (.getfield 28, 3) := by decide +kernel
theorem dX4_meet_4 : decode cX4_meet 4 = .ok (.iload_n 1, 1) := by decide +kernel
theorem dX4_meet_5 : decode cX4_meet 5 = .ok (.iload_n 2, 1) := by decide +kernel
theorem dX4_meet_6 : decode cX4_meet 6 = .ok (.iastore, 1) := by decide +kernel
theorem dX4_meet_7 : decode cX4_meet 7 = .ok (.aload_n 0, 1) := by decide +kernel
theorem dX4_meet_8 : decode cX4_meet 8 = .ok (.getfield 31, 3) := by decide +kernel
theorem dX4_meet_11 : decode cX4_meet 11 = .ok (.iload_n 1, 1) := by decide +kernel
theorem dX4_meet_12 : decode cX4_meet 12 = .ok (.iload_n 3, 1) := by decide +kernel
theorem dX4_meet_13 : decode cX4_meet 13 = .ok (.iastore, 1) := by decide +kernel
theorem dX4_meet_14 : decode cX4_meet 14 = .ok (.return_, 1) := by decide +kernel
theorem dX4_oftenMet_0 : decode cX4_oftenMet 0 = .ok (.iconst 0, 1) := by decide +kernel
theorem dX4_oftenMet_1 : decode cX4_oftenMet 1 = .ok (.istore_n 3, 1) := by decide +kernel
theorem dX4_oftenMet_2 : decode cX4_oftenMet 2 = .ok (.iconst 0, 1) := by decide +kernel
theorem dX4_oftenMet_3 : decode cX4_oftenMet 3 = .ok (.istore 4, 2) := by decide +kernel
theorem dX4_oftenMet_5 : decode cX4_oftenMet 5 = .ok (.iload 4, 2) := by decide +kernel
theorem dX4_oftenMet_7 : decode cX4_oftenMet 7 = .ok (.iload_n 2, 1) := by decide +kernel
theorem dX4_oftenMet_8 : decode cX4_oftenMet 8 = .ok (.if_icmp .ge 23, 3) := by decide +kernel
theorem dX4_oftenMet_11 : decode cX4_oftenMet 11 = .ok (.aload_n 0, 1) := by decide +kernel
theorem dX4_oftenMet_12 : decode cX4_oftenMet 12 = .ok (.aload_n 1, 1) := by decide +kernel
theorem dX4_oftenMet_13 : decode cX4_oftenMet 13 = .ok (.iload 4, 2) := by decide +kernel
theorem dX4_oftenMet_15 : decode cX4_oftenMet 15 = .ok (.invokevirtual 78, 3) := by decide +kernel
theorem dX4_oftenMet_18 : decode cX4_oftenMet 18 = .ok (.iconst 2, 1) := by decide +kernel
theorem dX4_oftenMet_19 : decode cX4_oftenMet 19 = .ok (.if_icmp .lt 6, 3) := by decide +kernel
theorem dX4_oftenMet_22 : decode cX4_oftenMet 22 = .ok (.iinc 3 1, 3) := by decide +kernel
theorem dX4_oftenMet_25 : decode cX4_oftenMet 25 = .ok (.iinc 4 1, 3) := by decide +kernel
theorem dX4_oftenMet_28 : decode cX4_oftenMet 28 = .ok (.goto (-23), 3) := by decide +kernel
theorem dX4_oftenMet_31 : decode cX4_oftenMet 31 = .ok (.iload_n 3, 1) := by decide +kernel
theorem dX4_oftenMet_32 : decode cX4_oftenMet 32 = .ok (.ireturn, 1) := by decide +kernel
theorem dX4_timesMet_0 : decode cX4_timesMet 0 = .ok (.iconst 0, 1) := by decide +kernel
theorem dX4_timesMet_1 : decode cX4_timesMet 1 = .ok (.istore_n 3, 1) := by decide +kernel
theorem dX4_timesMet_2 : decode cX4_timesMet 2 = .ok (.iconst 0, 1) := by decide +kernel
theorem dX4_timesMet_3 : decode cX4_timesMet 3 = .ok (.istore 4, 2) := by decide +kernel
theorem dX4_timesMet_5 : decode cX4_timesMet 5 = .ok (.iload 4, 2) := by decide +kernel
theorem dX4_timesMet_7 : decode cX4_timesMet 7 = .ok (.aload_n 0, 1) := by decide +kernel
theorem dX4_timesMet_8 : decode cX4_timesMet 8 = .ok (.getfield 34, 3) := by decide +kernel
theorem dX4_timesMet_11 : decode cX4_timesMet 11 = .ok (.if_icmp .ge 20, 3) := by decide +kernel
theorem dX4_timesMet_14 : decode cX4_timesMet 14 = .ok (.aload_n 1, 1) := by decide +kernel
theorem dX4_timesMet_15 : decode cX4_timesMet 15 = .ok (.iload 4, 2) := by decide +kernel
theorem dX4_timesMet_17 : decode cX4_timesMet 17 = .ok (.iaload, 1) := by decide +kernel
theorem dX4_timesMet_18 : decode cX4_timesMet 18 = .ok (.iload_n 2, 1) := by decide +kernel
theorem dX4_timesMet_19 : decode cX4_timesMet 19 = .ok (.if_icmp .ne 6, 3) := by decide +kernel
theorem dX4_timesMet_22 : decode cX4_timesMet 22 = .ok (.iinc 3 1, 3) := by decide +kernel
theorem dX4_timesMet_25 : decode cX4_timesMet 25 = .ok (.iinc 4 1, 3) := by decide +kernel
theorem dX4_timesMet_28 : decode cX4_timesMet 28 = .ok (.goto (-23), 3) := by decide +kernel
theorem dX4_timesMet_31 : decode cX4_timesMet 31 = .ok (.iload_n 3, 1) := by decide +kernel
theorem dX4_timesMet_32 : decode cX4_timesMet 32 = .ok (.ireturn, 1) := by decide +kernel
theorem dX5_init_0 : decode cX5_init 0 = .ok (.aload_n 0, 1) := by decide +kernel
theorem dX5_init_1 : decode cX5_init 1 = .ok (.invokespecial 5, 3) := by decide +kernel
theorem dX5_init_4 : decode cX5_init 4 = .ok (.aload_n 0, 1) := by decide +kernel
theorem dX5_init_5 : decode cX5_init 5 = .ok (.iconst 2, 1) := by decide +kernel
theorem dX5_init_6 : decode cX5_init 6 = .ok (.newarray .int, 2) := by decide +kernel
theorem dX5_init_8 : decode cX5_init 8 = .ok (.putfield 11, 3) := by decide +kernel
theorem dX5_init_11 : decode cX5_init 11 = .ok (.aload_n 0, 1) := by decide +kernel
theorem dX5_init_12 : decode cX5_init 12 = .ok (.iconst 2, 1) := by decide +kernel
theorem dX5_init_13 : decode cX5_init 13 = .ok (.newarray .int, 2) := by decide +kernel
theorem dX5_init_15 : decode cX5_init 15 = .ok (.putfield 15, 3) := by decide +kernel
theorem dX5_init_18 : decode cX5_init 18 = .ok (.aload_n 0, 1) := by decide +kernel
theorem dX5_init_19 : decode cX5_init 19 = .ok (.sipush 288, 3) := by decide +kernel
theorem dX5_init_22 : decode cX5_init 22 = .ok (.newarray .int, 2) := by decide +kernel
theorem dX5_init_24 : decode cX5_init 24 = .ok (.putfield 18, 3) := by decide +kernel
theorem dX5_init_27 : decode cX5_init 27 = .ok (.return_, 1) := by decide +kernel
theorem dX5_isSize_0 : decode cX5_isSize 0 = .ok (.iload_n 0, 1) := by decide +kernel
theorem dX5_isSize_1 : decode cX5_isSize 1 = .ok (.iconst 1, 1) := by decide +kernel
theorem dX5_isSize_2 : decode cX5_isSize 2 = .ok (.bipush 12, 2) := by decide +kernel
theorem dX5_isSize_4 : decode cX5_isSize 4 = .ok (.invokestatic 21, 3) := by decide +kernel
theorem dX5_isSize_7 : decode cX5_isSize 7 = .ok (.ifCond .eq 17, 3) := by decide +kernel
theorem dX5_isSize_10 : decode cX5_isSize 10 = .ok (.iload_n 1, 1) := by decide +kernel
theorem dX5_isSize_11 : decode cX5_isSize 11 = .ok (.iconst 1, 1) := by decide +kernel
theorem dX5_isSize_12 : decode cX5_isSize 12 = .ok (.bipush 12, 2) := by decide +kernel
theorem dX5_isSize_14 : decode cX5_isSize 14 = .ok (.invokestatic 21, 3) := by decide +kernel
theorem dX5_isSize_17 : decode cX5_isSize 17 = .ok (.ifCond .eq 7, 3) := by decide +kernel
theorem dX5_isSize_20 : decode cX5_isSize 20 = .ok (.iconst 1, 1) := by decide +kernel
theorem dX5_isSize_21 : decode cX5_isSize 21 = .ok (.goto 4, 3) := by decide +kernel
theorem dX5_isSize_24 : decode cX5_isSize 24 = .ok (.iconst 0, 1) := by decide +kernel
theorem dX5_isSize_25 : decode cX5_isSize 25 = .ok (.ireturn, 1) := by decide +kernel
theorem dX5_isTold_0 : decode cX5_isTold 0 = .ok (.aload_n 0, 1) := by decide +kernel
theorem dX5_isTold_1 : decode cX5_isTold 1 = .ok (.getfield 11, 3) := by decide +kernel
theorem dX5_isTold_4 : decode cX5_isTold 4 = .ok (.iload_n 1, 1) := by decide +kernel
theorem dX5_isTold_5 : decode cX5_isTold 5 = .ok (.iaload, 1) := by decide +kernel
theorem dX5_isTold_6 : decode cX5_isTold 6 = .ok (.ifCond .le 7, 3) := by decide +kernel
theorem dX5_isTold_9 : decode cX5_isTold 9 = .ok (.iconst 1, 1) := by decide +kernel
theorem dX5_isTold_10 : decode cX5_isTold 10 = .ok (.goto 4, 3) := by decide +kernel
theorem dX5_isTold_13 : decode cX5_isTold 13 = .ok (.iconst 0, 1) := by decide +kernel
theorem dX5_isTold_14 : decode cX5_isTold 14 = .ok (.ireturn, 1) := by decide +kernel
theorem dX5_take_0 : decode cX5_take 0 = .ok (.aload_n 0, 1) := by decide +kernel
theorem dX5_take_1 : decode cX5_take 1 = .ok (.getfield 11, 3) := by decide +kernel
theorem dX5_take_4 : decode cX5_take 4 = .ok (.iload_n 1, 1) := by decide +kernel
theorem dX5_take_5 : decode cX5_take 5 = .ok (.iload 5, 2) := by decide +kernel
theorem dX5_take_7 : decode cX5_take 7 = .ok (.iastore, 1) := by decide +kernel
theorem dX5_take_8 : decode cX5_take 8 = .ok (.aload_n 0, 1) := by decide +kernel
theorem dX5_take_9 : decode cX5_take 9 = .ok (.getfield 15, 3) := by decide +kernel
theorem dX5_take_12 : decode cX5_take 12 = .ok (.iload_n 1, 1) := by decide +kernel
theorem dX5_take_13 : decode cX5_take 13 = .ok (.iload 6, 2) := by decide +kernel
theorem dX5_take_15 : decode cX5_take 15 = .ok (.iastore, 1) := by decide +kernel
theorem dX5_take_16 : decode cX5_take 16 = .ok (.iconst 0, 1) := by decide +kernel
theorem dX5_take_17 : decode cX5_take 17 = .ok (.istore 7, 2) := by decide +kernel
theorem dX5_take_19 : decode cX5_take 19 = .ok (.iload 7, 2) := by decide +kernel
theorem dX5_take_21 : decode cX5_take 21 = .ok (.iload 5, 2) := by decide +kernel
theorem dX5_take_23 : decode cX5_take 23 = .ok (.iload 6, 2) := by decide +kernel
theorem dX5_take_25 : decode cX5_take 25 = .ok (.imul, 1) := by decide +kernel
theorem dX5_take_26 : decode cX5_take 26 = .ok (.if_icmp .ge 32, 3) := by decide +kernel
theorem dX5_take_29 : decode cX5_take 29 = .ok (.aload_n 0, 1) := by decide +kernel
theorem dX5_take_30 : decode cX5_take 30 = .ok (.getfield 18, 3) := by decide +kernel
theorem dX5_take_33 : decode cX5_take 33 = .ok (.iload_n 1, 1) := by decide +kernel
theorem dX5_take_34 : decode cX5_take 34 = .ok (.sipush 144, 3) := by decide +kernel
theorem dX5_take_37 : decode cX5_take 37 = .ok (.imul, 1) := by decide +kernel
theorem dX5_take_38 : decode cX5_take 38 = .ok (.iload 7, 2) := by decide +kernel
theorem dX5_take_40 : decode cX5_take 40 = .ok (.iadd, 1) := by decide +kernel
theorem dX5_take_41 : decode cX5_take 41 = .ok (.aload_n 2, 1) := by decide +kernel
theorem dX5_take_42 : decode cX5_take 42 = .ok (.iload_n 3, 1) := by decide +kernel
theorem dX5_take_43 : decode cX5_take 43 = .ok (.iload 4, 2) := by decide +kernel
theorem dX5_take_45 : decode cX5_take 45 = .ok (.iload 7, 2) := by decide +kernel
theorem dX5_take_47 : decode cX5_take 47 = .ok (.iadd, 1) := by decide +kernel
theorem dX5_take_48 : decode cX5_take 48 = .ok (.invokevirtual 25, 3) := by decide +kernel
theorem dX5_take_51 : decode cX5_take 51 = .ok (.iastore, 1) := by decide +kernel
theorem dX5_take_52 : decode cX5_take 52 = .ok (.iinc 7 1, 3) := by decide +kernel
theorem dX5_take_55 : decode cX5_take 55 = .ok (.goto (-36), 3) := by decide +kernel
theorem dX5_take_58 : decode cX5_take 58 = .ok (.return_, 1) := by decide +kernel
theorem dX5_numberAt_0 : decode cX5_numberAt 0 = .ok (.iload_n 2, 1) := by decide +kernel
theorem dX5_numberAt_1 : decode cX5_numberAt 1 = .ok (.aload_n 0, 1) := by decide +kernel
theorem dX5_numberAt_2 : decode cX5_numberAt 2 = .ok (.getfield 11, 3) := by decide +kernel
theorem dX5_numberAt_5 : decode cX5_numberAt 5 = .ok (.iload_n 1, 1) := by decide +kernel
theorem dX5_numberAt_6 : decode cX5_numberAt 6 = .ok (.iaload, 1) := by decide +kernel
theorem dX5_numberAt_7 : decode cX5_numberAt 7 = .ok (.imul, 1) := by decide +kernel
theorem dX5_numberAt_8 : decode cX5_numberAt 8 = .ok (.sipush 1001, 3) := by decide +kernel
theorem dX5_numberAt_11 : decode cX5_numberAt 11 = .ok (.idiv, 1) := by decide +kernel
theorem dX5_numberAt_12 : decode cX5_numberAt 12 = .ok (.istore 4, 2) := by decide +kernel
theorem dX5_numberAt_14 : decode cX5_numberAt 14 = .ok (.iload_n 3, 1) := by decide +kernel
theorem dX5_numberAt_15 : decode cX5_numberAt 15 = .ok (.aload_n 0, 1) := by decide +kernel
theorem dX5_numberAt_16 : decode cX5_numberAt 16 = .ok (.getfield 15, 3) := by decide +kernel
theorem dX5_numberAt_19 : decode cX5_numberAt 19 = .ok (.iload_n 1, 1) := by decide +kernel
theorem dX5_numberAt_20 : decode cX5_numberAt 20 = .ok (.iaload, 1) := by decide +kernel
theorem dX5_numberAt_21 : decode cX5_numberAt 21 = .ok (.imul, 1) := by decide +kernel
theorem dX5_numberAt_22 : decode cX5_numberAt 22 = .ok (.sipush 1001, 3) := by decide +kernel
theorem dX5_numberAt_25 : decode cX5_numberAt 25 = .ok (.idiv, 1) := by decide +kernel
theorem dX5_numberAt_26 : decode cX5_numberAt 26 = .ok (.istore 5, 2) := by decide +kernel
theorem dX5_numberAt_28 : decode cX5_numberAt 28 = .ok (.aload_n 0, 1) := by decide +kernel
theorem dX5_numberAt_29 : decode cX5_numberAt 29 = .ok (.getfield 18, 3) := by decide +kernel
theorem dX5_numberAt_32 : decode cX5_numberAt 32 = .ok (.iload_n 1, 1) := by decide +kernel
theorem dX5_numberAt_33 : decode cX5_numberAt 33 = .ok (.sipush 144, 3) := by decide +kernel
theorem dX5_numberAt_36 : decode cX5_numberAt 36 = .ok (.imul, 1) := by decide +kernel
theorem dX5_numberAt_37 : decode cX5_numberAt 37 = .ok (.iload 5, 2) := by decide +kernel
theorem dX5_numberAt_39 : decode cX5_numberAt 39 = .ok (.aload_n 0, 1) := by decide +kernel
theorem dX5_numberAt_40 : decode cX5_numberAt 40 = .ok (.getfield 11, 3) := by decide +kernel
theorem dX5_numberAt_43 : decode cX5_numberAt 43 = .ok (.iload_n 1, 1) := by decide +kernel
theorem dX5_numberAt_44 : decode cX5_numberAt 44 = .ok (.iaload, 1) := by decide +kernel
theorem dX5_numberAt_45 : decode cX5_numberAt 45 = .ok (.imul, 1) := by decide +kernel
theorem dX5_numberAt_46 : decode cX5_numberAt 46 = .ok (.iadd, 1) := by decide +kernel
theorem dX5_numberAt_47 : decode cX5_numberAt 47 = .ok (.iload 4, 2) := by decide +kernel
theorem dX5_numberAt_49 : decode cX5_numberAt 49 = .ok (.iadd, 1) := by decide +kernel
theorem dX5_numberAt_50 : decode cX5_numberAt 50 = .ok (.iaload, 1) := by decide +kernel
theorem dX5_numberAt_51 : decode cX5_numberAt 51 = .ok (.ireturn, 1) := by decide +kernel
theorem dX6_init_0 : decode cX6_init 0 = .ok (.aload_n 0, 1) := by decide +kernel
theorem dX6_init_1 : decode cX6_init 1 = .ok (.invokespecial 1, 3) := by decide +kernel
theorem dX6_init_4 : decode cX6_init 4 = .ok (.aload_n 0, 1) := by decide +kernel
theorem dX6_init_5 : decode cX6_init 5 = .ok (.bipush 8, 2) := by decide +kernel
theorem dX6_init_7 : decode cX6_init 7 = .ok (.newarray .int, 2) := by decide +kernel
theorem dX6_init_9 : decode cX6_init 9 = .ok (.putfield 9, 3) := by decide +kernel
theorem dX6_init_12 : decode cX6_init 12 = .ok (.aload_n 0, 1) := by decide +kernel
theorem dX6_init_13 : decode cX6_init 13 = .ok (.bipush 8, 2) := by decide +kernel
theorem dX6_init_15 : decode cX6_init 15 = .ok (.newarray .int, 2) := by decide +kernel
theorem dX6_init_17 : decode cX6_init 17 = .ok (.putfield 13, 3) := by decide +kernel
theorem dX6_init_20 : decode cX6_init 20 = .ok (.aload_n 0, 1) := by decide +kernel
theorem dX6_init_21 : decode cX6_init 21 = .ok (.sipush 1152, 3) := by decide +kernel
theorem dX6_init_24 : decode cX6_init 24 = .ok (.newarray .int, 2) := by decide +kernel
theorem dX6_init_26 : decode cX6_init 26 = .ok (.putfield 16, 3) := by decide +kernel
theorem dX6_init_29 : decode cX6_init 29 = .ok (.iconst 0, 1) := by decide +kernel
theorem dX6_init_30 : decode cX6_init 30 = .ok (.istore_n 1, 1) := by decide +kernel
theorem dX6_init_31 : decode cX6_init 31 = .ok (.iload_n 1, 1) := by decide +kernel
theorem dX6_init_32 : decode cX6_init 32 = .ok (.bipush 8, 2) := by decide +kernel
theorem dX6_init_34 : decode cX6_init 34 = .ok (.if_icmp .ge 16, 3) := by decide +kernel
theorem dX6_init_37 : decode cX6_init 37 = .ok (.aload_n 0, 1) := by decide +kernel
theorem dX6_init_38 : decode cX6_init 38 = .ok (.getfield 13, 3) := by decide +kernel
theorem dX6_init_41 : decode cX6_init 41 = .ok (.iload_n 1, 1) := by decide +kernel
theorem dX6_init_42 : decode cX6_init 42 = .ok (.iconst (-1), 1) := by decide +kernel
theorem dX6_init_43 : decode cX6_init 43 = .ok (.iastore, 1) := by decide +kernel
theorem dX6_init_44 : decode cX6_init 44 = .ok (.iinc 1 1, 3) := by decide +kernel
theorem dX6_init_47 : decode cX6_init 47 = .ok (.goto (-16), 3) := by decide +kernel
theorem dX6_init_50 : decode cX6_init 50 = .ok (.return_, 1) := by decide +kernel
theorem dX6_isSheet_0 : decode cX6_isSheet 0 = .ok (.iload_n 0, 1) := by decide +kernel
theorem dX6_isSheet_1 : decode cX6_isSheet 1 = .ok (.iconst 0, 1) := by decide +kernel
theorem dX6_isSheet_2 : decode cX6_isSheet 2 = .ok (.bipush 7, 2) := by decide +kernel
theorem dX6_isSheet_4 : decode cX6_isSheet 4 = .ok (.invokestatic 19, 3) := by decide +kernel
theorem dX6_isSheet_7 : decode cX6_isSheet 7 = .ok (.ireturn, 1) := by decide +kernel
theorem dX6_isLane_0 : decode cX6_isLane 0 = .ok (.iload_n 0, 1) := by decide +kernel
theorem dX6_isLane_1 : decode cX6_isLane 1 = .ok (.iconst 0, 1) := by decide +kernel
theorem dX6_isLane_2 : decode cX6_isLane 2 = .ok (.iconst 2, 1) := by decide +kernel
theorem dX6_isLane_3 : decode cX6_isLane 3 = .ok (.invokestatic 19, 3) := by decide +kernel
theorem dX6_isLane_6 : decode cX6_isLane 6 = .ok (.ireturn, 1) := by decide +kernel
theorem dX6_isMissing_0 : decode cX6_isMissing 0 = .ok (.aload_n 0, 1) := by decide +kernel
theorem dX6_isMissing_1 : decode cX6_isMissing 1 = .ok (.getfield 13, 3) := by decide +kernel
theorem dX6_isMissing_4 : decode cX6_isMissing 4 = .ok (.iload_n 1, 1) := by decide +kernel
theorem dX6_isMissing_5 : decode cX6_isMissing 5 = .ok (.iaload, 1) := by decide +kernel
theorem dX6_isMissing_6 : decode cX6_isMissing 6 = .ok (.iconst (-1), 1) := by decide +kernel
theorem dX6_isMissing_7 : decode cX6_isMissing 7 = .ok (.if_icmp .ne 7, 3) := by decide +kernel
theorem dX6_isMissing_10 : decode cX6_isMissing 10 = .ok (.iconst 1, 1) := by decide +kernel
theorem dX6_isMissing_11 : decode cX6_isMissing 11 = .ok (.goto 4, 3) := by decide +kernel
theorem dX6_isMissing_14 : decode cX6_isMissing 14 = .ok (.iconst 0, 1) := by decide +kernel
theorem dX6_isMissing_15 : decode cX6_isMissing 15 = .ok (.ireturn, 1) := by decide +kernel
theorem dX6_hasItems_0 : decode cX6_hasItems 0 = .ok (.iload_n 2, 1) := by decide +kernel
theorem dX6_hasItems_1 : decode cX6_hasItems 1 = .ok (.ifCond .lt 23, 3) := by decide +kernel
theorem dX6_hasItems_4 : decode cX6_hasItems 4 = .ok (.iload_n 3, 1) := by decide +kernel
theorem dX6_hasItems_5 : decode cX6_hasItems 5 = .ok (.ifCond .lt 19, 3) := by decide +kernel
theorem dX6_hasItems_8 : decode cX6_hasItems 8 = .ok (.iload_n 2, 1) := by decide +kernel
theorem dX6_hasItems_9 : decode cX6_hasItems 9 = .ok (.aload_n 0, 1) := by decide +kernel
theorem dX6_hasItems_10 : decode cX6_hasItems 10 = .ok (.getfield 13, 3) := by decide +kernel
theorem dX6_hasItems_13 : decode cX6_hasItems 13 = .ok (.iload_n 1, 1) := by decide +kernel
theorem dX6_hasItems_14 : decode cX6_hasItems 14 = .ok (.iaload, 1) := by decide +kernel
theorem dX6_hasItems_15 : decode cX6_hasItems 15 = .ok (.iload_n 3, 1) := by decide +kernel
theorem dX6_hasItems_16 : decode cX6_hasItems 16 = .ok (.isub, 1) := by decide +kernel
theorem dX6_hasItems_17 : decode cX6_hasItems 17 = .ok (.if_icmp .gt 7, 3) := by decide +kernel
theorem dX6_hasItems_20 : decode cX6_hasItems 20 = .ok (.iconst 1, 1) := by decide +kernel
theorem dX6_hasItems_21 : decode cX6_hasItems 21 = .ok (.goto 4, 3) := by decide +kernel
theorem dX6_hasItems_24 : decode cX6_hasItems 24 = .ok (.iconst 0, 1) := by decide +kernel
theorem dX6_hasItems_25 : decode cX6_hasItems 25 = .ok (.ireturn, 1) := by decide +kernel
theorem dX6_allWithin_0 : decode cX6_allWithin 0 = .ok (.iload_n 2, 1) := by decide +kernel
theorem dX6_allWithin_1 : decode cX6_allWithin 1 = .ok (.istore 5, 2) := by decide +kernel
theorem dX6_allWithin_3 : decode cX6_allWithin 3 = .ok (.iload 5, 2) := by decide +kernel
theorem dX6_allWithin_5 : decode cX6_allWithin 5 = .ok (.iload_n 2, 1) := by decide +kernel
theorem dX6_allWithin_6 : decode cX6_allWithin 6 = .ok (.iload_n 3, 1) := by decide +kernel
theorem dX6_allWithin_7 : decode cX6_allWithin 7 = .ok (.iadd, 1) := by decide +kernel
theorem dX6_allWithin_8 : decode cX6_allWithin 8 = .ok (.if_icmp .ge 27, 3) := by decide +kernel
theorem dX6_allWithin_11 : decode cX6_allWithin 11 = .ok (.aload_n 0, 1) := by decide +kernel
theorem dX6_allWithin_12 : decode cX6_allWithin 12 = .ok (.iload_n 1, 1) := by decide +kernel
theorem dX6_allWithin_13 : decode cX6_allWithin 13 = .ok (.iload 5, 2) := by decide +kernel
theorem dX6_allWithin_15 : decode cX6_allWithin 15 = .ok (.invokevirtual 25, 3) := by decide +kernel
theorem dX6_allWithin_18 : decode cX6_allWithin 18 = .ok (.iconst 0, 1) := by decide +kernel
theorem dX6_allWithin_19 : decode cX6_allWithin 19 = .ok (.iload 4, 2) := by decide +kernel
theorem dX6_allWithin_21 : decode cX6_allWithin 21 = .ok (.invokestatic 19, 3) := by decide +kernel
theorem dX6_allWithin_24 : decode cX6_allWithin 24 = .ok (.ifCond .ne 5, 3) := by decide +kernel
theorem dX6_allWithin_27 : decode cX6_allWithin 27 = .ok (.iconst 0, 1) := by decide +kernel
theorem dX6_allWithin_28 : decode cX6_allWithin 28 = .ok (.ireturn, 1) := by decide +kernel
theorem dX6_allWithin_29 : decode cX6_allWithin 29 = .ok (.iinc 5 1, 3) := by decide +kernel
theorem dX6_allWithin_32 : decode cX6_allWithin 32 = .ok (.goto (-29), 3) := by decide +kernel
theorem dX6_allWithin_35 : decode cX6_allWithin 35 = .ok (.iconst 1, 1) := by decide +kernel
theorem dX6_allWithin_36 : decode cX6_allWithin 36 = .ok (.ireturn, 1) := by decide +kernel
theorem dX6_laneOf_0 : decode cX6_laneOf 0 = .ok (.aload_n 0, 1) := by decide +kernel
theorem dX6_laneOf_1 : decode cX6_laneOf 1 = .ok (.getfield 9, 3) := by decide +kernel
theorem dX6_laneOf_4 : decode cX6_laneOf 4 = .ok (.iload_n 1, 1) := by decide +kernel
theorem dX6_laneOf_5 : decode cX6_laneOf 5 = .ok (.iaload, 1) := by decide +kernel
theorem dX6_laneOf_6 : decode cX6_laneOf 6 = .ok (.ireturn, 1) := by decide +kernel
theorem dX6_item_0 : decode cX6_item 0 = .ok (.aload_n 0, 1) := by decide +kernel
theorem dX6_item_1 : decode cX6_item 1 = .ok (.getfield 16, 3) := by decide +kernel
theorem dX6_item_4 : decode cX6_item 4 = .ok (.iload_n 1, 1) := by decide +kernel
theorem dX6_item_5 : decode cX6_item 5 = .ok (.sipush 144, 3) := by decide +kernel
theorem dX6_item_8 : decode cX6_item 8 = .ok (.imul, 1) := by decide +kernel
theorem dX6_item_9 : decode cX6_item 9 = .ok (.iload_n 2, 1) := by decide +kernel
theorem dX6_item_10 : decode cX6_item 10 = .ok (.iadd, 1) := by decide +kernel
theorem dX6_item_11 : decode cX6_item 11 = .ok (.iaload, 1) := by decide +kernel
theorem dX6_item_12 : decode cX6_item 12 = .ok (.ireturn, 1) := by decide +kernel
theorem dX6_lay_0 : decode cX6_lay 0 = .ok (.aload_n 0, 1) := by decide +kernel
theorem dX6_lay_1 : decode cX6_lay 1 = .ok (.getfield 9, 3) := by decide +kernel
theorem dX6_lay_4 : decode cX6_lay 4 = .ok (.iload_n 1, 1) := by decide +kernel
theorem dX6_lay_5 : decode cX6_lay 5 = .ok (.iload_n 2, 1) := by decide +kernel
theorem dX6_lay_6 : decode cX6_lay 6 = .ok (.iastore, 1) := by decide +kernel
theorem dX6_lay_7 : decode cX6_lay 7 = .ok (.aload_n 0, 1) := by decide +kernel
theorem dX6_lay_8 : decode cX6_lay 8 = .ok (.getfield 13, 3) := by decide +kernel
theorem dX6_lay_11 : decode cX6_lay 11 = .ok (.iload_n 1, 1) := by decide +kernel
theorem dX6_lay_12 : decode cX6_lay 12 = .ok (.iload_n 3, 1) := by decide +kernel
theorem dX6_lay_13 : decode cX6_lay 13 = .ok (.iastore, 1) := by decide +kernel
theorem dX6_lay_14 : decode cX6_lay 14 = .ok (.iconst 0, 1) := by decide +kernel
theorem dX6_lay_15 : decode cX6_lay 15 = .ok (.istore 4, 2) := by decide +kernel
theorem dX6_lay_17 : decode cX6_lay 17 = .ok (.iload 4, 2) := by decide +kernel
theorem dX6_lay_19 : decode cX6_lay 19 = .ok (.iload_n 3, 1) := by decide +kernel
theorem dX6_lay_20 : decode cX6_lay 20 = .ok (.if_icmp .ge 23, 3) := by decide +kernel
theorem dX6_lay_23 : decode cX6_lay 23 = .ok (.aload_n 0, 1) := by decide +kernel
theorem dX6_lay_24 : decode cX6_lay 24 = .ok (.getfield 16, 3) := by decide +kernel
theorem dX6_lay_27 : decode cX6_lay 27 = .ok (.iload_n 1, 1) := by decide +kernel
theorem dX6_lay_28 : decode cX6_lay 28 = .ok (.sipush 144, 3) := by decide +kernel
theorem dX6_lay_31 : decode cX6_lay 31 = .ok (.imul, 1) := by decide +kernel
theorem dX6_lay_32 : decode cX6_lay 32 = .ok (.iload 4, 2) := by decide +kernel
theorem dX6_lay_34 : decode cX6_lay 34 = .ok (.iadd, 1) := by decide +kernel
theorem dX6_lay_35 : decode cX6_lay 35 = .ok (.iconst 0, 1) := by decide +kernel
theorem dX6_lay_36 : decode cX6_lay 36 = .ok (.iastore, 1) := by decide +kernel
theorem dX6_lay_37 : decode cX6_lay 37 = .ok (.iinc 4 1, 3) := by decide +kernel
theorem dX6_lay_40 : decode cX6_lay 40 = .ok (.goto (-23), 3) := by decide +kernel
theorem dX6_lay_43 : decode cX6_lay 43 = .ok (.return_, 1) := by decide +kernel
theorem dX6_put_0 : decode cX6_put 0 = .ok (.aload_n 0, 1) := by decide +kernel
theorem dX6_put_1 : decode cX6_put 1 = .ok (.getfield 16, 3) := by decide +kernel
theorem dX6_put_4 : decode cX6_put 4 = .ok (.iload_n 1, 1) := by decide +kernel
theorem dX6_put_5 : decode cX6_put 5 = .ok (.sipush 144, 3) := by decide +kernel
theorem dX6_put_8 : decode cX6_put 8 = .ok (.imul, 1) := by decide +kernel
theorem dX6_put_9 : decode cX6_put 9 = .ok (.iload_n 2, 1) := by decide +kernel
theorem dX6_put_10 : decode cX6_put 10 = .ok (.iadd, 1) := by decide +kernel
theorem dX6_put_11 : decode cX6_put 11 = .ok (.aload_n 0, 1) := by decide +kernel
theorem dX6_put_12 : decode cX6_put 12 = .ok (.getfield 9, 3) := by decide +kernel
theorem dX6_put_15 : decode cX6_put 15 = .ok (.iload_n 1, 1) := by decide +kernel
theorem dX6_put_16 : decode cX6_put 16 = .ok (.iaload, 1) := by decide +kernel
theorem dX6_put_17 : decode cX6_put 17 = .ok (.iload_n 3, 1) := by decide +kernel
theorem dX6_put_18 : decode cX6_put 18 = .ok (.invokestatic 29, 3) := by decide +kernel
theorem dX6_put_21 : decode cX6_put 21 = .ok (.iastore, 1) := by decide +kernel
theorem dX6_put_22 : decode cX6_put 22 = .ok (.return_, 1) := by decide +kernel
theorem dX6_carry_0 : decode cX6_carry 0 = .ok (.aload_n 0, 1) := by decide +kernel
theorem dX6_carry_1 : decode cX6_carry 1 = .ok (.getfield 16, 3) := by decide +kernel
theorem dX6_carry_4 : decode cX6_carry 4 = .ok (.iload_n 1, 1) := by decide +kernel
theorem dX6_carry_5 : decode cX6_carry 5 = .ok (.sipush 144, 3) := by decide +kernel
theorem dX6_carry_8 : decode cX6_carry 8 = .ok (.imul, 1) := by decide +kernel
theorem dX6_carry_9 : decode cX6_carry 9 = .ok (.iload_n 2, 1) := by decide +kernel
theorem dX6_carry_10 : decode cX6_carry 10 = .ok (.iadd, 1) := by decide +kernel
theorem dX6_carry_11 : decode cX6_carry 11 = .ok (.aload_n 0, 1) := by decide +kernel
theorem dX6_carry_12 : decode cX6_carry 12 = .ok (.getfield 16, 3) := by decide +kernel
theorem dX6_carry_15 : decode cX6_carry 15 = .ok (.iload_n 3, 1) := by decide +kernel
theorem dX6_carry_16 : decode cX6_carry 16 = .ok (.sipush 144, 3) := by decide +kernel
theorem dX6_carry_19 : decode cX6_carry 19 = .ok (.imul, 1) := by decide +kernel
theorem dX6_carry_20 : decode cX6_carry 20 = .ok (.iload 4, 2) := by decide +kernel
theorem dX6_carry_22 : decode cX6_carry 22 = .ok (.iadd, 1) := by decide +kernel
theorem dX6_carry_23 : decode cX6_carry 23 = .ok (.iload 5, 2) := by decide +kernel
theorem dX6_carry_25 : decode cX6_carry 25 = .ok (.invokestatic 32, 3) := by decide +kernel
theorem dX6_carry_28 : decode cX6_carry 28 = .ok (.return_, 1) := by decide +kernel
theorem dX6_takeAway_0 : decode cX6_takeAway 0 = .ok (.aload_n 0, 1) := by decide +kernel
theorem dX6_takeAway_1 : decode cX6_takeAway 1 = .ok (.getfield 13, 3) := by decide +kernel
theorem dX6_takeAway_4 : decode cX6_takeAway 4 = .ok (.iload_n 1, 1) := by decide +kernel
theorem dX6_takeAway_5 : decode cX6_takeAway 5 = .ok (.iaload, 1) := by decide +kernel
theorem dX6_takeAway_6 : decode cX6_takeAway 6 = .ok (.istore_n 2, 1) := by decide +kernel
theorem dX6_takeAway_7 : decode cX6_takeAway 7 = .ok (.aload_n 0, 1) := by decide +kernel
theorem dX6_takeAway_8 : decode cX6_takeAway 8 = .ok (.getfield 13, 3) := by decide +kernel
theorem dX6_takeAway_11 : decode cX6_takeAway 11 = .ok (.iload_n 1, 1) := by decide +kernel
theorem dX6_takeAway_12 : decode cX6_takeAway 12 = .ok (.iconst (-1), 1) := by decide +kernel
theorem dX6_takeAway_13 : decode cX6_takeAway 13 = .ok (.iastore, 1) := by decide +kernel
theorem dX6_takeAway_14 : decode cX6_takeAway 14 = .ok (.iload_n 2, 1) := by decide +kernel
theorem dX6_takeAway_15 : decode cX6_takeAway 15 = .ok (.ireturn, 1) := by decide +kernel
theorem dX6_many_0 : decode cX6_many 0 = .ok (.iconst 0, 1) := by decide +kernel
theorem dX6_many_1 : decode cX6_many 1 = .ok (.istore_n 1, 1) := by decide +kernel
theorem dX6_many_2 : decode cX6_many 2 = .ok (.iconst 0, 1) := by decide +kernel
theorem dX6_many_3 : decode cX6_many 3 = .ok (.istore_n 2, 1) := by decide +kernel
theorem dX6_many_4 : decode cX6_many 4 = .ok (.iload_n 2, 1) := by decide +kernel
theorem dX6_many_5 : decode cX6_many 5 = .ok (.bipush 8, 2) := by decide +kernel
theorem dX6_many_7 : decode cX6_many 7 = .ok (.if_icmp .ge 20, 3) := by decide +kernel
theorem dX6_many_10 : decode cX6_many 10 = .ok (.aload_n 0, 1) := by decide +kernel
theorem dX6_many_11 : decode cX6_many 11 = .ok (.iload_n 2, 1) := by decide +kernel
theorem dX6_many_12 : decode cX6_many 12 = .ok (.invokevirtual 38, 3) := by decide +kernel
theorem dX6_many_15 : decode cX6_many 15 = .ok (.ifCond .ne 6, 3) := by decide +kernel
theorem dX6_many_18 : decode cX6_many 18 = .ok (.iinc 1 1, 3) := by decide +kernel
theorem dX6_many_21 : decode cX6_many 21 = .ok (.iinc 2 1, 3) := by decide +kernel
theorem dX6_many_24 : decode cX6_many 24 = .ok (.goto (-20), 3) := by decide +kernel
theorem dX6_many_27 : decode cX6_many 27 = .ok (.iload_n 1, 1) := by decide +kernel
theorem dX6_many_28 : decode cX6_many 28 = .ok (.ireturn, 1) := by decide +kernel
theorem dX6_cutToLane_0 : decode cX6_cutToLane 0 = .ok (.iload_n 0, 1) := by decide +kernel
theorem dX6_cutToLane_1 : decode cX6_cutToLane 1 = .ok (.ifCond .ne 6, 3) := by decide +kernel
theorem dX6_cutToLane_4 : decode cX6_cutToLane 4 = .ok (.iload_n 1, 1) := by decide +kernel
theorem dX6_cutToLane_5 : decode cX6_cutToLane 5 = .ok (.i2b, 1) := by decide +kernel
theorem dX6_cutToLane_6 : decode cX6_cutToLane 6 = .ok (.ireturn, 1) := by decide +kernel
theorem dX6_cutToLane_7 : decode cX6_cutToLane 7 = .ok (.iload_n 0, 1) := by decide +kernel
theorem dX6_cutToLane_8 : decode cX6_cutToLane 8 = .ok (.iconst 1, 1) := by decide +kernel
theorem dX6_cutToLane_9 : decode cX6_cutToLane 9 = .ok (.if_icmp .ne 8, 3) := by decide +kernel
theorem dX6_cutToLane_12 : decode cX6_cutToLane 12 = .ok (.iload_n 1, 1) := by decide +kernel
theorem dX6_cutToLane_13 : decode cX6_cutToLane 13 = .ok (.i2s, 1) := by decide +kernel
theorem dX6_cutToLane_14 : decode cX6_cutToLane 14 = .ok (.goto 4, 3) := by decide +kernel
theorem dX6_cutToLane_17 : decode cX6_cutToLane 17 = .ok (.iload_n 1, 1) := by decide +kernel
theorem dX6_cutToLane_18 : decode cX6_cutToLane 18 = .ok (.ireturn, 1) := by decide +kernel
theorem dX7_init_0 : decode cX7_init 0 = .ok (.aload_n 0, 1) := by decide +kernel
theorem dX7_init_1 : decode cX7_init 1 = .ok (.invokespecial 3, 3) := by decide +kernel
theorem dX7_init_4 : decode cX7_init 4 = .ok (.aload_n 0, 1) := by decide +kernel
theorem dX7_init_5 : decode cX7_init 5 = .ok (.iconst 0, 1) := by decide +kernel
theorem dX7_init_6 : decode cX7_init 6 = .ok (.putfield 9, 3) := by decide +kernel
theorem dX7_init_9 : decode cX7_init 9 = .ok (.aload_n 0, 1) := by decide +kernel
theorem dX7_init_10 : decode cX7_init 10 = .ok (.bipush 72, 2) := by decide +kernel
theorem dX7_init_12 : decode cX7_init 12 = .ok (.newarray .int, 2) := by decide +kernel
theorem dX7_init_14 : decode cX7_init 14 = .ok (.putfield 15, 3) := by decide +kernel
theorem dX7_init_17 : decode cX7_init 17 = .ok (.aload_n 0, 1) := by decide +kernel
theorem dX7_init_18 : decode cX7_init 18 = .ok (.aload_n 1, 1) := by decide +kernel
theorem dX7_init_19 : decode cX7_init 19 = .ok (.putfield 19, 3) := by decide +kernel
theorem dX7_init_22 : decode cX7_init 22 = .ok (.return_, 1) := by decide +kernel
theorem dX7_many_0 : decode cX7_many 0 = .ok (.aload_n 0, 1) := by decide +kernel
theorem dX7_many_1 : decode cX7_many 1 = .ok (.getfield 9, 3) := by decide +kernel
theorem dX7_many_4 : decode cX7_many 4 = .ok (.ireturn, 1) := by decide +kernel
theorem dX7_isFull_0 : decode cX7_isFull 0 = .ok (.aload_n 0, 1) := by decide +kernel
theorem dX7_isFull_1 : decode cX7_isFull 1 = .ok (.getfield 9, 3) := by decide +kernel
theorem dX7_isFull_4 : decode cX7_isFull 4 = .ok (.bipush 24, 2) := by decide +kernel
theorem dX7_isFull_6 : decode cX7_isFull 6 = .ok (.if_icmp .lt 7, 3) := by decide +kernel
theorem dX7_isFull_9 : decode cX7_isFull 9 = .ok (.iconst 1, 1) := by decide +kernel
theorem dX7_isFull_10 : decode cX7_isFull 10 = .ok (.goto 4, 3) := by decide +kernel
theorem dX7_isFull_13 : decode cX7_isFull 13 = .ok (.iconst 0, 1) := by decide +kernel
theorem dX7_isFull_14 : decode cX7_isFull 14 = .ok (.ireturn, 1) := by decide +kernel
theorem dX7_isThird_0 : decode cX7_isThird 0 = .ok (.iload_n 1, 1) := by decide +kernel
theorem dX7_isThird_1 : decode cX7_isThird 1 = .ok (.ifCond .lt 15, 3) := by decide +kernel
theorem dX7_isThird_4 : decode cX7_isThird 4 = .ok (.iload_n 1, 1) := by decide +kernel
theorem dX7_isThird_5 : decode cX7_isThird 5 = .ok (.aload_n 0, 1) := by decide +kernel
theorem dX7_isThird_6 : decode cX7_isThird 6 = .ok (.getfield 9, 3) := by decide +kernel
theorem dX7_isThird_9 : decode cX7_isThird 9 = .ok (.if_icmp .ge 7, 3) := by decide +kernel
theorem dX7_isThird_12 : decode cX7_isThird 12 = .ok (.iconst 1, 1) := by decide +kernel
theorem dX7_isThird_13 : decode cX7_isThird 13 = .ok (.goto 4, 3) := by decide +kernel
theorem dX7_isThird_16 : decode cX7_isThird 16 = .ok (.iconst 0, 1) := by decide +kernel
theorem dX7_isThird_17 : decode cX7_isThird 17 = .ok (.ireturn, 1) := by decide +kernel
theorem dX7_add_0 : decode cX7_add 0 = .ok (.aload_n 0, 1) := by decide +kernel
theorem dX7_add_1 : decode cX7_add 1 = .ok (.getfield 9, 3) := by decide +kernel
theorem dX7_add_4 : decode cX7_add 4 = .ok (.istore 4, 2) := by decide +kernel
theorem dX7_add_6 : decode cX7_add 6 = .ok (.aload_n 0, 1) := by decide +kernel
theorem dX7_add_7 : decode cX7_add 7 = .ok (.dup, 1) := by decide +kernel
theorem dX7_add_8 : decode cX7_add 8 = .ok (.getfield 9, 3) := by decide +kernel
theorem dX7_add_11 : decode cX7_add 11 = .ok (.iconst 1, 1) := by decide +kernel
theorem dX7_add_12 : decode cX7_add 12 = .ok (.iadd, 1) := by decide +kernel
theorem dX7_add_13 : decode cX7_add 13 = .ok (.putfield 9, 3) := by decide +kernel
theorem dX7_add_16 : decode cX7_add 16 = .ok (.aload_n 0, 1) := by decide +kernel
theorem dX7_add_17 : decode cX7_add 17 = .ok (.getfield 15, 3) := by decide +kernel
theorem dX7_add_20 : decode cX7_add 20 = .ok (.iconst 3, 1) := by decide +kernel
theorem dX7_add_21 : decode cX7_add 21 = .ok (.iload 4, 2) := by decide +kernel
theorem dX7_add_23 : decode cX7_add 23 = .ok (.imul, 1) := by decide +kernel
theorem dX7_add_24 : decode cX7_add 24 = .ok (.iload_n 1, 1) := by decide +kernel
theorem dX7_add_25 : decode cX7_add 25 = .ok (.iastore, 1) := by decide +kernel
theorem dX7_add_26 : decode cX7_add 26 = .ok (.aload_n 0, 1) := by decide +kernel
theorem dX7_add_27 : decode cX7_add 27 = .ok (.getfield 15, 3) := by decide +kernel
theorem dX7_add_30 : decode cX7_add 30 = .ok (.iconst 3, 1) := by decide +kernel
theorem dX7_add_31 : decode cX7_add 31 = .ok (.iload 4, 2) := by decide +kernel
theorem dX7_add_33 : decode cX7_add 33 = .ok (.imul, 1) := by decide +kernel
theorem dX7_add_34 : decode cX7_add 34 = .ok (.iconst 1, 1) := by decide +kernel
theorem dX7_add_35 : decode cX7_add 35 = .ok (.iadd, 1) := by decide +kernel
theorem dX7_add_36 : decode cX7_add 36 = .ok (.iload_n 2, 1) := by decide +kernel
theorem dX7_add_37 : decode cX7_add 37 = .ok (.iastore, 1) := by decide +kernel
theorem dX7_add_38 : decode cX7_add 38 = .ok (.aload_n 0, 1) := by decide +kernel
theorem dX7_add_39 : decode cX7_add 39 = .ok (.getfield 15, 3) := by decide +kernel
theorem dX7_add_42 : decode cX7_add 42 = .ok (.iconst 3, 1) := by decide +kernel
theorem dX7_add_43 : decode cX7_add 43 = .ok (.iload 4, 2) := by decide +kernel
theorem dX7_add_45 : decode cX7_add 45 = .ok (.imul, 1) := by decide +kernel
theorem dX7_add_46 : decode cX7_add 46 = .ok (.iconst 2, 1) := by decide +kernel
theorem dX7_add_47 : decode cX7_add 47 = .ok (.iadd, 1) := by decide +kernel
theorem dX7_add_48 : decode cX7_add 48 = .ok (.iload_n 3, 1) := by decide +kernel
theorem dX7_add_49 : decode cX7_add 49 = .ok (.iastore, 1) := by decide +kernel
theorem dX7_add_50 : decode cX7_add 50 = .ok (.iload 4, 2) := by decide +kernel
theorem dX7_add_52 : decode cX7_add 52 = .ok (.ireturn, 1) := by decide +kernel
theorem dX7_corner_0 : decode cX7_corner 0 = .ok (.aload_n 0, 1) := by decide +kernel
theorem dX7_corner_1 : decode cX7_corner 1 = .ok (.getfield 15, 3) := by decide +kernel
theorem dX7_corner_4 : decode cX7_corner 4 = .ok (.iconst 3, 1) := by decide +kernel
theorem dX7_corner_5 : decode cX7_corner 5 = .ok (.iload_n 1, 1) := by decide +kernel
theorem dX7_corner_6 : decode cX7_corner 6 = .ok (.imul, 1) := by decide +kernel
theorem dX7_corner_7 : decode cX7_corner 7 = .ok (.iload_n 2, 1) := by decide +kernel
theorem dX7_corner_8 : decode cX7_corner 8 = .ok (.iadd, 1) := by decide +kernel
theorem dX7_corner_9 : decode cX7_corner 9 = .ok (.iaload, 1) := by decide +kernel
theorem dX7_corner_10 : decode cX7_corner 10 = .ok (.ireturn, 1) := by decide +kernel
theorem dX7_touches_0 : decode cX7_touches 0 = .ok (.aload_n 0, 1) := by decide +kernel
theorem dX7_touches_1 : decode cX7_touches 1 = .ok (.iload_n 1, 1) := by decide +kernel
theorem dX7_touches_2 : decode cX7_touches 2 = .ok (.iconst 0, 1) := by decide +kernel
theorem dX7_touches_3 : decode cX7_touches 3 = .ok (.invokevirtual 23, 3) := by decide +kernel
theorem dX7_touches_6 : decode cX7_touches 6 = .ok (.iload_n 2, 1) := by decide +kernel
theorem dX7_touches_7 : decode cX7_touches 7 = .ok (.if_icmp .eq 23, 3) := by decide +kernel
theorem dX7_touches_10 : decode cX7_touches 10 = .ok (.aload_n 0, 1) := by decide +kernel
theorem dX7_touches_11 : decode cX7_touches 11 = .ok (.iload_n 1, 1) := by decide +kernel
theorem dX7_touches_12 : decode cX7_touches 12 = .ok (.iconst 1, 1) := by decide +kernel
theorem dX7_touches_13 : decode cX7_touches 13 = .ok (.invokevirtual 23, 3) := by decide +kernel
theorem dX7_touches_16 : decode cX7_touches 16 = .ok (.iload_n 2, 1) := by decide +kernel
theorem dX7_touches_17 : decode cX7_touches 17 = .ok (.if_icmp .eq 13, 3) := by decide +kernel
theorem dX7_touches_20 : decode cX7_touches 20 = .ok (.aload_n 0, 1) := by decide +kernel
theorem dX7_touches_21 : decode cX7_touches 21 = .ok (.iload_n 1, 1) := by decide +kernel
theorem dX7_touches_22 : decode cX7_touches 22 = .ok (.iconst 2, 1) := by decide +kernel
theorem dX7_touches_23 : decode cX7_touches 23 = .ok (.invokevirtual 23, 3) := by decide +kernel
theorem dX7_touches_26 : decode cX7_touches 26 = .ok (.iload_n 2, 1) := by decide +kernel
theorem dX7_touches_27 : decode cX7_touches 27 = .ok (.if_icmp .ne 7, 3) := by decide +kernel
theorem dX7_touches_30 : decode cX7_touches 30 = .ok (.iconst 1, 1) := by decide +kernel
theorem dX7_touches_31 : decode cX7_touches 31 = .ok (.goto 4, 3) := by decide +kernel
theorem dX7_touches_34 : decode cX7_touches 34 = .ok (.iconst 0, 1) := by decide +kernel
theorem dX7_touches_35 : decode cX7_touches 35 = .ok (.ireturn, 1) := by decide +kernel
theorem dX7_areJoined_0 : decode cX7_areJoined 0 = .ok (.iconst 0, 1) := by decide +kernel
theorem dX7_areJoined_1 : decode cX7_areJoined 1 = .ok (.istore 4, 2) := by decide +kernel
theorem dX7_areJoined_3 : decode cX7_areJoined 3 = .ok (.iload 4, 2) := by decide +kernel
theorem dX7_areJoined_5 : decode cX7_areJoined 5 = .ok (.aload_n 0, 1) := by decide +kernel
theorem dX7_areJoined_6 : decode cX7_areJoined 6 = .ok (.getfield 9, 3) := by decide +kernel
theorem dX7_areJoined_9 : decode cX7_areJoined 9 = .ok (.if_icmp .ge 41, 3) := by decide +kernel
theorem dX7_areJoined_12 : decode cX7_areJoined 12 = .ok (.aload_n 0, 1) := by decide +kernel
theorem dX7_areJoined_13 : decode cX7_areJoined 13 = .ok (.iload 4, 2) := by decide +kernel
theorem dX7_areJoined_15 : decode cX7_areJoined 15 = .ok (.iload_n 1, 1) := by decide +kernel
theorem dX7_areJoined_16 : decode cX7_areJoined 16 = .ok (.invokevirtual 27, 3) := by decide +kernel
theorem dX7_areJoined_19 : decode cX7_areJoined 19 = .ok (.ifCond .eq 25, 3) := by decide +kernel
theorem dX7_areJoined_22 : decode cX7_areJoined 22 = .ok (.aload_n 0, 1) := by decide +kernel
theorem dX7_areJoined_23 : decode cX7_areJoined 23 = .ok (.iload 4, 2) := by decide +kernel
theorem dX7_areJoined_25 : decode cX7_areJoined 25 = .ok (.iload_n 2, 1) := by decide +kernel
theorem dX7_areJoined_26 : decode cX7_areJoined 26 = .ok (.invokevirtual 27, 3) := by decide +kernel
theorem dX7_areJoined_29 : decode cX7_areJoined 29 = .ok (.ifCond .eq 15, 3) := by decide +kernel
theorem dX7_areJoined_32 : decode cX7_areJoined 32 = .ok (.aload_n 0, 1) := by decide +kernel
theorem dX7_areJoined_33 : decode cX7_areJoined 33 = .ok (.iload 4, 2) := by decide +kernel
theorem dX7_areJoined_35 : decode cX7_areJoined 35 = .ok (.iload_n 3, 1) := by decide +kernel
theorem dX7_areJoined_36 : decode cX7_areJoined 36 = .ok (.invokevirtual 27, 3) := by decide +kernel
theorem dX7_areJoined_39 : decode cX7_areJoined 39 = .ok (.ifCond .eq 5, 3) := by decide +kernel
theorem dX7_areJoined_42 : decode cX7_areJoined 42 = .ok (.iconst 1, 1) := by decide +kernel
theorem dX7_areJoined_43 : decode cX7_areJoined 43 = .ok (.ireturn, 1) := by decide +kernel
theorem dX7_areJoined_44 : decode cX7_areJoined 44 = .ok (.iinc 4 1, 3) := by decide +kernel
theorem dX7_areJoined_47 : decode cX7_areJoined 47 = .ok (.goto (-44), 3) := by decide +kernel
theorem dX7_areJoined_50 : decode cX7_areJoined 50 = .ok (.iconst 0, 1) := by decide +kernel
theorem dX7_areJoined_51 : decode cX7_areJoined 51 = .ok (.ireturn, 1) := by decide +kernel
theorem dX7_tickArea_0 : decode cX7_tickArea 0 = .ok (.aload_n 0, 1) := by decide +kernel
theorem dX7_tickArea_1 : decode cX7_tickArea 1 = .ok (.iload_n 1, 1) := by decide +kernel
theorem dX7_tickArea_2 : decode cX7_tickArea 2 = .ok (.iconst 0, 1) := by decide +kernel
theorem dX7_tickArea_3 : decode cX7_tickArea 3 = .ok (.invokevirtual 23, 3) := by decide +kernel
theorem dX7_tickArea_6 : decode cX7_tickArea 6 = .ok (.istore 4, 2) := by decide +kernel
theorem dX7_tickArea_8 : decode cX7_tickArea 8 = .ok (.aload_n 0, 1) := by decide +kernel
theorem dX7_tickArea_9 : decode cX7_tickArea 9 = .ok (.iload_n 1, 1) := by decide +kernel
theorem dX7_tickArea_10 : decode cX7_tickArea 10 = .ok (.iconst 1, 1) := by decide +kernel
theorem dX7_tickArea_11 : decode cX7_tickArea 11 = .ok (.invokevirtual 23, 3) := by decide +kernel
theorem dX7_tickArea_14 : decode cX7_tickArea 14 = .ok (.istore 5, 2) := by decide +kernel
theorem dX7_tickArea_16 : decode cX7_tickArea 16 = .ok (.aload_n 0, 1) := by decide +kernel
theorem dX7_tickArea_17 : decode cX7_tickArea 17 = .ok (.iload_n 1, 1) := by decide +kernel
theorem dX7_tickArea_18 : decode cX7_tickArea 18 = .ok (.iconst 2, 1) := by decide +kernel
theorem dX7_tickArea_19 : decode cX7_tickArea 19 = .ok (.invokevirtual 23, 3) := by decide +kernel
theorem dX7_tickArea_22 : decode cX7_tickArea 22 = .ok (.istore 6, 2) := by decide +kernel
theorem dX7_tickArea_24 : decode cX7_tickArea 24 = .ok (.aload_n 0, 1) := by decide +kernel
theorem dX7_tickArea_25 : decode cX7_tickArea 25 = .ok (.getfield 19, 3) := by decide +kernel
theorem dX7_tickArea_28 : decode cX7_tickArea 28 = .ok (.iload 4, 2) := by decide +kernel
theorem dX7_tickArea_30 : decode cX7_tickArea 30 = .ok (.iload_n 2, 1) := by decide +kernel
theorem dX7_tickArea_31 : decode cX7_tickArea 31 = .ok (.iload_n 3, 1) := by decide +kernel
theorem dX7_tickArea_32 : decode cX7_tickArea 32 = .ok (.invokevirtual 31, 3) := by decide +kernel
theorem dX7_tickArea_35 : decode cX7_tickArea 35 = .ok (.i2l, 1) := by decide +kernel
theorem dX7_tickArea_36 : decode cX7_tickArea 36 = .ok (.aload_n 0, 1) := by decide +kernel
theorem dX7_tickArea_37 : decode cX7_tickArea 37 = .ok (.getfield 19, 3) := by decide +kernel
theorem dX7_tickArea_40 : decode cX7_tickArea 40 = .ok (.iload 4, 2) := by decide +kernel
theorem dX7_tickArea_42 : decode cX7_tickArea 42 = .ok (.iload_n 2, 1) := by decide +kernel
theorem dX7_tickArea_43 : decode cX7_tickArea 43 = .ok (.iload_n 3, 1) := by decide +kernel
theorem dX7_tickArea_44 : decode cX7_tickArea 44 = .ok (.invokevirtual 37, 3) := by decide +kernel
theorem dX7_tickArea_47 : decode cX7_tickArea 47 = .ok (.i2l, 1) := by decide +kernel
theorem dX7_tickArea_48 : decode cX7_tickArea 48 = .ok (.aload_n 0, 1) := by decide +kernel
theorem dX7_tickArea_49 : decode cX7_tickArea 49 = .ok (.getfield 19, 3) := by decide +kernel
theorem dX7_tickArea_52 : decode cX7_tickArea 52 = .ok (.iload 5, 2) := by decide +kernel
theorem dX7_tickArea_54 : decode cX7_tickArea 54 = .ok (.iload_n 2, 1) := by decide +kernel
theorem dX7_tickArea_55 : decode cX7_tickArea 55 = .ok (.iload_n 3, 1) := by decide +kernel
theorem dX7_tickArea_56 : decode cX7_tickArea 56 = .ok (.invokevirtual 31, 3) := by decide +kernel
theorem dX7_tickArea_59 : decode cX7_tickArea 59 = .ok (.i2l, 1) := by decide +kernel
theorem dX7_tickArea_60 : decode cX7_tickArea 60 = .ok (.aload_n 0, 1) := by decide +kernel
theorem dX7_tickArea_61 : decode cX7_tickArea 61 = .ok (.getfield 19, 3) := by decide +kernel
theorem dX7_tickArea_64 : decode cX7_tickArea 64 = .ok (.iload 5, 2) := by decide +kernel
theorem dX7_tickArea_66 : decode cX7_tickArea 66 = .ok (.iload_n 2, 1) := by decide +kernel
theorem dX7_tickArea_67 : decode cX7_tickArea 67 = .ok (.iload_n 3, 1) := by decide +kernel
theorem dX7_tickArea_68 : decode cX7_tickArea 68 = .ok (.invokevirtual 37, 3) := by decide +kernel
theorem dX7_tickArea_71 : decode cX7_tickArea 71 = .ok (.i2l, 1) := by decide +kernel
theorem dX7_tickArea_72 : decode cX7_tickArea 72 = .ok (.aload_n 0, 1) := by decide +kernel
theorem dX7_tickArea_73 : decode cX7_tickArea 73 = .ok (.getfield 19, 3) := by decide +kernel
theorem dX7_tickArea_76 : decode cX7_tickArea 76 = .ok (.iload 6, 2) := by decide +kernel
theorem dX7_tickArea_78 : decode cX7_tickArea 78 = .ok (.iload_n 2, 1) := by decide +kernel
theorem dX7_tickArea_79 : decode cX7_tickArea 79 = .ok (.iload_n 3, 1) := by decide +kernel
theorem dX7_tickArea_80 : decode cX7_tickArea 80 = .ok (.invokevirtual 31, 3) := by decide +kernel
theorem dX7_tickArea_83 : decode cX7_tickArea 83 = .ok (.i2l, 1) := by decide +kernel
theorem dX7_tickArea_84 : decode cX7_tickArea 84 = .ok (.aload_n 0, 1) := by decide +kernel
theorem dX7_tickArea_85 : decode cX7_tickArea 85 = .ok (.getfield 19, 3) := by decide +kernel
theorem dX7_tickArea_88 : decode cX7_tickArea 88 = .ok (.iload 6, 2) := by decide +kernel
theorem dX7_tickArea_90 : decode cX7_tickArea 90 = .ok (.iload_n 2, 1) := by decide +kernel
theorem dX7_tickArea_91 : decode cX7_tickArea 91 = .ok (.iload_n 3, 1) := by decide +kernel
theorem dX7_tickArea_92 : decode cX7_tickArea 92 = .ok (.invokevirtual 37, 3) := by decide +kernel
theorem dX7_tickArea_95 : decode cX7_tickArea 95 = .ok (.i2l, 1) := by decide +kernel
theorem dX7_tickArea_96 : decode cX7_tickArea 96 = .ok (.invokestatic 40, 3) := by decide +kernel
theorem dX7_tickArea_99 : decode cX7_tickArea 99 = .ok (.lreturn, 1) := by decide +kernel
theorem dX7_areaIn_0 : decode cX7_areaIn 0 = .ok (.aload_n 0, 1) := by decide +kernel
theorem dX7_areaIn_1 : decode cX7_areaIn 1 = .ok (.iload_n 1, 1) := by decide +kernel
theorem dX7_areaIn_2 : decode cX7_areaIn 2 = .ok (.iconst 0, 1) := by decide +kernel
theorem dX7_areaIn_3 : decode cX7_areaIn 3 = .ok (.invokevirtual 23, 3) := by decide +kernel
theorem dX7_areaIn_6 : decode cX7_areaIn 6 = .ok (.istore_n 3, 1) := by decide +kernel
theorem dX7_areaIn_7 : decode cX7_areaIn 7 = .ok (.aload_n 0, 1) := by decide +kernel
theorem dX7_areaIn_8 : decode cX7_areaIn 8 = .ok (.iload_n 1, 1) := by decide +kernel
theorem dX7_areaIn_9 : decode cX7_areaIn 9 = .ok (.iconst 1, 1) := by decide +kernel
theorem dX7_areaIn_10 : decode cX7_areaIn 10 = .ok (.invokevirtual 23, 3) := by decide +kernel
theorem dX7_areaIn_13 : decode cX7_areaIn 13 = .ok (.istore 4, 2) := by decide +kernel
theorem dX7_areaIn_15 : decode cX7_areaIn 15 = .ok (.aload_n 0, 1) := by decide +kernel
theorem dX7_areaIn_16 : decode cX7_areaIn 16 = .ok (.iload_n 1, 1) := by decide +kernel
theorem dX7_areaIn_17 : decode cX7_areaIn 17 = .ok (.iconst 2, 1) := by decide +kernel
theorem dX7_areaIn_18 : decode cX7_areaIn 18 = .ok (.invokevirtual 23, 3) := by decide +kernel
theorem dX7_areaIn_21 : decode cX7_areaIn 21 = .ok (.istore 5, 2) := by decide +kernel
theorem dX7_areaIn_23 : decode cX7_areaIn 23 = .ok (.aload_n 0, 1) := by decide +kernel
theorem dX7_areaIn_24 : decode cX7_areaIn 24 = .ok (.getfield 19, 3) := by decide +kernel
theorem dX7_areaIn_27 : decode cX7_areaIn 27 = .ok (.iload_n 3, 1) := by decide +kernel
theorem dX7_areaIn_28 : decode cX7_areaIn 28 = .ok (.iload_n 2, 1) := by decide +kernel
theorem dX7_areaIn_29 : decode cX7_areaIn 29 = .ok (.invokevirtual 44, 3) := by decide +kernel
theorem dX7_areaIn_32 : decode cX7_areaIn 32 = .ok (.i2l, 1) := by decide +kernel
theorem dX7_areaIn_33 : decode cX7_areaIn 33 = .ok (.aload_n 0, 1) := by decide +kernel
theorem dX7_areaIn_34 : decode cX7_areaIn 34 = .ok (.getfield 19, 3) := by decide +kernel
theorem dX7_areaIn_37 : decode cX7_areaIn 37 = .ok (.iload_n 3, 1) := by decide +kernel
theorem dX7_areaIn_38 : decode cX7_areaIn 38 = .ok (.iload_n 2, 1) := by decide +kernel
theorem dX7_areaIn_39 : decode cX7_areaIn 39 = .ok (.invokevirtual 47, 3) := by decide +kernel
theorem dX7_areaIn_42 : decode cX7_areaIn 42 = .ok (.i2l, 1) := by decide +kernel
theorem dX7_areaIn_43 : decode cX7_areaIn 43 = .ok (.aload_n 0, 1) := by decide +kernel
theorem dX7_areaIn_44 : decode cX7_areaIn 44 = .ok (.getfield 19, 3) := by decide +kernel
theorem dX7_areaIn_47 : decode cX7_areaIn 47 = .ok (.iload 4, 2) := by decide +kernel
theorem dX7_areaIn_49 : decode cX7_areaIn 49 = .ok (.iload_n 2, 1) := by decide +kernel
theorem dX7_areaIn_50 : decode cX7_areaIn 50 = .ok (.invokevirtual 44, 3) := by decide +kernel
theorem dX7_areaIn_53 : decode cX7_areaIn 53 = .ok (.i2l, 1) := by decide +kernel
theorem dX7_areaIn_54 : decode cX7_areaIn 54 = .ok (.aload_n 0, 1) := by decide +kernel
theorem dX7_areaIn_55 : decode cX7_areaIn 55 = .ok (.getfield 19, 3) := by decide +kernel
theorem dX7_areaIn_58 : decode cX7_areaIn 58 = .ok (.iload 4, 2) := by decide +kernel
theorem dX7_areaIn_60 : decode cX7_areaIn 60 = .ok (.iload_n 2, 1) := by decide +kernel
theorem dX7_areaIn_61 : decode cX7_areaIn 61 = .ok (.invokevirtual 47, 3) := by decide +kernel
theorem dX7_areaIn_64 : decode cX7_areaIn 64 = .ok (.i2l, 1) := by decide +kernel
theorem dX7_areaIn_65 : decode cX7_areaIn 65 = .ok (.aload_n 0, 1) := by decide +kernel
theorem dX7_areaIn_66 : decode cX7_areaIn 66 = .ok (.getfield 19, 3) := by decide +kernel
theorem dX7_areaIn_69 : decode cX7_areaIn 69 = .ok (.iload 5, 2) := by decide +kernel
theorem dX7_areaIn_71 : decode cX7_areaIn 71 = .ok (.iload_n 2, 1) := by decide +kernel
theorem dX7_areaIn_72 : decode cX7_areaIn 72 = .ok (.invokevirtual 44, 3) := by decide +kernel
theorem dX7_areaIn_75 : decode cX7_areaIn 75 = .ok (.i2l, 1) := by decide +kernel
theorem dX7_areaIn_76 : decode cX7_areaIn 76 = .ok (.aload_n 0, 1) := by decide +kernel
theorem dX7_areaIn_77 : decode cX7_areaIn 77 = .ok (.getfield 19, 3) := by decide +kernel
theorem dX7_areaIn_80 : decode cX7_areaIn 80 = .ok (.iload 5, 2) := by decide +kernel
theorem dX7_areaIn_82 : decode cX7_areaIn 82 = .ok (.iload_n 2, 1) := by decide +kernel
theorem dX7_areaIn_83 : decode cX7_areaIn 83 = .ok (.invokevirtual 47, 3) := by decide +kernel
theorem dX7_areaIn_86 : decode cX7_areaIn 86 = .ok (.i2l, 1) := by decide +kernel
theorem dX7_areaIn_87 : decode cX7_areaIn 87 = .ok (.invokestatic 40, 3) := by decide +kernel
theorem dX7_areaIn_90 : decode cX7_areaIn 90 = .ok (.l2i, 1) := by decide +kernel
theorem dX7_areaIn_91 : decode cX7_areaIn 91 = .ok (.ireturn, 1) := by decide +kernel
theorem dX7_isUpright_0 : decode cX7_isUpright 0 = .ok (.aload_n 0, 1) := by decide +kernel
theorem dX7_isUpright_1 : decode cX7_isUpright 1 = .ok (.iload_n 1, 1) := by decide +kernel
theorem dX7_isUpright_2 : decode cX7_isUpright 2 = .ok (.iload_n 2, 1) := by decide +kernel
theorem dX7_isUpright_3 : decode cX7_isUpright 3 = .ok (.iload_n 3, 1) := by decide +kernel
theorem dX7_isUpright_4 : decode cX7_isUpright 4 = .ok (.invokevirtual 50, 3) := by decide +kernel
theorem dX7_isUpright_7 : decode cX7_isUpright 7 = .ok (.lconst 0, 1) := by decide +kernel
theorem dX7_isUpright_8 : decode cX7_isUpright 8 = .ok (.lcmp, 1) := by decide +kernel
theorem dX7_isUpright_9 : decode cX7_isUpright 9 = .ok (.ifCond .le 7, 3) := by decide +kernel
theorem dX7_isUpright_12 : decode cX7_isUpright 12 = .ok (.iconst 1, 1) := by decide +kernel
theorem dX7_isUpright_13 : decode cX7_isUpright 13 = .ok (.goto 4, 3) := by decide +kernel
theorem dX7_isUpright_16 : decode cX7_isUpright 16 = .ok (.iconst 0, 1) := by decide +kernel
theorem dX7_isUpright_17 : decode cX7_isUpright 17 = .ok (.ireturn, 1) := by decide +kernel
theorem dX7_foldTick_0 : decode cX7_foldTick 0 = .ok (.iconst 0, 1) := by decide +kernel
theorem dX7_foldTick_1 : decode cX7_foldTick 1 = .ok (.istore_n 3, 1) := by decide +kernel
theorem dX7_foldTick_2 : decode cX7_foldTick 2 = .ok (.iload_n 3, 1) := by decide +kernel
theorem dX7_foldTick_3 : decode cX7_foldTick 3 = .ok (.iload_n 2, 1) := by decide +kernel
theorem dX7_foldTick_4 : decode cX7_foldTick 4 = .ok (.if_icmp .gt 21, 3) := by decide +kernel
theorem dX7_foldTick_7 : decode cX7_foldTick 7 = .ok (.aload_n 0, 1) := by decide +kernel
theorem dX7_foldTick_8 : decode cX7_foldTick 8 = .ok (.iload_n 1, 1) := by decide +kernel
theorem dX7_foldTick_9 : decode cX7_foldTick 9 = .ok (.iload_n 3, 1) := by decide +kernel
theorem dX7_foldTick_10 : decode cX7_foldTick 10 = .ok (.iload_n 2, 1) := by decide +kernel
theorem dX7_foldTick_11 : decode cX7_foldTick 11 = .ok (.invokevirtual 54, 3) := by decide +kernel
theorem dX7_foldTick_14 : decode cX7_foldTick 14 = .ok (.ifCond .ne 5, 3) := by decide +kernel
theorem dX7_foldTick_17 : decode cX7_foldTick 17 = .ok (.iload_n 3, 1) := by decide +kernel
theorem dX7_foldTick_18 : decode cX7_foldTick 18 = .ok (.ireturn, 1) := by decide +kernel
theorem dX7_foldTick_19 : decode cX7_foldTick 19 = .ok (.iinc 3 1, 3) := by decide +kernel
theorem dX7_foldTick_22 : decode cX7_foldTick 22 = .ok (.goto (-20), 3) := by decide +kernel
theorem dX7_foldTick_25 : decode cX7_foldTick 25 = .ok (.ldc 58, 2) := by decide +kernel
theorem dX7_foldTick_27 : decode cX7_foldTick 27 = .ok (.ireturn, 1) := by decide +kernel
theorem dX7_firstFolded_0 : decode cX7_firstFolded 0 = .ok (.iconst 0, 1) := by decide +kernel
theorem dX7_firstFolded_1 : decode cX7_firstFolded 1 = .ok (.istore_n 2, 1) := by decide +kernel
theorem dX7_firstFolded_2 : decode cX7_firstFolded 2 = .ok (.iload_n 2, 1) := by decide +kernel
theorem dX7_firstFolded_3 : decode cX7_firstFolded 3 = .ok (.iload_n 1, 1) := by decide +kernel
theorem dX7_firstFolded_4 : decode cX7_firstFolded 4 = .ok (.if_icmp .gt 37, 3) := by decide +kernel
theorem dX7_firstFolded_7 : decode cX7_firstFolded 7 = .ok (.iconst 0, 1) := by decide +kernel
theorem dX7_firstFolded_8 : decode cX7_firstFolded 8 = .ok (.istore_n 3, 1) := by decide +kernel
theorem dX7_firstFolded_9 : decode cX7_firstFolded 9 = .ok (.iload_n 3, 1) := by decide +kernel
theorem dX7_firstFolded_10 : decode cX7_firstFolded 10 = .ok (.aload_n 0, 1) := by decide +kernel
theorem dX7_firstFolded_11 : decode cX7_firstFolded 11 = .ok (.getfield 9, 3) := by decide +kernel
theorem dX7_firstFolded_14 : decode cX7_firstFolded 14 = .ok (.if_icmp .ge 21, 3) := by decide +kernel
theorem dX7_firstFolded_17 : decode cX7_firstFolded 17 = .ok (.aload_n 0, 1) := by decide +kernel
theorem dX7_firstFolded_18 : decode cX7_firstFolded 18 = .ok (.iload_n 3, 1) := by decide +kernel
theorem dX7_firstFolded_19 : decode cX7_firstFolded 19 = .ok (.iload_n 2, 1) := by decide +kernel
theorem dX7_firstFolded_20 : decode cX7_firstFolded 20 = .ok (.iload_n 1, 1) := by decide +kernel
theorem dX7_firstFolded_21 : decode cX7_firstFolded 21 = .ok (.invokevirtual 54, 3) := by decide +kernel
theorem dX7_firstFolded_24 : decode cX7_firstFolded 24 = .ok (.ifCond .ne 5, 3) := by decide +kernel
theorem dX7_firstFolded_27 : decode cX7_firstFolded 27 = .ok (.iload_n 3, 1) := by decide +kernel
theorem dX7_firstFolded_28 : decode cX7_firstFolded 28 = .ok (.ireturn, 1) := by decide +kernel
theorem dX7_firstFolded_29 : decode cX7_firstFolded 29 = .ok (.iinc 3 1, 3) := by decide +kernel
theorem dX7_firstFolded_32 : decode cX7_firstFolded 32 = .ok (.goto (-23), 3) := by decide +kernel
theorem dX7_firstFolded_35 : decode cX7_firstFolded 35 = .ok (.iinc 2 1, 3) := by decide +kernel
theorem dX7_firstFolded_38 : decode cX7_firstFolded 38 = .ok (.goto (-36), 3) := by decide +kernel
theorem dX7_firstFolded_41 : decode cX7_firstFolded 41 = .ok (.ldc 58, 2) := by decide +kernel
theorem dX7_firstFolded_43 : decode cX7_firstFolded 43 = .ok (.ireturn, 1) := by decide +kernel
theorem dX7_sidesOf_0 : decode cX7_sidesOf 0 = .ok (.iconst 0, 1) := by decide +kernel
theorem dX7_sidesOf_1 : decode cX7_sidesOf 1 = .ok (.istore_n 2, 1) := by decide +kernel
theorem dX7_sidesOf_2 : decode cX7_sidesOf 2 = .ok (.iconst 0, 1) := by decide +kernel
theorem dX7_sidesOf_3 : decode cX7_sidesOf 3 = .ok (.istore_n 3, 1) := by decide +kernel
theorem dX7_sidesOf_4 : decode cX7_sidesOf 4 = .ok (.iload_n 3, 1) := by decide +kernel
theorem dX7_sidesOf_5 : decode cX7_sidesOf 5 = .ok (.aload_n 0, 1) := by decide +kernel
theorem dX7_sidesOf_6 : decode cX7_sidesOf 6 = .ok (.getfield 19, 3) := by decide +kernel
theorem dX7_sidesOf_9 : decode cX7_sidesOf 9 = .ok (.invokevirtual 59, 3) := by decide +kernel
theorem dX7_sidesOf_12 : decode cX7_sidesOf 12 = .ok (.if_icmp .ge 46, 3) := by decide +kernel
theorem dX7_sidesOf_15 : decode cX7_sidesOf 15 = .ok (.iload_n 3, 1) := by decide +kernel
theorem dX7_sidesOf_16 : decode cX7_sidesOf 16 = .ok (.iconst 1, 1) := by decide +kernel
theorem dX7_sidesOf_17 : decode cX7_sidesOf 17 = .ok (.iadd, 1) := by decide +kernel
theorem dX7_sidesOf_18 : decode cX7_sidesOf 18 = .ok (.istore 4, 2) := by decide +kernel
theorem dX7_sidesOf_20 : decode cX7_sidesOf 20 = .ok (.iload 4, 2) := by decide +kernel
theorem dX7_sidesOf_22 : decode cX7_sidesOf 22 = .ok (.aload_n 0, 1) := by decide +kernel
theorem dX7_sidesOf_23 : decode cX7_sidesOf 23 = .ok (.getfield 19, 3) := by decide +kernel
theorem dX7_sidesOf_26 : decode cX7_sidesOf 26 = .ok (.invokevirtual 59, 3) := by decide +kernel
theorem dX7_sidesOf_29 : decode cX7_sidesOf 29 = .ok (.if_icmp .ge 23, 3) := by decide +kernel
theorem dX7_sidesOf_32 : decode cX7_sidesOf 32 = .ok (.aload_n 0, 1) := by decide +kernel
theorem dX7_sidesOf_33 : decode cX7_sidesOf 33 = .ok (.iload_n 3, 1) := by decide +kernel
theorem dX7_sidesOf_34 : decode cX7_sidesOf 34 = .ok (.iload 4, 2) := by decide +kernel
theorem dX7_sidesOf_36 : decode cX7_sidesOf 36 = .ok (.invokevirtual 62, 3) := by decide +kernel
theorem dX7_sidesOf_39 : decode cX7_sidesOf 39 = .ok (.iload_n 1, 1) := by decide +kernel
theorem dX7_sidesOf_40 : decode cX7_sidesOf 40 = .ok (.if_icmp .ne 6, 3) := by decide +kernel
theorem dX7_sidesOf_43 : decode cX7_sidesOf 43 = .ok (.iinc 2 1, 3) := by decide +kernel
theorem dX7_sidesOf_46 : decode cX7_sidesOf 46 = .ok (.iinc 4 1, 3) := by decide +kernel
theorem dX7_sidesOf_49 : decode cX7_sidesOf 49 = .ok (.goto (-29), 3) := by decide +kernel
theorem dX7_sidesOf_52 : decode cX7_sidesOf 52 = .ok (.iinc 3 1, 3) := by decide +kernel
theorem dX7_sidesOf_55 : decode cX7_sidesOf 55 = .ok (.goto (-51), 3) := by decide +kernel
theorem dX7_sidesOf_58 : decode cX7_sidesOf 58 = .ok (.iload_n 2, 1) := by decide +kernel
theorem dX7_sidesOf_59 : decode cX7_sidesOf 59 = .ok (.ireturn, 1) := by decide +kernel
theorem dX7_thirdsAtSide_0 : decode cX7_thirdsAtSide 0 = .ok (.iconst 0, 1) := by decide +kernel
theorem dX7_thirdsAtSide_1 : decode cX7_thirdsAtSide 1 = .ok (.istore_n 3, 1) := by decide +kernel
theorem dX7_thirdsAtSide_2 : decode cX7_thirdsAtSide 2 = .ok (.iconst 0, 1) := by decide +kernel
theorem dX7_thirdsAtSide_3 : decode cX7_thirdsAtSide 3 = .ok (.istore 4, 2) := by decide +kernel
theorem dX7_thirdsAtSide_5 : decode cX7_thirdsAtSide 5 = .ok (.iload 4, 2) := by decide +kernel
theorem dX7_thirdsAtSide_7 : decode cX7_thirdsAtSide 7 = .ok (.aload_n 0, 1) := by decide +kernel
theorem dX7_thirdsAtSide_8 : decode cX7_thirdsAtSide 8 = .ok (.getfield 9, 3) := by decide +kernel
theorem dX7_thirdsAtSide_11 : decode cX7_thirdsAtSide 11 = .ok (.if_icmp .ge 32, 3) := by decide +kernel
theorem dX7_thirdsAtSide_14 : decode cX7_thirdsAtSide 14 = .ok (.aload_n 0, 1) := by decide +kernel
theorem dX7_thirdsAtSide_15 : decode cX7_thirdsAtSide 15 = .ok (.iload 4, 2) := by decide +kernel
theorem dX7_thirdsAtSide_17 : decode cX7_thirdsAtSide 17 = .ok (.iload_n 1, 1) := by decide +kernel
theorem dX7_thirdsAtSide_18 : decode cX7_thirdsAtSide 18 = .ok (.invokevirtual 27, 3) := by decide +kernel
theorem dX7_thirdsAtSide_21 : decode cX7_thirdsAtSide 21 = .ok (.ifCond .eq 16, 3) := by decide +kernel
theorem dX7_thirdsAtSide_24 : decode cX7_thirdsAtSide 24 = .ok (.aload_n 0, 1) := by decide +kernel
theorem dX7_thirdsAtSide_25 : decode cX7_thirdsAtSide 25 = .ok (.iload 4, 2) := by decide +kernel
theorem dX7_thirdsAtSide_27 : decode cX7_thirdsAtSide 27 = .ok (.iload_n 2, 1) := by decide +kernel
theorem dX7_thirdsAtSide_28 : decode cX7_thirdsAtSide 28 = .ok (.invokevirtual 27, 3) := by decide +kernel
theorem dX7_thirdsAtSide_31 : decode cX7_thirdsAtSide 31 = .ok (.ifCond .eq 6, 3) := by decide +kernel
theorem dX7_thirdsAtSide_34 : decode cX7_thirdsAtSide 34 = .ok (.iinc 3 1, 3) := by decide +kernel
theorem dX7_thirdsAtSide_37 : decode cX7_thirdsAtSide 37 = .ok (.iinc 4 1, 3) := by decide +kernel
theorem dX7_thirdsAtSide_40 : decode cX7_thirdsAtSide 40 = .ok (.goto (-35), 3) := by decide +kernel
theorem dX7_thirdsAtSide_43 : decode cX7_thirdsAtSide 43 = .ok (.iload_n 3, 1) := by decide +kernel
theorem dX7_thirdsAtSide_44 : decode cX7_thirdsAtSide 44 = .ok (.ireturn, 1) := by decide +kernel
theorem dX7_kindOf_0 : decode cX7_kindOf 0 = .ok (.aload_n 0, 1) := by decide +kernel
theorem dX7_kindOf_1 : decode cX7_kindOf 1 = .ok (.iload_n 1, 1) := by decide +kernel
theorem dX7_kindOf_2 : decode cX7_kindOf 2 = .ok (.iconst 0, 1) := by decide +kernel
theorem dX7_kindOf_3 : decode cX7_kindOf 3 = .ok (.invokevirtual 65, 3) := by decide +kernel
theorem dX7_kindOf_6 : decode cX7_kindOf 6 = .ok (.istore_n 2, 1) := by decide +kernel
theorem dX7_kindOf_7 : decode cX7_kindOf 7 = .ok (.aload_n 0, 1) := by decide +kernel
theorem dX7_kindOf_8 : decode cX7_kindOf 8 = .ok (.iload_n 1, 1) := by decide +kernel
theorem dX7_kindOf_9 : decode cX7_kindOf 9 = .ok (.iconst 1, 1) := by decide +kernel
theorem dX7_kindOf_10 : decode cX7_kindOf 10 = .ok (.invokevirtual 65, 3) := by decide +kernel
theorem dX7_kindOf_13 : decode cX7_kindOf 13 = .ok (.istore_n 3, 1) := by decide +kernel
theorem dX7_kindOf_14 : decode cX7_kindOf 14 = .ok (.iload_n 2, 1) := by decide +kernel
theorem dX7_kindOf_15 : decode cX7_kindOf 15 = .ok (.ifCond .le 21, 3) := by decide +kernel
theorem dX7_kindOf_18 : decode cX7_kindOf 18 = .ok (.iload_n 3, 1) := by decide +kernel
theorem dX7_kindOf_19 : decode cX7_kindOf 19 = .ok (.ifCond .le 17, 3) := by decide +kernel
theorem dX7_kindOf_22 : decode cX7_kindOf 22 = .ok (.aload_n 0, 1) := by decide +kernel
theorem dX7_kindOf_23 : decode cX7_kindOf 23 = .ok (.iload_n 1, 1) := by decide +kernel
theorem dX7_kindOf_24 : decode cX7_kindOf 24 = .ok (.invokevirtual 68, 3) := by decide +kernel
theorem dX7_kindOf_27 : decode cX7_kindOf 27 = .ok (.ifCond .eq 7, 3) := by decide +kernel
theorem dX7_kindOf_30 : decode cX7_kindOf 30 = .ok (.iconst 2, 1) := by decide +kernel
theorem dX7_kindOf_31 : decode cX7_kindOf 31 = .ok (.goto 4, 3) := by decide +kernel
theorem dX7_kindOf_34 : decode cX7_kindOf 34 = .ok (.iconst 1, 1) := by decide +kernel
theorem dX7_kindOf_35 : decode cX7_kindOf 35 = .ok (.ireturn, 1) := by decide +kernel
theorem dX7_kindOf_36 : decode cX7_kindOf 36 = .ok (.iload_n 2, 1) := by decide +kernel
theorem dX7_kindOf_37 : decode cX7_kindOf 37 = .ok (.ifCond .eq 7, 3) := by decide +kernel
theorem dX7_kindOf_40 : decode cX7_kindOf 40 = .ok (.iload_n 3, 1) := by decide +kernel
theorem dX7_kindOf_41 : decode cX7_kindOf 41 = .ok (.ifCond .ne 7, 3) := by decide +kernel
theorem dX7_kindOf_44 : decode cX7_kindOf 44 = .ok (.iconst 3, 1) := by decide +kernel
theorem dX7_kindOf_45 : decode cX7_kindOf 45 = .ok (.goto 4, 3) := by decide +kernel
theorem dX7_kindOf_48 : decode cX7_kindOf 48 = .ok (.iconst 4, 1) := by decide +kernel
theorem dX7_kindOf_49 : decode cX7_kindOf 49 = .ok (.ireturn, 1) := by decide +kernel
theorem dX7_staysWhole_0 : decode cX7_staysWhole 0 = .ok (.aload_n 0, 1) := by decide +kernel
theorem dX7_staysWhole_1 : decode cX7_staysWhole 1 = .ok (.getfield 19, 3) := by decide +kernel
theorem dX7_staysWhole_4 : decode cX7_staysWhole 4 = .ok (.aload_n 0, 1) := by decide +kernel
theorem dX7_staysWhole_5 : decode cX7_staysWhole 5 = .ok (.iload_n 1, 1) := by decide +kernel
theorem dX7_staysWhole_6 : decode cX7_staysWhole 6 = .ok (.iconst 0, 1) := by decide +kernel
theorem dX7_staysWhole_7 : decode cX7_staysWhole 7 = .ok (.invokevirtual 23, 3) := by decide +kernel
theorem dX7_staysWhole_10 : decode cX7_staysWhole 10 = .ok (.invokevirtual 72, 3) := by decide +kernel
theorem dX7_staysWhole_13 : decode cX7_staysWhole 13 = .ok (.ifCond .eq 39, 3) := by decide +kernel
theorem dX7_staysWhole_16 : decode cX7_staysWhole 16 = .ok (.aload_n 0, 1) := by decide +kernel
theorem dX7_staysWhole_17 : decode cX7_staysWhole 17 = .ok (.getfield 19, 3) := by decide +kernel
theorem dX7_staysWhole_20 : decode cX7_staysWhole 20 = .ok (.aload_n 0, 1) := by decide +kernel
theorem dX7_staysWhole_21 : decode cX7_staysWhole 21 = .ok (.iload_n 1, 1) := by decide +kernel
theorem dX7_staysWhole_22 : decode cX7_staysWhole 22 = .ok (.iconst 1, 1) := by decide +kernel
theorem dX7_staysWhole_23 : decode cX7_staysWhole 23 = .ok (.invokevirtual 23, 3) := by decide +kernel
theorem dX7_staysWhole_26 : decode cX7_staysWhole 26 = .ok (.invokevirtual 72, 3) := by decide +kernel
theorem dX7_staysWhole_29 : decode cX7_staysWhole 29 = .ok (.ifCond .eq 23, 3) := by decide +kernel
theorem dX7_staysWhole_32 : decode cX7_staysWhole 32 = .ok (.aload_n 0, 1) := by decide +kernel
theorem dX7_staysWhole_33 : decode cX7_staysWhole 33 = .ok (.getfield 19, 3) := by decide +kernel
theorem dX7_staysWhole_36 : decode cX7_staysWhole 36 = .ok (.aload_n 0, 1) := by decide +kernel
theorem dX7_staysWhole_37 : decode cX7_staysWhole 37 = .ok (.iload_n 1, 1) := by decide +kernel
theorem dX7_staysWhole_38 : decode cX7_staysWhole 38 = .ok (.iconst 2, 1) := by decide +kernel
theorem dX7_staysWhole_39 : decode cX7_staysWhole 39 = .ok (.invokevirtual 23, 3) := by decide +kernel
theorem dX7_staysWhole_42 : decode cX7_staysWhole 42 = .ok (.invokevirtual 72, 3) := by decide +kernel
theorem dX7_staysWhole_45 : decode cX7_staysWhole 45 = .ok (.ifCond .eq 7, 3) := by decide +kernel
theorem dX7_staysWhole_48 : decode cX7_staysWhole 48 = .ok (.iconst 1, 1) := by decide +kernel
theorem dX7_staysWhole_49 : decode cX7_staysWhole 49 = .ok (.goto 4, 3) := by decide +kernel
theorem dX7_staysWhole_52 : decode cX7_staysWhole 52 = .ok (.iconst 0, 1) := by decide +kernel
theorem dX7_staysWhole_53 : decode cX7_staysWhole 53 = .ok (.ireturn, 1) := by decide +kernel
theorem dX7_isOf_0 : decode cX7_isOf 0 = .ok (.aload_n 0, 1) := by decide +kernel
theorem dX7_isOf_1 : decode cX7_isOf 1 = .ok (.iload_n 1, 1) := by decide +kernel
theorem dX7_isOf_2 : decode cX7_isOf 2 = .ok (.invokevirtual 75, 3) := by decide +kernel
theorem dX7_isOf_5 : decode cX7_isOf 5 = .ok (.istore_n 3, 1) := by decide +kernel
theorem dX7_isOf_6 : decode cX7_isOf 6 = .ok (.iload_n 2, 1) := by decide +kernel
theorem dX7_isOf_7 : decode cX7_isOf 7 = .ok (.ifCond .eq 18, 3) := by decide +kernel
theorem dX7_isOf_10 : decode cX7_isOf 10 = .ok (.iload_n 2, 1) := by decide +kernel
theorem dX7_isOf_11 : decode cX7_isOf 11 = .ok (.iload_n 3, 1) := by decide +kernel
theorem dX7_isOf_12 : decode cX7_isOf 12 = .ok (.if_icmp .eq 13, 3) := by decide +kernel
theorem dX7_isOf_15 : decode cX7_isOf 15 = .ok (.iload_n 2, 1) := by decide +kernel
theorem dX7_isOf_16 : decode cX7_isOf 16 = .ok (.iconst 1, 1) := by decide +kernel
theorem dX7_isOf_17 : decode cX7_isOf 17 = .ok (.if_icmp .ne 12, 3) := by decide +kernel
theorem dX7_isOf_20 : decode cX7_isOf 20 = .ok (.iload_n 3, 1) := by decide +kernel
theorem dX7_isOf_21 : decode cX7_isOf 21 = .ok (.iconst 2, 1) := by decide +kernel
theorem dX7_isOf_22 : decode cX7_isOf 22 = .ok (.if_icmp .ne 7, 3) := by decide +kernel
theorem dX7_isOf_25 : decode cX7_isOf 25 = .ok (.iconst 1, 1) := by decide +kernel
theorem dX7_isOf_26 : decode cX7_isOf 26 = .ok (.goto 4, 3) := by decide +kernel
theorem dX7_isOf_29 : decode cX7_isOf 29 = .ok (.iconst 0, 1) := by decide +kernel
theorem dX7_isOf_30 : decode cX7_isOf 30 = .ok (.ireturn, 1) := by decide +kernel
theorem dX7_manyOf_0 : decode cX7_manyOf 0 = .ok (.iconst 0, 1) := by decide +kernel
theorem dX7_manyOf_1 : decode cX7_manyOf 1 = .ok (.istore_n 2, 1) := by decide +kernel
theorem dX7_manyOf_2 : decode cX7_manyOf 2 = .ok (.iconst 0, 1) := by decide +kernel
theorem dX7_manyOf_3 : decode cX7_manyOf 3 = .ok (.istore_n 3, 1) := by decide +kernel
theorem dX7_manyOf_4 : decode cX7_manyOf 4 = .ok (.iload_n 3, 1) := by decide +kernel
theorem dX7_manyOf_5 : decode cX7_manyOf 5 = .ok (.aload_n 0, 1) := by decide +kernel
theorem dX7_manyOf_6 : decode cX7_manyOf 6 = .ok (.getfield 9, 3) := by decide +kernel
theorem dX7_manyOf_9 : decode cX7_manyOf 9 = .ok (.if_icmp .ge 21, 3) := by decide +kernel
theorem dX7_manyOf_12 : decode cX7_manyOf 12 = .ok (.aload_n 0, 1) := by decide +kernel
theorem dX7_manyOf_13 : decode cX7_manyOf 13 = .ok (.iload_n 3, 1) := by decide +kernel
theorem dX7_manyOf_14 : decode cX7_manyOf 14 = .ok (.iload_n 1, 1) := by decide +kernel
theorem dX7_manyOf_15 : decode cX7_manyOf 15 = .ok (.invokevirtual 79, 3) := by decide +kernel
theorem dX7_manyOf_18 : decode cX7_manyOf 18 = .ok (.ifCond .eq 6, 3) := by decide +kernel
theorem dX7_manyOf_21 : decode cX7_manyOf 21 = .ok (.iinc 2 1, 3) := by decide +kernel
theorem dX7_manyOf_24 : decode cX7_manyOf 24 = .ok (.iinc 3 1, 3) := by decide +kernel
theorem dX7_manyOf_27 : decode cX7_manyOf 27 = .ok (.goto (-23), 3) := by decide +kernel
theorem dX7_manyOf_30 : decode cX7_manyOf 30 = .ok (.iload_n 2, 1) := by decide +kernel
theorem dX7_manyOf_31 : decode cX7_manyOf 31 = .ok (.ireturn, 1) := by decide +kernel
