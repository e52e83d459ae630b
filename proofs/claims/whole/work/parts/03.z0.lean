theorem dX0_init_0 : decode cX0_init 0 = .ok (.aload_n 0, 1) := by decide +kernel
theorem dX0_init_1 : decode cX0_init 1 = .ok (.invokespecial 3, 3) := by decide +kernel
theorem dX0_init_4 : decode cX0_init 4 = .ok (.aload_n 0, 1) := by decide +kernel
theorem dX0_init_5 : decode cX0_init 5 = .ok (.bipush 16, 2) := by decide +kernel
theorem dX0_init_7 : decode cX0_init 7 = .ok (.newarray .int, 2) := by decide +kernel
theorem dX0_init_9 : decode cX0_init 9 = .ok (.putfield 11, 3) := by decide +kernel
theorem dX0_init_12 : decode cX0_init 12 = .ok (.return_, 1) := by decide +kernel
theorem dX0_begunAt_0 : decode cX0_begunAt 0 = .ok (.iload_n 1, 1) := by decide +kernel
theorem dX0_begunAt_1 : decode cX0_begunAt 1 = .ok (.ifCond .lt 20, 3) := by decide +kernel
theorem dX0_begunAt_4 : decode cX0_begunAt 4 = .ok (.iload_n 1, 1) := by decide +kernel
theorem dX0_begunAt_5 : decode cX0_begunAt 5 = .ok (.aload_n 0, 1) := by decide +kernel
theorem dX0_begunAt_6 : decode cX0_begunAt 6 = .ok (.getfield 15, 3) := by decide +kernel
theorem dX0_begunAt_9 : decode cX0_begunAt 9 = .ok (.if_icmp .ge 12, 3) := by decide +kernel
theorem dX0_begunAt_12 : decode cX0_begunAt 12 = .ok (.aload_n 0, 1) := by decide +kernel
theorem dX0_begunAt_13 : decode cX0_begunAt 13 = .ok (.getfield 11, 3) := by decide +kernel
theorem dX0_begunAt_16 : decode cX0_begunAt 16 = .ok (.iload_n 1, 1) := by decide +kernel
theorem dX0_begunAt_17 : decode cX0_begunAt 17 = .ok (.iaload, 1) := by decide +kernel
theorem dX0_begunAt_18 : decode cX0_begunAt 18 = .ok (.goto 5, 3) := by decide +kernel
theorem dX0_begunAt_21 : decode cX0_begunAt 21 = .ok (.ldc 19, 2) := by decide +kernel
theorem dX0_begunAt_23 : decode cX0_begunAt 23 = .ok (.ireturn, 1) := by decide +kernel
theorem dX0_begin_0 : decode cX0_begin 0 = .ok (.aload_n 0, 1) := by decide +kernel
theorem dX0_begin_1 : decode cX0_begin 1 = .ok (.getfield 15, 3) := by decide +kernel
theorem dX0_begin_4 : decode cX0_begin 4 = .ok (.bipush 16, 2) := by decide +kernel
theorem dX0_begin_6 : decode cX0_begin 6 = .ok (.if_icmp .ge 23, 3) := by decide +kernel
theorem dX0_begin_9 : decode cX0_begin 9 = .ok (.aload_n 0, 1) := by decide +kernel
theorem dX0_begin_10 : decode cX0_begin 10 = .ok (.getfield 11, 3) := by decide +kernel
theorem dX0_begin_13 : decode cX0_begin 13 = .ok (.aload_n 0, 1) := by decide +kernel
theorem dX0_begin_14 : decode cX0_begin 14 = .ok (.getfield 15, 3) := by decide +kernel
theorem dX0_begin_17 : decode cX0_begin 17 = .ok (.iload_n 1, 1) := by decide +kernel
theorem dX0_begin_18 : decode cX0_begin 18 = .ok (.iastore, 1) := by decide +kernel
theorem dX0_begin_19 : decode cX0_begin 19 = .ok (.aload_n 0, 1) := by decide +kernel
theorem dX0_begin_20 : decode cX0_begin 20 = .ok (.dup, 1) := by decide +kernel
theorem dX0_begin_21 : decode cX0_begin 21 = .ok (.getfield 15, 3) := by decide +kernel
theorem dX0_begin_24 : decode cX0_begin 24 = .ok (.iconst 1, 1) := by decide +kernel
theorem dX0_begin_25 : decode cX0_begin 25 = .ok (.iadd, 1) := by decide +kernel
theorem dX0_begin_26 : decode cX0_begin 26 = .ok (.putfield 15, 3) := by decide +kernel
theorem dX0_begin_29 : decode cX0_begin 29 = .ok (.return_, 1) := by decide +kernel
theorem dX0_sizeOf_0 : decode cX0_sizeOf 0 = .ok (.aload_n 0, 1) := by decide +kernel
theorem dX0_sizeOf_1 : decode cX0_sizeOf 1 = .ok (.iconst 0, 1) := by decide +kernel
theorem dX0_sizeOf_2 : decode cX0_sizeOf 2 = .ok (.putfield 15, 3) := by decide +kernel
theorem dX0_sizeOf_5 : decode cX0_sizeOf 5 = .ok (.aload_n 1, 1) := by decide +kernel
theorem dX0_sizeOf_6 : decode cX0_sizeOf 6 = .ok (.iload_n 2, 1) := by decide +kernel
theorem dX0_sizeOf_7 : decode cX0_sizeOf 7 = .ok (.invokevirtual 20, 3) := by decide +kernel
theorem dX0_sizeOf_10 : decode cX0_sizeOf 10 = .ok (.tableswitch 58 2 5 #[30, 37, 44, 51], 30) := by decide +kernel
theorem dX0_sizeOf_40 : decode cX0_sizeOf 40 = .ok (.aload_n 0, 1) := by decide +kernel
theorem dX0_sizeOf_41 : decode cX0_sizeOf 41 = .ok (.aload_n 1, 1) := by decide +kernel
theorem dX0_sizeOf_42 : decode cX0_sizeOf 42 = .ok (.iload_n 2, 1) := by decide +kernel
theorem dX0_sizeOf_43 : decode cX0_sizeOf 43 = .ok (.invokevirtual 26, 3) := by decide +kernel
theorem dX0_sizeOf_46 : decode cX0_sizeOf 46 = .ok (.ireturn, 1) := by decide +kernel
theorem dX0_sizeOf_47 : decode cX0_sizeOf 47 = .ok (.aload_n 0, 1) := by decide +kernel
theorem dX0_sizeOf_48 : decode cX0_sizeOf 48 = .ok (.aload_n 1, 1) := by decide +kernel
theorem dX0_sizeOf_49 : decode cX0_sizeOf 49 = .ok (.iload_n 2, 1) := by decide +kernel
theorem dX0_sizeOf_50 : decode cX0_sizeOf 50 = .ok (.invokevirtual 30, 3) := by decide +kernel
theorem dX0_sizeOf_53 : decode cX0_sizeOf 53 = .ok (.ireturn, 1) := by decide +kernel
theorem dX0_sizeOf_54 : decode cX0_sizeOf 54 = .ok (.aload_n 0, 1) := by decide +kernel
theorem dX0_sizeOf_55 : decode cX0_sizeOf 55 = .ok (.aload_n 1, 1) := by decide +kernel
theorem dX0_sizeOf_56 : decode cX0_sizeOf 56 = .ok (.iload_n 2, 1) := by decide +kernel
theorem dX0_sizeOf_57 : decode cX0_sizeOf 57 = .ok (.invokevirtual 33, 3) := by decide +kernel
theorem dX0_sizeOf_60 : decode cX0_sizeOf 60 = .ok (.ireturn, 1) := by decide +kernel
theorem dX0_sizeOf_61 : decode cX0_sizeOf 61 = .ok (.aload_n 0, 1) := by decide +kernel
theorem dX0_sizeOf_62 : decode cX0_sizeOf 62 = .ok (.aload_n 1, 1) := by decide +kernel
theorem dX0_sizeOf_63 : decode cX0_sizeOf 63 = .ok (.iload_n 2, 1) := by decide +kernel
theorem dX0_sizeOf_64 : decode cX0_sizeOf 64 = .ok (.invokevirtual 36, 3) := by decide +kernel
theorem dX0_sizeOf_67 : decode cX0_sizeOf 67 = .ok (.ireturn, 1) := by decide +kernel
theorem dX0_sizeOf_68 : decode cX0_sizeOf 68 = .ok (.aload_n 0, 1) := by decide +kernel
theorem dX0_sizeOf_69 : decode cX0_sizeOf 69 = .ok (.invokevirtual 39, 3) := by decide +kernel
theorem dX0_sizeOf_72 : decode cX0_sizeOf 72 = .ok (.ireturn, 1) := by decide +kernel
theorem dX0_markOf_0 : decode cX0_markOf 0 = .ok (.aload_n 0, 1) := by decide +kernel
theorem dX0_markOf_1 : decode cX0_markOf 1 = .ok (.iconst 0, 1) := by decide +kernel
theorem dX0_markOf_2 : decode cX0_markOf 2 = .ok (.putfield 15, 3) := by decide +kernel
theorem dX0_markOf_5 : decode cX0_markOf 5 = .ok (.aload_n 1, 1) := by decide +kernel
theorem dX0_markOf_6 : decode cX0_markOf 6 = .ok (.iload_n 2, 1) := by decide +kernel
theorem dX0_markOf_7 : decode cX0_markOf 7 = .ok (.invokevirtual 20, 3) := by decide +kernel
theorem dX0_markOf_10 : decode cX0_markOf 10 = .ok (.tableswitch 60 2 6 #[34, 41, 60, 48, 54], 34) := by decide +kernel
theorem dX0_markOf_44 : decode cX0_markOf 44 = .ok (.aload_n 0, 1) := by decide +kernel
theorem dX0_markOf_45 : decode cX0_markOf 45 = .ok (.aload_n 1, 1) := by decide +kernel
theorem dX0_markOf_46 : decode cX0_markOf 46 = .ok (.iload_n 2, 1) := by decide +kernel
theorem dX0_markOf_47 : decode cX0_markOf 47 = .ok (.invokevirtual 43, 3) := by decide +kernel
theorem dX0_markOf_50 : decode cX0_markOf 50 = .ok (.ireturn, 1) := by decide +kernel
theorem dX0_markOf_51 : decode cX0_markOf 51 = .ok (.aload_n 0, 1) := by decide +kernel
theorem dX0_markOf_52 : decode cX0_markOf 52 = .ok (.aload_n 1, 1) := by decide +kernel
theorem dX0_markOf_53 : decode cX0_markOf 53 = .ok (.iload_n 2, 1) := by decide +kernel
theorem dX0_markOf_54 : decode cX0_markOf 54 = .ok (.invokevirtual 46, 3) := by decide +kernel
theorem dX0_markOf_57 : decode cX0_markOf 57 = .ok (.ireturn, 1) := by decide +kernel
theorem dX0_markOf_58 : decode cX0_markOf 58 = .ok (.aload_n 0, 1) := by decide +kernel
theorem dX0_markOf_59 : decode cX0_markOf 59 = .ok (.iload_n 2, 1) := by decide +kernel
theorem dX0_markOf_60 : decode cX0_markOf 60 = .ok (.invokevirtual 49, 3) := by decide +kernel
theorem dX0_markOf_63 : decode cX0_markOf 63 = .ok (.ireturn, 1) := by decide +kernel
theorem dX0_markOf_64 : decode cX0_markOf 64 = .ok (.aload_n 0, 1) := by decide +kernel
theorem dX0_markOf_65 : decode cX0_markOf 65 = .ok (.iload_n 2, 1) := by decide +kernel
theorem dX0_markOf_66 : decode cX0_markOf 66 = .ok (.invokevirtual 52, 3) := by decide +kernel
theorem dX0_markOf_69 : decode cX0_markOf 69 = .ok (.ireturn, 1) := by decide +kernel
theorem dX0_markOf_70 : decode cX0_markOf 70 = .ok (.aload_n 0, 1) := by decide +kernel
theorem dX0_markOf_71 : decode cX0_markOf 71 = .ok (.iload_n 2, 1) := by decide +kernel
theorem dX0_markOf_72 : decode cX0_markOf 72 = .ok (.invokevirtual 55, 3) := by decide +kernel
theorem dX0_markOf_75 : decode cX0_markOf 75 = .ok (.ireturn, 1) := by decide +kernel
theorem dX0_body10_0 : decode cX0_body10 0 = .ok (.aload_n 0, 1) := by decide +kernel
theorem dX0_body10_1 : decode cX0_body10 1 = .ok (.bipush 10, 2) := by decide +kernel
theorem dX0_body10_3 : decode cX0_body10 3 = .ok (.invokevirtual 58, 3) := by decide +kernel
theorem dX0_body10_6 : decode cX0_body10 6 = .ok (.iconst 1, 1) := by decide +kernel
theorem dX0_body10_7 : decode cX0_body10 7 = .ok (.ireturn, 1) := by decide +kernel
theorem dX0_body11_0 : decode cX0_body11 0 = .ok (.aload_n 0, 1) := by decide +kernel
theorem dX0_body11_1 : decode cX0_body11 1 = .ok (.bipush 11, 2) := by decide +kernel
theorem dX0_body11_3 : decode cX0_body11 3 = .ok (.invokevirtual 58, 3) := by decide +kernel
theorem dX0_body11_6 : decode cX0_body11 6 = .ok (.aload_n 0, 1) := by decide +kernel
theorem dX0_body11_7 : decode cX0_body11 7 = .ok (.invokevirtual 39, 3) := by decide +kernel
theorem dX0_body11_10 : decode cX0_body11 10 = .ok (.aload_n 1, 1) := by decide +kernel
theorem dX0_body11_11 : decode cX0_body11 11 = .ok (.iconst 5, 1) := by decide +kernel
theorem dX0_body11_12 : decode cX0_body11 12 = .ok (.iload_n 2, 1) := by decide +kernel
theorem dX0_body11_13 : decode cX0_body11 13 = .ok (.iconst 1, 1) := by decide +kernel
theorem dX0_body11_14 : decode cX0_body11 14 = .ok (.invokevirtual 62, 3) := by decide +kernel
theorem dX0_body11_17 : decode cX0_body11 17 = .ok (.iadd, 1) := by decide +kernel
theorem dX0_body11_18 : decode cX0_body11 18 = .ok (.ireturn, 1) := by decide +kernel
theorem dX0_body12_0 : decode cX0_body12 0 = .ok (.aload_n 0, 1) := by decide +kernel
theorem dX0_body12_1 : decode cX0_body12 1 = .ok (.bipush 12, 2) := by decide +kernel
theorem dX0_body12_3 : decode cX0_body12 3 = .ok (.invokevirtual 58, 3) := by decide +kernel
theorem dX0_body12_6 : decode cX0_body12 6 = .ok (.iconst 2, 1) := by decide +kernel
theorem dX0_body12_7 : decode cX0_body12 7 = .ok (.aload_n 0, 1) := by decide +kernel
theorem dX0_body12_8 : decode cX0_body12 8 = .ok (.aload_n 1, 1) := by decide +kernel
theorem dX0_body12_9 : decode cX0_body12 9 = .ok (.iload_n 2, 1) := by decide +kernel
theorem dX0_body12_10 : decode cX0_body12 10 = .ok (.invokevirtual 26, 3) := by decide +kernel
theorem dX0_body12_13 : decode cX0_body12 13 = .ok (.imul, 1) := by decide +kernel
theorem dX0_body12_14 : decode cX0_body12 14 = .ok (.ireturn, 1) := by decide +kernel
theorem dX0_body13_0 : decode cX0_body13 0 = .ok (.aload_n 0, 1) := by decide +kernel
theorem dX0_body13_1 : decode cX0_body13 1 = .ok (.bipush 13, 2) := by decide +kernel
theorem dX0_body13_3 : decode cX0_body13 3 = .ok (.invokevirtual 58, 3) := by decide +kernel
theorem dX0_body13_6 : decode cX0_body13 6 = .ok (.aload_n 1, 1) := by decide +kernel
theorem dX0_body13_7 : decode cX0_body13 7 = .ok (.iconst 5, 1) := by decide +kernel
theorem dX0_body13_8 : decode cX0_body13 8 = .ok (.iload_n 2, 1) := by decide +kernel
theorem dX0_body13_9 : decode cX0_body13 9 = .ok (.iconst 1, 1) := by decide +kernel
theorem dX0_body13_10 : decode cX0_body13 10 = .ok (.invokevirtual 62, 3) := by decide +kernel
theorem dX0_body13_13 : decode cX0_body13 13 = .ok (.istore_n 3, 1) := by decide +kernel
theorem dX0_body13_14 : decode cX0_body13 14 = .ok (.aload_n 0, 1) := by decide +kernel
theorem dX0_body13_15 : decode cX0_body13 15 = .ok (.invokevirtual 39, 3) := by decide +kernel
theorem dX0_body13_18 : decode cX0_body13 18 = .ok (.aload_n 1, 1) := by decide +kernel
theorem dX0_body13_19 : decode cX0_body13 19 = .ok (.iconst 2, 1) := by decide +kernel
theorem dX0_body13_20 : decode cX0_body13 20 = .ok (.iload_n 3, 1) := by decide +kernel
theorem dX0_body13_21 : decode cX0_body13 21 = .ok (.iconst 0, 1) := by decide +kernel
theorem dX0_body13_22 : decode cX0_body13 22 = .ok (.invokevirtual 62, 3) := by decide +kernel
theorem dX0_body13_25 : decode cX0_body13 25 = .ok (.iadd, 1) := by decide +kernel
theorem dX0_body13_26 : decode cX0_body13 26 = .ok (.ireturn, 1) := by decide +kernel
theorem dX0_body14_0 : decode cX0_body14 0 = .ok (.aload_n 0, 1) := by decide +kernel
theorem dX0_body14_1 : decode cX0_body14 1 = .ok (.bipush 14, 2) := by decide +kernel
theorem dX0_body14_3 : decode cX0_body14 3 = .ok (.invokevirtual 58, 3) := by decide +kernel
theorem dX0_body14_6 : decode cX0_body14 6 = .ok (.aload_n 0, 1) := by decide +kernel
theorem dX0_body14_7 : decode cX0_body14 7 = .ok (.aload_n 1, 1) := by decide +kernel
theorem dX0_body14_8 : decode cX0_body14 8 = .ok (.iload_n 2, 1) := by decide +kernel
theorem dX0_body14_9 : decode cX0_body14 9 = .ok (.invokevirtual 33, 3) := by decide +kernel
theorem dX0_body14_12 : decode cX0_body14 12 = .ok (.istore_n 3, 1) := by decide +kernel
theorem dX0_body14_13 : decode cX0_body14 13 = .ok (.iload_n 3, 1) := by decide +kernel
theorem dX0_body14_14 : decode cX0_body14 14 = .ok (.aload_n 0, 1) := by decide +kernel
theorem dX0_body14_15 : decode cX0_body14 15 = .ok (.iload_n 2, 1) := by decide +kernel
theorem dX0_body14_16 : decode cX0_body14 16 = .ok (.invokevirtual 49, 3) := by decide +kernel
theorem dX0_body14_19 : decode cX0_body14 19 = .ok (.isub, 1) := by decide +kernel
theorem dX0_body14_20 : decode cX0_body14 20 = .ok (.ireturn, 1) := by decide +kernel
theorem dX0_body20_0 : decode cX0_body20 0 = .ok (.aload_n 0, 1) := by decide +kernel
theorem dX0_body20_1 : decode cX0_body20 1 = .ok (.bipush 20, 2) := by decide +kernel
theorem dX0_body20_3 : decode cX0_body20 3 = .ok (.invokevirtual 58, 3) := by decide +kernel
theorem dX0_body20_6 : decode cX0_body20 6 = .ok (.iload_n 1, 1) := by decide +kernel
theorem dX0_body20_7 : decode cX0_body20 7 = .ok (.ireturn, 1) := by decide +kernel
theorem dX0_body21_0 : decode cX0_body21 0 = .ok (.aload_n 0, 1) := by decide +kernel
theorem dX0_body21_1 : decode cX0_body21 1 = .ok (.bipush 21, 2) := by decide +kernel
theorem dX0_body21_3 : decode cX0_body21 3 = .ok (.invokevirtual 58, 3) := by decide +kernel
theorem dX0_body21_6 : decode cX0_body21 6 = .ok (.aload_n 0, 1) := by decide +kernel
theorem dX0_body21_7 : decode cX0_body21 7 = .ok (.iload_n 2, 1) := by decide +kernel
theorem dX0_body21_8 : decode cX0_body21 8 = .ok (.invokevirtual 55, 3) := by decide +kernel
theorem dX0_body21_11 : decode cX0_body21 11 = .ok (.aload_n 1, 1) := by decide +kernel
theorem dX0_body21_12 : decode cX0_body21 12 = .ok (.iconst 5, 1) := by decide +kernel
theorem dX0_body21_13 : decode cX0_body21 13 = .ok (.iload_n 2, 1) := by decide +kernel
theorem dX0_body21_14 : decode cX0_body21 14 = .ok (.iconst 3, 1) := by decide +kernel
theorem dX0_body21_15 : decode cX0_body21 15 = .ok (.invokevirtual 62, 3) := by decide +kernel
theorem dX0_body21_18 : decode cX0_body21 18 = .ok (.iadd, 1) := by decide +kernel
theorem dX0_body21_19 : decode cX0_body21 19 = .ok (.ireturn, 1) := by decide +kernel
theorem dX0_body22_0 : decode cX0_body22 0 = .ok (.aload_n 0, 1) := by decide +kernel
theorem dX0_body22_1 : decode cX0_body22 1 = .ok (.bipush 22, 2) := by decide +kernel
theorem dX0_body22_3 : decode cX0_body22 3 = .ok (.invokevirtual 58, 3) := by decide +kernel
theorem dX0_body22_6 : decode cX0_body22 6 = .ok (.aload_n 0, 1) := by decide +kernel
theorem dX0_body22_7 : decode cX0_body22 7 = .ok (.aload_n 1, 1) := by decide +kernel
theorem dX0_body22_8 : decode cX0_body22 8 = .ok (.iload_n 2, 1) := by decide +kernel
theorem dX0_body22_9 : decode cX0_body22 9 = .ok (.invokevirtual 46, 3) := by decide +kernel
theorem dX0_body22_12 : decode cX0_body22 12 = .ok (.istore_n 3, 1) := by decide +kernel
theorem dX0_body22_13 : decode cX0_body22 13 = .ok (.iload_n 3, 1) := by decide +kernel
theorem dX0_body22_14 : decode cX0_body22 14 = .ok (.aload_n 0, 1) := by decide +kernel
theorem dX0_body22_15 : decode cX0_body22 15 = .ok (.aload_n 1, 1) := by decide +kernel
theorem dX0_body22_16 : decode cX0_body22 16 = .ok (.iload_n 2, 1) := by decide +kernel
theorem dX0_body22_17 : decode cX0_body22 17 = .ok (.invokevirtual 26, 3) := by decide +kernel
theorem dX0_body22_20 : decode cX0_body22 20 = .ok (.iadd, 1) := by decide +kernel
theorem dX0_body22_21 : decode cX0_body22 21 = .ok (.ireturn, 1) := by decide +kernel
theorem dX0_body23_0 : decode cX0_body23 0 = .ok (.aload_n 0, 1) := by decide +kernel
theorem dX0_body23_1 : decode cX0_body23 1 = .ok (.bipush 23, 2) := by decide +kernel
theorem dX0_body23_3 : decode cX0_body23 3 = .ok (.invokevirtual 58, 3) := by decide +kernel
theorem dX0_body23_6 : decode cX0_body23 6 = .ok (.aload_n 0, 1) := by decide +kernel
theorem dX0_body23_7 : decode cX0_body23 7 = .ok (.iload_n 1, 1) := by decide +kernel
theorem dX0_body23_8 : decode cX0_body23 8 = .ok (.invokevirtual 55, 3) := by decide +kernel
theorem dX0_body23_11 : decode cX0_body23 11 = .ok (.ineg, 1) := by decide +kernel
theorem dX0_body23_12 : decode cX0_body23 12 = .ok (.ireturn, 1) := by decide +kernel
theorem dX0_body24_0 : decode cX0_body24 0 = .ok (.aload_n 0, 1) := by decide +kernel
theorem dX0_body24_1 : decode cX0_body24 1 = .ok (.bipush 24, 2) := by decide +kernel
theorem dX0_body24_3 : decode cX0_body24 3 = .ok (.invokevirtual 58, 3) := by decide +kernel
theorem dX0_body24_6 : decode cX0_body24 6 = .ok (.aload_n 0, 1) := by decide +kernel
theorem dX0_body24_7 : decode cX0_body24 7 = .ok (.iload_n 1, 1) := by decide +kernel
theorem dX0_body24_8 : decode cX0_body24 8 = .ok (.invokevirtual 55, 3) := by decide +kernel
theorem dX0_body24_11 : decode cX0_body24 11 = .ok (.bipush 50, 2) := by decide +kernel
theorem dX0_body24_13 : decode cX0_body24 13 = .ok (.iadd, 1) := by decide +kernel
theorem dX0_body24_14 : decode cX0_body24 14 = .ok (.ireturn, 1) := by decide +kernel
theorem dX1_init_0 : decode cX1_init 0 = .ok (.aload_n 0, 1) := by decide +kernel
theorem dX1_init_1 : decode cX1_init 1 = .ok (.invokespecial 3, 3) := by decide +kernel
theorem dX1_init_4 : decode cX1_init 4 = .ok (.return_, 1) := by decide +kernel
theorem dX1_begin_0 : decode cX1_begin 0 = .ok (.aload_n 0, 1) := by decide +kernel
theorem dX1_begin_1 : decode cX1_begin 1 = .ok (.invokevirtual 9, 3) := by decide +kernel
theorem dX1_begin_4 : decode cX1_begin 4 = .ok (.aload_n 0, 1) := by decide +kernel
theorem dX1_begin_5 : decode cX1_begin 5 = .ok (.iconst 0, 1) := by decide +kernel
theorem dX1_begin_6 : decode cX1_begin 6 = .ok (.putfield 14, 3) := by decide +kernel
theorem dX1_begin_9 : decode cX1_begin 9 = .ok (.aload_n 0, 1) := by decide +kernel
theorem dX1_begin_10 : decode cX1_begin 10 = .ok (.iconst 0, 1) := by decide +kernel
theorem dX1_begin_11 : decode cX1_begin 11 = .ok (.putfield 18, 3) := by decide +kernel
theorem dX1_begin_14 : decode cX1_begin 14 = .ok (.return_, 1) := by decide +kernel
theorem dX1_fallToHand_0 : decode cX1_fallToHand 0 = .ok (.aload_n 0, 1) := by decide +kernel
theorem dX1_fallToHand_1 : decode cX1_fallToHand 1 = .ok (.bipush 20, 2) := by decide +kernel
theorem dX1_fallToHand_3 : decode cX1_fallToHand 3 = .ok (.putfield 21, 3) := by decide +kernel
theorem dX1_fallToHand_6 : decode cX1_fallToHand 6 = .ok (.aload_n 0, 1) := by decide +kernel
theorem dX1_fallToHand_7 : decode cX1_fallToHand 7 = .ok (.iconst 0, 1) := by decide +kernel
theorem dX1_fallToHand_8 : decode cX1_fallToHand 8 = .ok (.putfield 24, 3) := by decide +kernel
theorem dX1_fallToHand_11 : decode cX1_fallToHand 11 = .ok (.aload_n 0, 1) := by decide +kernel
theorem dX1_fallToHand_12 : decode cX1_fallToHand 12 = .ok (.iconst 0, 1) := by decide +kernel
theorem dX1_fallToHand_13 : decode cX1_fallToHand 13 = .ok (.putfield 27, 3) := by decide +kernel
theorem dX1_fallToHand_16 : decode cX1_fallToHand 16 = .ok (.aload_n 0, 1) := by decide +kernel
theorem dX1_fallToHand_17 : decode cX1_fallToHand 17 = .ok (.iconst 0, 1) := by decide +kernel
theorem dX1_fallToHand_18 : decode cX1_fallToHand 18 = .ok (.putfield 30, 3) := by decide +kernel
theorem dX1_fallToHand_21 : decode cX1_fallToHand 21 = .ok (.aload_n 0, 1) := by decide +kernel
theorem dX1_fallToHand_22 : decode cX1_fallToHand 22 = .ok (.ldc 34, 2) := by decide +kernel
theorem dX1_fallToHand_24 : decode cX1_fallToHand 24 = .ok (.putfield 35, 3) := by decide +kernel
theorem dX1_fallToHand_27 : decode cX1_fallToHand 27 = .ok (.aload_n 0, 1) := by decide +kernel
theorem dX1_fallToHand_28 : decode cX1_fallToHand 28 = .ok (.dup, 1) := by decide +kernel
theorem dX1_fallToHand_29 : decode cX1_fallToHand 29 = .ok (.getfield 18, 3) := by decide +kernel
theorem dX1_fallToHand_32 : decode cX1_fallToHand 32 = .ok (.iconst 1, 1) := by decide +kernel
theorem dX1_fallToHand_33 : decode cX1_fallToHand 33 = .ok (.iadd, 1) := by decide +kernel
theorem dX1_fallToHand_34 : decode cX1_fallToHand 34 = .ok (.putfield 18, 3) := by decide +kernel
theorem dX1_fallToHand_37 : decode cX1_fallToHand 37 = .ok (.return_, 1) := by decide +kernel
theorem dX1_gather_0 : decode cX1_gather 0 = .ok (.aload_n 0, 1) := by decide +kernel
theorem dX1_gather_1 : decode cX1_gather 1 = .ok (.invokevirtual 9, 3) := by decide +kernel
theorem dX1_gather_4 : decode cX1_gather 4 = .ok (.aload_n 0, 1) := by decide +kernel
theorem dX1_gather_5 : decode cX1_gather 5 = .ok (.dup, 1) := by decide +kernel
theorem dX1_gather_6 : decode cX1_gather 6 = .ok (.getfield 14, 3) := by decide +kernel
theorem dX1_gather_9 : decode cX1_gather 9 = .ok (.iconst 2, 1) := by decide +kernel
theorem dX1_gather_10 : decode cX1_gather 10 = .ok (.idiv, 1) := by decide +kernel
theorem dX1_gather_11 : decode cX1_gather 11 = .ok (.putfield 14, 3) := by decide +kernel
theorem dX1_gather_14 : decode cX1_gather 14 = .ok (.return_, 1) := by decide +kernel
theorem dX1_copyFrom_0 : decode cX1_copyFrom 0 = .ok (.aload_n 0, 1) := by decide +kernel
theorem dX1_copyFrom_1 : decode cX1_copyFrom 1 = .ok (.aload_n 1, 1) := by decide +kernel
theorem dX1_copyFrom_2 : decode cX1_copyFrom 2 = .ok (.getfield 21, 3) := by decide +kernel
theorem dX1_copyFrom_5 : decode cX1_copyFrom 5 = .ok (.putfield 21, 3) := by decide +kernel
theorem dX1_copyFrom_8 : decode cX1_copyFrom 8 = .ok (.aload_n 0, 1) := by decide +kernel
theorem dX1_copyFrom_9 : decode cX1_copyFrom 9 = .ok (.aload_n 1, 1) := by decide +kernel
theorem dX1_copyFrom_10 : decode cX1_copyFrom 10 = .ok (.getfield 24, 3) := by decide +kernel
theorem dX1_copyFrom_13 : decode cX1_copyFrom 13 = .ok (.putfield 24, 3) := by decide +kernel
theorem dX1_copyFrom_16 : decode cX1_copyFrom 16 = .ok (.aload_n 0, 1) := by decide +kernel
theorem dX1_copyFrom_17 : decode cX1_copyFrom 17 = .ok (.aload_n 1, 1) := by decide +kernel
theorem dX1_copyFrom_18 : decode cX1_copyFrom 18 = .ok (.getfield 27, 3) := by decide +kernel
theorem dX1_copyFrom_21 : decode cX1_copyFrom 21 = .ok (.putfield 27, 3) := by decide +kernel
theorem dX1_copyFrom_24 : decode cX1_copyFrom 24 = .ok (.aload_n 0, 1) := by decide +kernel
theorem dX1_copyFrom_25 : decode cX1_copyFrom 25 = .ok (.aload_n 1, 1) := by decide +kernel
theorem dX1_copyFrom_26 : decode cX1_copyFrom 26 = .ok (.getfield 14, 3) := by decide +kernel
theorem dX1_copyFrom_29 : decode cX1_copyFrom 29 = .ok (.putfield 14, 3) := by decide +kernel
theorem dX1_copyFrom_32 : decode cX1_copyFrom 32 = .ok (.aload_n 0, 1) := by decide +kernel
theorem dX1_copyFrom_33 : decode cX1_copyFrom 33 = .ok (.aload_n 1, 1) := by decide +kernel
theorem dX1_copyFrom_34 : decode cX1_copyFrom 34 = .ok (.getfield 18, 3) := by decide +kernel
theorem dX1_copyFrom_37 : decode cX1_copyFrom 37 = .ok (.putfield 18, 3) := by decide +kernel
theorem dX1_copyFrom_40 : decode cX1_copyFrom 40 = .ok (.aload_n 0, 1) := by decide +kernel
theorem dX1_copyFrom_41 : decode cX1_copyFrom 41 = .ok (.aload_n 1, 1) := by decide +kernel
theorem dX1_copyFrom_42 : decode cX1_copyFrom 42 = .ok (.getfield 35, 3) := by decide +kernel
theorem dX1_copyFrom_45 : decode cX1_copyFrom 45 = .ok (.putfield 35, 3) := by decide +kernel
theorem dX1_copyFrom_48 : decode cX1_copyFrom 48 = .ok (.aload_n 0, 1) := by decide +kernel
theorem dX1_copyFrom_49 : decode cX1_copyFrom 49 = .ok (.aload_n 1, 1) := by decide +kernel
theorem dX1_copyFrom_50 : decode cX1_copyFrom 50 = .ok (.getfield 30, 3) := by decide +kernel
theorem dX1_copyFrom_53 : decode cX1_copyFrom 53 = .ok (.putfield 30, 3) := by decide +kernel
theorem dX1_copyFrom_56 : decode cX1_copyFrom 56 = .ok (.return_, 1) := by decide +kernel
theorem dX1_isLike_0 : decode cX1_isLike 0 = .ok (.aload_n 0, 1) := by decide +kernel
theorem dX1_isLike_1 : decode cX1_isLike 1 = .ok (.getfield 21, 3) := by decide +kernel
theorem dX1_isLike_4 : decode cX1_isLike 4 = .ok (.aload_n 1, 1) := by decide +kernel
theorem dX1_isLike_5 : decode cX1_isLike 5 = .ok (.getfield 21, 3) := by decide +kernel
theorem dX1_isLike_8 : decode cX1_isLike 8 = .ok (.if_icmp .ne 62, 3) := by decide +kernel
theorem dX1_isLike_11 : decode cX1_isLike 11 = .ok (.aload_n 0, 1) := by decide +kernel
theorem dX1_isLike_12 : decode cX1_isLike 12 = .ok (.getfield 24, 3) := by decide +kernel
theorem dX1_isLike_15 : decode cX1_isLike 15 = .ok (.aload_n 1, 1) := by decide +kernel
theorem dX1_isLike_16 : decode cX1_isLike 16 = .ok (.getfield 24, 3) := by decide +kernel
theorem dX1_isLike_19 : decode cX1_isLike 19 = .ok (.if_icmp .ne 51, 3) := by decide +kernel
theorem dX1_isLike_22 : decode cX1_isLike 22 = .ok (.aload_n 0, 1) := by decide +kernel
theorem dX1_isLike_23 : decode cX1_isLike 23 = .ok (.getfield 27, 3) := by decide +kernel
theorem dX1_isLike_26 : decode cX1_isLike 26 = .ok (.aload_n 1, 1) := by decide +kernel
theorem dX1_isLike_27 : decode cX1_isLike 27 = .ok (.getfield 27, 3) := by decide +kernel
theorem dX1_isLike_30 : decode cX1_isLike 30 = .ok (.if_icmp .ne 40, 3) := by decide +kernel
theorem dX1_isLike_33 : decode cX1_isLike 33 = .ok (.aload_n 0, 1) := by decide +kernel
theorem dX1_isLike_34 : decode cX1_isLike 34 = .ok (.getfield 14, 3) := by decide +kernel
theorem dX1_isLike_37 : decode cX1_isLike 37 = .ok (.aload_n 1, 1) := by decide +kernel
theorem dX1_isLike_38 : decode cX1_isLike 38 = .ok (.getfield 14, 3) := by decide +kernel
theorem dX1_isLike_41 : decode cX1_isLike 41 = .ok (.if_icmp .ne 29, 3) := by decide +kernel
theorem dX1_isLike_44 : decode cX1_isLike 44 = .ok (.aload_n 0, 1) := by decide +kernel
theorem dX1_isLike_45 : decode cX1_isLike 45 = .ok (.getfield 18, 3) := by decide +kernel
theorem dX1_isLike_48 : decode cX1_isLike 48 = .ok (.aload_n 1, 1) := by decide +kernel
theorem dX1_isLike_49 : decode cX1_isLike 49 = .ok (.getfield 18, 3) := by decide +kernel
theorem dX1_isLike_52 : decode cX1_isLike 52 = .ok (.if_icmp .ne 18, 3) := by decide +kernel
theorem dX1_isLike_55 : decode cX1_isLike 55 = .ok (.aload_n 0, 1) := by decide +kernel
theorem dX1_isLike_56 : decode cX1_isLike 56 = .ok (.getfield 30, 3) := by decide +kernel
theorem dX1_isLike_59 : decode cX1_isLike 59 = .ok (.aload_n 1, 1) := by decide +kernel
theorem dX1_isLike_60 : decode cX1_isLike 60 = .ok (.getfield 30, 3) := by decide +kernel
theorem dX1_isLike_63 : decode cX1_isLike 63 = .ok (.if_icmp .ne 7, 3) := by decide +kernel
theorem dX1_isLike_66 : decode cX1_isLike 66 = .ok (.iconst 1, 1) := by decide +kernel
theorem dX1_isLike_67 : decode cX1_isLike 67 = .ok (.goto 4, 3) := by decide +kernel
theorem dX1_isLike_70 : decode cX1_isLike 70 = .ok (.iconst 0, 1) := by decide +kernel
theorem dX1_isLike_71 : decode cX1_isLike 71 = .ok (.ireturn, 1) := by decide +kernel
theorem dX1_hasFallen_0 : decode cX1_hasFallen 0 = .ok (.aload_n 0, 1) := by decide +kernel
theorem dX1_hasFallen_1 : decode cX1_hasFallen 1 = .ok (.getfield 30, 3) := by decide +kernel
theorem dX1_hasFallen_4 : decode cX1_hasFallen 4 = .ok (.ifCond .ne 10, 3) := by decide +kernel
theorem dX1_hasFallen_7 : decode cX1_hasFallen 7 = .ok (.aload_n 0, 1) := by decide +kernel
theorem dX1_hasFallen_8 : decode cX1_hasFallen 8 = .ok (.getfield 21, 3) := by decide +kernel
theorem dX1_hasFallen_11 : decode cX1_hasFallen 11 = .ok (.ifCond .gt 7, 3) := by decide +kernel
theorem dX1_hasFallen_14 : decode cX1_hasFallen 14 = .ok (.iconst 1, 1) := by decide +kernel
theorem dX1_hasFallen_15 : decode cX1_hasFallen 15 = .ok (.goto 4, 3) := by decide +kernel
theorem dX1_hasFallen_18 : decode cX1_hasFallen 18 = .ok (.iconst 0, 1) := by decide +kernel
theorem dX1_hasFallen_19 : decode cX1_hasFallen 19 = .ok (.ireturn, 1) := by decide +kernel
theorem dX1_turned_0 : decode cX1_turned 0 = .ok (.iconst 1, 1) := by decide +kernel
theorem dX1_turned_1 : decode cX1_turned 1 = .ok (.bipush 15, 2) := by decide +kernel
theorem dX1_turned_3 : decode cX1_turned 3 = .ok (.iload_n 2, 1) := by decide +kernel
theorem dX1_turned_4 : decode cX1_turned 4 = .ok (.bipush 64, 2) := by decide +kernel
theorem dX1_turned_6 : decode cX1_turned 6 = .ok (.idiv, 1) := by decide +kernel
theorem dX1_turned_7 : decode cX1_turned 7 = .ok (.isub, 1) := by decide +kernel
theorem dX1_turned_8 : decode cX1_turned 8 = .ok (.invokestatic 38, 3) := by decide +kernel
theorem dX1_turned_11 : decode cX1_turned 11 = .ok (.istore_n 3, 1) := by decide +kernel
theorem dX1_turned_12 : decode cX1_turned 12 = .ok (.iload_n 3, 1) := by decide +kernel
theorem dX1_turned_13 : decode cX1_turned 13 = .ok (.iconst 0, 1) := by decide +kernel
theorem dX1_turned_14 : decode cX1_turned 14 = .ok (.iload_n 0, 1) := by decide +kernel
theorem dX1_turned_15 : decode cX1_turned 15 = .ok (.iload_n 1, 1) := by decide +kernel
theorem dX1_turned_16 : decode cX1_turned 16 = .ok (.iadd, 1) := by decide +kernel
theorem dX1_turned_17 : decode cX1_turned 17 = .ok (.iconst 2, 1) := by decide +kernel
theorem dX1_turned_18 : decode cX1_turned 18 = .ok (.isub, 1) := by decide +kernel
theorem dX1_turned_19 : decode cX1_turned 19 = .ok (.invokestatic 38, 3) := by decide +kernel
theorem dX1_turned_22 : decode cX1_turned 22 = .ok (.invokestatic 44, 3) := by decide +kernel
theorem dX1_turned_25 : decode cX1_turned 25 = .ok (.ireturn, 1) := by decide +kernel
theorem dX1_spinBy_0 : decode cX1_spinBy 0 = .ok (.aload_n 0, 1) := by decide +kernel
theorem dX1_spinBy_1 : decode cX1_spinBy 1 = .ok (.getfield 24, 3) := by decide +kernel
theorem dX1_spinBy_4 : decode cX1_spinBy 4 = .ok (.iload_n 1, 1) := by decide +kernel
theorem dX1_spinBy_5 : decode cX1_spinBy 5 = .ok (.aload_n 0, 1) := by decide +kernel
theorem dX1_spinBy_6 : decode cX1_spinBy 6 = .ok (.getfield 14, 3) := by decide +kernel
theorem dX1_spinBy_9 : decode cX1_spinBy 9 = .ok (.invokestatic 47, 3) := by decide +kernel
theorem dX1_spinBy_12 : decode cX1_spinBy 12 = .ok (.ireturn, 1) := by decide +kernel
theorem dX1_advance_0 : decode cX1_advance 0 = .ok (.aload_n 0, 1) := by decide +kernel
theorem dX1_advance_1 : decode cX1_advance 1 = .ok (.aload_n 0, 1) := by decide +kernel
theorem dX1_advance_2 : decode cX1_advance 2 = .ok (.getfield 24, 3) := by decide +kernel
theorem dX1_advance_5 : decode cX1_advance 5 = .ok (.iload_n 3, 1) := by decide +kernel
theorem dX1_advance_6 : decode cX1_advance 6 = .ok (.aload_n 0, 1) := by decide +kernel
theorem dX1_advance_7 : decode cX1_advance 7 = .ok (.getfield 14, 3) := by decide +kernel
theorem dX1_advance_10 : decode cX1_advance 10 = .ok (.invokestatic 47, 3) := by decide +kernel
theorem dX1_advance_13 : decode cX1_advance 13 = .ok (.putfield 24, 3) := by decide +kernel
theorem dX1_advance_16 : decode cX1_advance 16 = .ok (.aload_n 1, 1) := by decide +kernel
theorem dX1_advance_17 : decode cX1_advance 17 = .ok (.aload_n 0, 1) := by decide +kernel
theorem dX1_advance_18 : decode cX1_advance 18 = .ok (.getfield 21, 3) := by decide +kernel
theorem dX1_advance_21 : decode cX1_advance 21 = .ok (.invokevirtual 51, 3) := by decide +kernel
theorem dX1_advance_24 : decode cX1_advance 24 = .ok (.iload_n 2, 1) := by decide +kernel
theorem dX1_advance_25 : decode cX1_advance 25 = .ok (.ifCond .eq 7, 3) := by decide +kernel
theorem dX1_advance_28 : decode cX1_advance 28 = .ok (.iconst 2, 1) := by decide +kernel
theorem dX1_advance_29 : decode cX1_advance 29 = .ok (.goto 4, 3) := by decide +kernel
theorem dX1_advance_32 : decode cX1_advance 32 = .ok (.iconst 0, 1) := by decide +kernel
theorem dX1_advance_33 : decode cX1_advance 33 = .ok (.iadd, 1) := by decide +kernel
theorem dX1_advance_34 : decode cX1_advance 34 = .ok (.aload_n 0, 1) := by decide +kernel
theorem dX1_advance_35 : decode cX1_advance 35 = .ok (.getfield 24, 3) := by decide +kernel
theorem dX1_advance_38 : decode cX1_advance 38 = .ok (.isub, 1) := by decide +kernel
theorem dX1_advance_39 : decode cX1_advance 39 = .ok (.istore 6, 2) := by decide +kernel
theorem dX1_advance_41 : decode cX1_advance 41 = .ok (.iload 6, 2) := by decide +kernel
theorem dX1_advance_43 : decode cX1_advance 43 = .ok (.ifCond .gt 32, 3) := by decide +kernel
theorem dX1_advance_46 : decode cX1_advance 46 = .ok (.aload_n 0, 1) := by decide +kernel
theorem dX1_advance_47 : decode cX1_advance 47 = .ok (.aload_n 1, 1) := by decide +kernel
theorem dX1_advance_48 : decode cX1_advance 48 = .ok (.invokevirtual 57, 3) := by decide +kernel
theorem dX1_advance_51 : decode cX1_advance 51 = .ok (.aload_n 0, 1) := by decide +kernel
theorem dX1_advance_52 : decode cX1_advance 52 = .ok (.getfield 21, 3) := by decide +kernel
theorem dX1_advance_55 : decode cX1_advance 55 = .ok (.iload 4, 2) := by decide +kernel
theorem dX1_advance_57 : decode cX1_advance 57 = .ok (.aload_n 0, 1) := by decide +kernel
theorem dX1_advance_58 : decode cX1_advance 58 = .ok (.getfield 24, 3) := by decide +kernel
theorem dX1_advance_61 : decode cX1_advance 61 = .ok (.imul, 1) := by decide +kernel
theorem dX1_advance_62 : decode cX1_advance 62 = .ok (.bipush 8, 2) := by decide +kernel
theorem dX1_advance_64 : decode cX1_advance 64 = .ok (.idiv, 1) := by decide +kernel
theorem dX1_advance_65 : decode cX1_advance 65 = .ok (.iadd, 1) := by decide +kernel
theorem dX1_advance_66 : decode cX1_advance 66 = .ok (.invokestatic 44, 3) := by decide +kernel
theorem dX1_advance_69 : decode cX1_advance 69 = .ok (.putfield 21, 3) := by decide +kernel
theorem dX1_advance_72 : decode cX1_advance 72 = .ok (.goto 28, 3) := by decide +kernel
theorem dX1_advance_75 : decode cX1_advance 75 = .ok (.aload_n 0, 1) := by decide +kernel
theorem dX1_advance_76 : decode cX1_advance 76 = .ok (.iconst 0, 1) := by decide +kernel
theorem dX1_advance_77 : decode cX1_advance 77 = .ok (.aload_n 0, 1) := by decide +kernel
theorem dX1_advance_78 : decode cX1_advance 78 = .ok (.getfield 21, 3) := by decide +kernel
theorem dX1_advance_81 : decode cX1_advance 81 = .ok (.iload_n 2, 1) := by decide +kernel
theorem dX1_advance_82 : decode cX1_advance 82 = .ok (.ifCond .eq 7, 3) := by decide +kernel
theorem dX1_advance_85 : decode cX1_advance 85 = .ok (.iconst 3, 1) := by decide +kernel
theorem dX1_advance_86 : decode cX1_advance 86 = .ok (.goto 4, 3) := by decide +kernel
theorem dX1_advance_89 : decode cX1_advance 89 = .ok (.iconst 5, 1) := by decide +kernel
theorem dX1_advance_90 : decode cX1_advance 90 = .ok (.iload 6, 2) := by decide +kernel
theorem dX1_advance_92 : decode cX1_advance 92 = .ok (.imul, 1) := by decide +kernel
theorem dX1_advance_93 : decode cX1_advance 93 = .ok (.isub, 1) := by decide +kernel
theorem dX1_advance_94 : decode cX1_advance 94 = .ok (.invokestatic 38, 3) := by decide +kernel
theorem dX1_advance_97 : decode cX1_advance 97 = .ok (.putfield 21, 3) := by decide +kernel
theorem dX1_advance_100 : decode cX1_advance 100 = .ok (.aload_n 0, 1) := by decide +kernel
theorem dX1_advance_101 : decode cX1_advance 101 = .ok (.dup, 1) := by decide +kernel
theorem dX1_advance_102 : decode cX1_advance 102 = .ok (.getfield 27, 3) := by decide +kernel
theorem dX1_advance_105 : decode cX1_advance 105 = .ok (.iload_n 2, 1) := by decide +kernel
theorem dX1_advance_106 : decode cX1_advance 106 = .ok (.ifCond .eq 15, 3) := by decide +kernel
theorem dX1_advance_109 : decode cX1_advance 109 = .ok (.aload_n 0, 1) := by decide +kernel
theorem dX1_advance_110 : decode cX1_advance 110 = .ok (.getfield 24, 3) := by decide +kernel
theorem dX1_advance_113 : decode cX1_advance 113 = .ok (.iload 5, 2) := by decide +kernel
theorem dX1_advance_115 : decode cX1_advance 115 = .ok (.isub, 1) := by decide +kernel
theorem dX1_advance_116 : decode cX1_advance 116 = .ok (.iconst 2, 1) := by decide +kernel
theorem dX1_advance_117 : decode cX1_advance 117 = .ok (.idiv, 1) := by decide +kernel
theorem dX1_advance_118 : decode cX1_advance 118 = .ok (.goto 10, 3) := by decide +kernel
theorem dX1_advance_121 : decode cX1_advance 121 = .ok (.aload_n 0, 1) := by decide +kernel
theorem dX1_advance_122 : decode cX1_advance 122 = .ok (.getfield 24, 3) := by decide +kernel
theorem dX1_advance_125 : decode cX1_advance 125 = .ok (.iload 5, 2) := by decide +kernel
theorem dX1_advance_127 : decode cX1_advance 127 = .ok (.isub, 1) := by decide +kernel
theorem dX1_advance_128 : decode cX1_advance 128 = .ok (.iadd, 1) := by decide +kernel
theorem dX1_advance_129 : decode cX1_advance 129 = .ok (.putfield 27, 3) := by decide +kernel
theorem dX1_advance_132 : decode cX1_advance 132 = .ok (.aload_n 0, 1) := by decide +kernel
theorem dX1_advance_133 : decode cX1_advance 133 = .ok (.dup, 1) := by decide +kernel
theorem dX1_advance_134 : decode cX1_advance 134 = .ok (.getfield 14, 3) := by decide +kernel
theorem dX1_advance_137 : decode cX1_advance 137 = .ok (.aload_n 0, 1) := by decide +kernel
theorem dX1_advance_138 : decode cX1_advance 138 = .ok (.getfield 24, 3) := by decide +kernel
theorem dX1_advance_141 : decode cX1_advance 141 = .ok (.iadd, 1) := by decide +kernel
theorem dX1_advance_142 : decode cX1_advance 142 = .ok (.putfield 14, 3) := by decide +kernel
theorem dX1_advance_145 : decode cX1_advance 145 = .ok (.aload_n 0, 1) := by decide +kernel
theorem dX1_advance_146 : decode cX1_advance 146 = .ok (.dup, 1) := by decide +kernel
theorem dX1_advance_147 : decode cX1_advance 147 = .ok (.getfield 18, 3) := by decide +kernel
theorem dX1_advance_150 : decode cX1_advance 150 = .ok (.iconst 1, 1) := by decide +kernel
theorem dX1_advance_151 : decode cX1_advance 151 = .ok (.iadd, 1) := by decide +kernel
theorem dX1_advance_152 : decode cX1_advance 152 = .ok (.putfield 18, 3) := by decide +kernel
theorem dX1_advance_155 : decode cX1_advance 155 = .ok (.aload_n 0, 1) := by decide +kernel
theorem dX1_advance_156 : decode cX1_advance 156 = .ok (.aload_n 0, 1) := by decide +kernel
theorem dX1_advance_157 : decode cX1_advance 157 = .ok (.getfield 27, 3) := by decide +kernel
theorem dX1_advance_160 : decode cX1_advance 160 = .ok (.invokestatic 61, 3) := by decide +kernel
theorem dX1_advance_163 : decode cX1_advance 163 = .ok (.aload_n 1, 1) := by decide +kernel
theorem dX1_advance_164 : decode cX1_advance 164 = .ok (.invokevirtual 64, 3) := by decide +kernel
theorem dX1_advance_167 : decode cX1_advance 167 = .ok (.if_icmp .le 7, 3) := by decide +kernel
theorem dX1_advance_170 : decode cX1_advance 170 = .ok (.iconst 1, 1) := by decide +kernel
theorem dX1_advance_171 : decode cX1_advance 171 = .ok (.goto 4, 3) := by decide +kernel
theorem dX1_advance_174 : decode cX1_advance 174 = .ok (.iconst 0, 1) := by decide +kernel
theorem dX1_advance_175 : decode cX1_advance 175 = .ok (.putfield 30, 3) := by decide +kernel
theorem dX1_advance_178 : decode cX1_advance 178 = .ok (.aload_n 0, 1) := by decide +kernel
theorem dX1_advance_179 : decode cX1_advance 179 = .ok (.aload_n 0, 1) := by decide +kernel
theorem dX1_advance_180 : decode cX1_advance 180 = .ok (.iload 6, 2) := by decide +kernel
theorem dX1_advance_182 : decode cX1_advance 182 = .ok (.ifCond .le 7, 3) := by decide +kernel
theorem dX1_advance_185 : decode cX1_advance 185 = .ok (.iconst 1, 1) := by decide +kernel
theorem dX1_advance_186 : decode cX1_advance 186 = .ok (.goto 4, 3) := by decide +kernel
theorem dX1_advance_189 : decode cX1_advance 189 = .ok (.iconst 0, 1) := by decide +kernel
theorem dX1_advance_190 : decode cX1_advance 190 = .ok (.aload_n 0, 1) := by decide +kernel
theorem dX1_advance_191 : decode cX1_advance 191 = .ok (.getfield 21, 3) := by decide +kernel
theorem dX1_advance_194 : decode cX1_advance 194 = .ok (.aload_n 1, 1) := by decide +kernel
theorem dX1_advance_195 : decode cX1_advance 195 = .ok (.invokevirtual 57, 3) := by decide +kernel
theorem dX1_advance_198 : decode cX1_advance 198 = .ok (.if_icmp .ne 7, 3) := by decide +kernel
theorem dX1_advance_201 : decode cX1_advance 201 = .ok (.iconst 1, 1) := by decide +kernel
theorem dX1_advance_202 : decode cX1_advance 202 = .ok (.goto 4, 3) := by decide +kernel
theorem dX1_advance_205 : decode cX1_advance 205 = .ok (.iconst 0, 1) := by decide +kernel
theorem dX1_advance_206 : decode cX1_advance 206 = .ok (.invokevirtual 67, 3) := by decide +kernel
theorem dX1_advance_209 : decode cX1_advance 209 = .ok (.putfield 35, 3) := by decide +kernel
theorem dX1_advance_212 : decode cX1_advance 212 = .ok (.return_, 1) := by decide +kernel
theorem dX1_reason_0 : decode cX1_reason 0 = .ok (.aload_n 0, 1) := by decide +kernel
theorem dX1_reason_1 : decode cX1_reason 1 = .ok (.getfield 30, 3) := by decide +kernel
theorem dX1_reason_4 : decode cX1_reason 4 = .ok (.ifCond .eq 5, 3) := by decide +kernel
theorem dX1_reason_7 : decode cX1_reason 7 = .ok (.iconst 4, 1) := by decide +kernel
theorem dX1_reason_8 : decode cX1_reason 8 = .ok (.ireturn, 1) := by decide +kernel
theorem dX1_reason_9 : decode cX1_reason 9 = .ok (.aload_n 0, 1) := by decide +kernel
theorem dX1_reason_10 : decode cX1_reason 10 = .ok (.getfield 21, 3) := by decide +kernel
theorem dX1_reason_13 : decode cX1_reason 13 = .ok (.ifCond .ne 5, 3) := by decide +kernel
theorem dX1_reason_16 : decode cX1_reason 16 = .ok (.iconst 3, 1) := by decide +kernel
theorem dX1_reason_17 : decode cX1_reason 17 = .ok (.ireturn, 1) := by decide +kernel
theorem dX1_reason_18 : decode cX1_reason 18 = .ok (.iload_n 1, 1) := by decide +kernel
theorem dX1_reason_19 : decode cX1_reason 19 = .ok (.ifCond .eq 5, 3) := by decide +kernel
theorem dX1_reason_22 : decode cX1_reason 22 = .ok (.iconst 2, 1) := by decide +kernel
theorem dX1_reason_23 : decode cX1_reason 23 = .ok (.ireturn, 1) := by decide +kernel
theorem dX1_reason_24 : decode cX1_reason 24 = .ok (.iload_n 2, 1) := by decide +kernel
theorem dX1_reason_25 : decode cX1_reason 25 = .ok (.ifCond .eq 7, 3) := by decide +kernel
theorem dX1_reason_28 : decode cX1_reason 28 = .ok (.iconst 1, 1) := by decide +kernel
theorem dX1_reason_29 : decode cX1_reason 29 = .ok (.goto 4, 3) := by decide +kernel
theorem dX1_reason_32 : decode cX1_reason 32 = .ok (.iconst 0, 1) := by decide +kernel
theorem dX1_reason_33 : decode cX1_reason 33 = .ok (.ireturn, 1) := by decide +kernel
theorem dX1_tell_0 : decode cX1_tell 0 = .ok (.iload_n 1, 1) := by decide +kernel
theorem dX1_tell_1 : decode cX1_tell 1 = .ok (.tableswitch 60 0 4 #[35, 40, 45, 50, 55], 35) := by decide +kernel
theorem dX1_tell_36 : decode cX1_tell 36 = .ok (.aload_n 0, 1) := by decide +kernel
theorem dX1_tell_37 : decode cX1_tell 37 = .ok (.getfield 21, 3) := by decide +kernel
theorem dX1_tell_40 : decode cX1_tell 40 = .ok (.ireturn, 1) := by decide +kernel
theorem dX1_tell_41 : decode cX1_tell 41 = .ok (.aload_n 0, 1) := by decide +kernel
theorem dX1_tell_42 : decode cX1_tell 42 = .ok (.getfield 24, 3) := by decide +kernel
theorem dX1_tell_45 : decode cX1_tell 45 = .ok (.ireturn, 1) := by decide +kernel
theorem dX1_tell_46 : decode cX1_tell 46 = .ok (.aload_n 0, 1) := by decide +kernel
theorem dX1_tell_47 : decode cX1_tell 47 = .ok (.getfield 27, 3) := by decide +kernel
theorem dX1_tell_50 : decode cX1_tell 50 = .ok (.ireturn, 1) := by decide +kernel
theorem dX1_tell_51 : decode cX1_tell 51 = .ok (.aload_n 0, 1) := by decide +kernel
theorem dX1_tell_52 : decode cX1_tell 52 = .ok (.getfield 14, 3) := by decide +kernel
theorem dX1_tell_55 : decode cX1_tell 55 = .ok (.ireturn, 1) := by decide +kernel
theorem dX1_tell_56 : decode cX1_tell 56 = .ok (.aload_n 0, 1) := by decide +kernel
theorem dX1_tell_57 : decode cX1_tell 57 = .ok (.getfield 18, 3) := by decide +kernel
theorem dX1_tell_60 : decode cX1_tell 60 = .ok (.ireturn, 1) := by decide +kernel
theorem dX1_tell_61 : decode cX1_tell 61 = .ok (.aload_n 0, 1) := by decide +kernel
theorem dX1_tell_62 : decode cX1_tell 62 = .ok (.getfield 30, 3) := by decide +kernel
theorem dX1_tell_65 : decode cX1_tell 65 = .ok (.ifCond .eq 7, 3) := by decide +kernel
theorem dX1_tell_68 : decode cX1_tell 68 = .ok (.iconst 1, 1) := by decide +kernel
theorem dX1_tell_69 : decode cX1_tell 69 = .ok (.goto 4, 3) := by decide +kernel
theorem dX1_tell_72 : decode cX1_tell 72 = .ok (.iconst 0, 1) := by decide +kernel
theorem dX1_tell_73 : decode cX1_tell 73 = .ok (.ireturn, 1) := by decide +kernel
theorem dX1_whereIs_0 : decode cX1_whereIs 0 = .ok (.aload_n 0, 1) := by decide +kernel
theorem dX1_whereIs_1 : decode cX1_whereIs 1 = .ok (.getfield 21, 3) := by decide +kernel
theorem dX1_whereIs_4 : decode cX1_whereIs 4 = .ok (.bipush 10, 2) := by decide +kernel
theorem dX1_whereIs_6 : decode cX1_whereIs 6 = .ok (.idiv, 1) := by decide +kernel
theorem dX1_whereIs_7 : decode cX1_whereIs 7 = .ok (.istore_n 2, 1) := by decide +kernel
theorem dX1_whereIs_8 : decode cX1_whereIs 8 = .ok (.iload_n 1, 1) := by decide +kernel
theorem dX1_whereIs_9 : decode cX1_whereIs 9 = .ok (.iload_n 2, 1) := by decide +kernel
theorem dX1_whereIs_10 : decode cX1_whereIs 10 = .ok (.if_icmp .ge 5, 3) := by decide +kernel
theorem dX1_whereIs_13 : decode cX1_whereIs 13 = .ok (.iconst 2, 1) := by decide +kernel
theorem dX1_whereIs_14 : decode cX1_whereIs 14 = .ok (.ireturn, 1) := by decide +kernel
theorem dX1_whereIs_15 : decode cX1_whereIs 15 = .ok (.iload_n 1, 1) := by decide +kernel
theorem dX1_whereIs_16 : decode cX1_whereIs 16 = .ok (.iload_n 2, 1) := by decide +kernel
theorem dX1_whereIs_17 : decode cX1_whereIs 17 = .ok (.if_icmp .ne 5, 3) := by decide +kernel
theorem dX1_whereIs_20 : decode cX1_whereIs 20 = .ok (.iconst 3, 1) := by decide +kernel
theorem dX1_whereIs_21 : decode cX1_whereIs 21 = .ok (.ireturn, 1) := by decide +kernel
theorem dX1_whereIs_22 : decode cX1_whereIs 22 = .ok (.iload_n 1, 1) := by decide +kernel
theorem dX1_whereIs_23 : decode cX1_whereIs 23 = .ok (.iload_n 2, 1) := by decide +kernel
theorem dX1_whereIs_24 : decode cX1_whereIs 24 = .ok (.iconst 4, 1) := by decide +kernel
theorem dX1_whereIs_25 : decode cX1_whereIs 25 = .ok (.iadd, 1) := by decide +kernel
theorem dX1_whereIs_26 : decode cX1_whereIs 26 = .ok (.aload_n 0, 1) := by decide +kernel
theorem dX1_whereIs_27 : decode cX1_whereIs 27 = .ok (.getfield 21, 3) := by decide +kernel
theorem dX1_whereIs_30 : decode cX1_whereIs 30 = .ok (.bipush 40, 2) := by decide +kernel
theorem dX1_whereIs_32 : decode cX1_whereIs 32 = .ok (.idiv, 1) := by decide +kernel
theorem dX1_whereIs_33 : decode cX1_whereIs 33 = .ok (.iadd, 1) := by decide +kernel
theorem dX1_whereIs_34 : decode cX1_whereIs 34 = .ok (.if_icmp .gt 7, 3) := by decide +kernel
theorem dX1_whereIs_37 : decode cX1_whereIs 37 = .ok (.iconst 1, 1) := by decide +kernel
theorem dX1_whereIs_38 : decode cX1_whereIs 38 = .ok (.goto 4, 3) := by decide +kernel
theorem dX1_whereIs_41 : decode cX1_whereIs 41 = .ok (.iconst 0, 1) := by decide +kernel
theorem dX1_whereIs_42 : decode cX1_whereIs 42 = .ok (.ireturn, 1) := by decide +kernel
theorem dX2_init_0 : decode cX2_init 0 = .ok (.aload_n 0, 1) := by decide +kernel
theorem dX2_init_1 : decode cX2_init 1 = .ok (.invokespecial 3, 3) := by decide +kernel
theorem dX2_init_4 : decode cX2_init 4 = .ok (.aload_n 0, 1) := by decide +kernel
theorem dX2_init_5 : decode cX2_init 5 = .ok (.bipush 6, 2) := by decide +kernel
theorem dX2_init_7 : decode cX2_init 7 = .ok (.anewarray 11, 3) := by decide +kernel
theorem dX2_init_10 : decode cX2_init 10 = .ok (.putfield 13, 3) := by decide +kernel
theorem dX2_init_13 : decode cX2_init 13 = .ok (.aload_n 0, 1) := by decide +kernel
theorem dX2_init_14 : decode cX2_init 14 = .ok (.bipush 6, 2) := by decide +kernel
theorem dX2_init_16 : decode cX2_init 16 = .ok (.iconst 5, 1) := by decide +kernel
theorem dX2_init_17 : decode cX2_init 17 = .ok (.multianewarray 17 2, 4) := by decide +kernel
theorem dX2_init_21 : decode cX2_init 21 = .ok (.putfield 19, 3) := by decide +kernel
theorem dX2_init_24 : decode cX2_init 24 = .ok (.aload_n 0, 1) := by decide +kernel
theorem dX2_init_25 : decode cX2_init 25 = .ok (.bipush 6, 2) := by decide +kernel
theorem dX2_init_27 : decode cX2_init 27 = .ok (.newarray .int, 2) := by decide +kernel
theorem dX2_init_29 : decode cX2_init 29 = .ok (.putfield 22, 3) := by decide +kernel
theorem dX2_init_32 : decode cX2_init 32 = .ok (.aload_n 0, 1) := by decide +kernel
theorem dX2_init_33 : decode cX2_init 33 = .ok (.bipush 6, 2) := by decide +kernel
theorem dX2_init_35 : decode cX2_init 35 = .ok (.newarray .int, 2) := by decide +kernel
theorem dX2_init_37 : decode cX2_init 37 = .ok (.putfield 26, 3) := by decide +kernel
theorem dX2_init_40 : decode cX2_init 40 = .ok (.aload_n 0, 1) := by decide +kernel
theorem dX2_init_41 : decode cX2_init 41 = .ok (.sipush 640, 3) := by decide +kernel
theorem dX2_init_44 : decode cX2_init 44 = .ok (.newarray .int, 2) := by decide +kernel
theorem dX2_init_46 : decode cX2_init 46 = .ok (.putfield 31, 3) := by decide +kernel
theorem dX2_init_49 : decode cX2_init 49 = .ok (.aload_n 0, 1) := by decide +kernel
theorem dX2_init_50 : decode cX2_init 50 = .ok (.new 34, 3) := by decide +kernel
theorem dX2_init_53 : decode cX2_init 53 = .ok (.dup, 1) := by decide +kernel
theorem dX2_init_54 : decode cX2_init 54 = .ok (.invokespecial 36, 3) := by decide +kernel
theorem dX2_init_57 : decode cX2_init 57 = .ok (.putfield 37, 3) := by decide +kernel
theorem dX2_init_60 : decode cX2_init 60 = .ok (.iconst 0, 1) := by decide +kernel
theorem dX2_init_61 : decode cX2_init 61 = .ok (.istore_n 1, 1) := by decide +kernel
theorem dX2_init_62 : decode cX2_init 62 = .ok (.iload_n 1, 1) := by decide +kernel
theorem dX2_init_63 : decode cX2_init 63 = .ok (.iconst 5, 1) := by decide +kernel
theorem dX2_init_64 : decode cX2_init 64 = .ok (.if_icmp .gt 22, 3) := by decide +kernel
theorem dX2_init_67 : decode cX2_init 67 = .ok (.aload_n 0, 1) := by decide +kernel
theorem dX2_init_68 : decode cX2_init 68 = .ok (.getfield 13, 3) := by decide +kernel
theorem dX2_init_71 : decode cX2_init 71 = .ok (.iload_n 1, 1) := by decide +kernel
theorem dX2_init_72 : decode cX2_init 72 = .ok (.new 11, 3) := by decide +kernel
theorem dX2_init_75 : decode cX2_init 75 = .ok (.dup, 1) := by decide +kernel
theorem dX2_init_76 : decode cX2_init 76 = .ok (.invokespecial 41, 3) := by decide +kernel
theorem dX2_init_79 : decode cX2_init 79 = .ok (.aastore, 1) := by decide +kernel
theorem dX2_init_80 : decode cX2_init 80 = .ok (.iinc 1 1, 3) := by decide +kernel
theorem dX2_init_83 : decode cX2_init 83 = .ok (.goto (-21), 3) := by decide +kernel
theorem dX2_init_86 : decode cX2_init 86 = .ok (.return_, 1) := by decide +kernel
theorem dX2_seekRow_0 : decode cX2_seekRow 0 = .ok (.iload_n 2, 1) := by decide +kernel
theorem dX2_seekRow_1 : decode cX2_seekRow 1 = .ok (.aload_n 0, 1) := by decide +kernel
theorem dX2_seekRow_2 : decode cX2_seekRow 2 = .ok (.getfield 42, 3) := by decide +kernel
theorem dX2_seekRow_5 : decode cX2_seekRow 5 = .ok (.if_icmp .ne 37, 3) := by decide +kernel
theorem dX2_seekRow_8 : decode cX2_seekRow 8 = .ok (.aload_n 0, 1) := by decide +kernel
theorem dX2_seekRow_9 : decode cX2_seekRow 9 = .ok (.getfield 46, 3) := by decide +kernel
theorem dX2_seekRow_12 : decode cX2_seekRow 12 = .ok (.aload_n 1, 1) := by decide +kernel
theorem dX2_seekRow_13 : decode cX2_seekRow 13 = .ok (.getfield 49, 3) := by decide +kernel
theorem dX2_seekRow_16 : decode cX2_seekRow 16 = .ok (.if_icmp .ne 26, 3) := by decide +kernel
theorem dX2_seekRow_19 : decode cX2_seekRow 19 = .ok (.aload_n 0, 1) := by decide +kernel
theorem dX2_seekRow_20 : decode cX2_seekRow 20 = .ok (.getfield 13, 3) := by decide +kernel
theorem dX2_seekRow_23 : decode cX2_seekRow 23 = .ok (.iconst 0, 1) := by decide +kernel
theorem dX2_seekRow_24 : decode cX2_seekRow 24 = .ok (.aaload, 1) := by decide +kernel
theorem dX2_seekRow_25 : decode cX2_seekRow 25 = .ok (.aload_n 1, 1) := by decide +kernel
theorem dX2_seekRow_26 : decode cX2_seekRow 26 = .ok (.getfield 52, 3) := by decide +kernel
theorem dX2_seekRow_29 : decode cX2_seekRow 29 = .ok (.invokevirtual 56, 3) := by decide +kernel
theorem dX2_seekRow_32 : decode cX2_seekRow 32 = .ok (.ifCond .eq 10, 3) := by decide +kernel
theorem dX2_seekRow_35 : decode cX2_seekRow 35 = .ok (.aload_n 0, 1) := by decide +kernel
theorem dX2_seekRow_36 : decode cX2_seekRow 36 = .ok (.getfield 26, 3) := by decide +kernel
theorem dX2_seekRow_39 : decode cX2_seekRow 39 = .ok (.iconst 0, 1) := by decide +kernel
theorem dX2_seekRow_40 : decode cX2_seekRow 40 = .ok (.iaload, 1) := by decide +kernel
theorem dX2_seekRow_41 : decode cX2_seekRow 41 = .ok (.ireturn, 1) := by decide +kernel
theorem dX2_seekRow_42 : decode cX2_seekRow 42 = .ok (.aload_n 0, 1) := by decide +kernel
theorem dX2_seekRow_43 : decode cX2_seekRow 43 = .ok (.getfield 13, 3) := by decide +kernel
theorem dX2_seekRow_46 : decode cX2_seekRow 46 = .ok (.iconst 0, 1) := by decide +kernel
theorem dX2_seekRow_47 : decode cX2_seekRow 47 = .ok (.aaload, 1) := by decide +kernel
theorem dX2_seekRow_48 : decode cX2_seekRow 48 = .ok (.aload_n 1, 1) := by decide +kernel
theorem dX2_seekRow_49 : decode cX2_seekRow 49 = .ok (.getfield 52, 3) := by decide +kernel
theorem dX2_seekRow_52 : decode cX2_seekRow 52 = .ok (.invokevirtual 60, 3) := by decide +kernel
theorem dX2_seekRow_55 : decode cX2_seekRow 55 = .ok (.aload_n 0, 1) := by decide +kernel
theorem dX2_seekRow_56 : decode cX2_seekRow 56 = .ok (.iload_n 2, 1) := by decide +kernel
theorem dX2_seekRow_57 : decode cX2_seekRow 57 = .ok (.iconst 5, 1) := by decide +kernel
theorem dX2_seekRow_58 : decode cX2_seekRow 58 = .ok (.invokestatic 64, 3) := by decide +kernel
theorem dX2_seekRow_61 : decode cX2_seekRow 61 = .ok (.putfield 42, 3) := by decide +kernel
theorem dX2_seekRow_64 : decode cX2_seekRow 64 = .ok (.aload_n 0, 1) := by decide +kernel
theorem dX2_seekRow_65 : decode cX2_seekRow 65 = .ok (.aload_n 1, 1) := by decide +kernel
theorem dX2_seekRow_66 : decode cX2_seekRow 66 = .ok (.getfield 49, 3) := by decide +kernel
theorem dX2_seekRow_69 : decode cX2_seekRow 69 = .ok (.putfield 46, 3) := by decide +kernel
theorem dX2_seekRow_72 : decode cX2_seekRow 72 = .ok (.aload_n 0, 1) := by decide +kernel
theorem dX2_seekRow_73 : decode cX2_seekRow 73 = .ok (.iconst 0, 1) := by decide +kernel
theorem dX2_seekRow_74 : decode cX2_seekRow 74 = .ok (.putfield 70, 3) := by decide +kernel
theorem dX2_seekRow_77 : decode cX2_seekRow 77 = .ok (.aload_n 0, 1) := by decide +kernel
theorem dX2_seekRow_78 : decode cX2_seekRow 78 = .ok (.getfield 31, 3) := by decide +kernel
theorem dX2_seekRow_81 : decode cX2_seekRow 81 = .ok (.iconst (-1), 1) := by decide +kernel
theorem dX2_seekRow_82 : decode cX2_seekRow 82 = .ok (.invokestatic 73, 3) := by decide +kernel
theorem dX2_seekRow_85 : decode cX2_seekRow 85 = .ok (.aload_n 0, 1) := by decide +kernel
theorem dX2_seekRow_86 : decode cX2_seekRow 86 = .ok (.getfield 22, 3) := by decide +kernel
theorem dX2_seekRow_89 : decode cX2_seekRow 89 = .ok (.iconst 0, 1) := by decide +kernel
theorem dX2_seekRow_90 : decode cX2_seekRow 90 = .ok (.invokestatic 73, 3) := by decide +kernel
theorem dX2_seekRow_93 : decode cX2_seekRow 93 = .ok (.aload_n 0, 1) := by decide +kernel
theorem dX2_seekRow_94 : decode cX2_seekRow 94 = .ok (.aload_n 1, 1) := by decide +kernel
theorem dX2_seekRow_95 : decode cX2_seekRow 95 = .ok (.iconst 0, 1) := by decide +kernel
theorem dX2_seekRow_96 : decode cX2_seekRow 96 = .ok (.invokevirtual 79, 3) := by decide +kernel
theorem dX2_seekRow_99 : decode cX2_seekRow 99 = .ok (.ireturn, 1) := by decide +kernel
theorem dX2_moveAt_0 : decode cX2_moveAt 0 = .ok (.iload_n 1, 1) := by decide +kernel
theorem dX2_moveAt_1 : decode cX2_moveAt 1 = .ok (.ifCond .lt 24, 3) := by decide +kernel
theorem dX2_moveAt_4 : decode cX2_moveAt 4 = .ok (.iload_n 1, 1) := by decide +kernel
theorem dX2_moveAt_5 : decode cX2_moveAt 5 = .ok (.aload_n 0, 1) := by decide +kernel
theorem dX2_moveAt_6 : decode cX2_moveAt 6 = .ok (.getfield 22, 3) := by decide +kernel
theorem dX2_moveAt_9 : decode cX2_moveAt 9 = .ok (.iconst 0, 1) := by decide +kernel
theorem dX2_moveAt_10 : decode cX2_moveAt 10 = .ok (.iaload, 1) := by decide +kernel
theorem dX2_moveAt_11 : decode cX2_moveAt 11 = .ok (.if_icmp .ge 14, 3) := by decide +kernel
theorem dX2_moveAt_14 : decode cX2_moveAt 14 = .ok (.aload_n 0, 1) := by decide +kernel
theorem dX2_moveAt_15 : decode cX2_moveAt 15 = .ok (.getfield 19, 3) := by decide +kernel
theorem dX2_moveAt_18 : decode cX2_moveAt 18 = .ok (.iconst 0, 1) := by decide +kernel
theorem dX2_moveAt_19 : decode cX2_moveAt 19 = .ok (.aaload, 1) := by decide +kernel
theorem dX2_moveAt_20 : decode cX2_moveAt 20 = .ok (.iload_n 1, 1) := by decide +kernel
theorem dX2_moveAt_21 : decode cX2_moveAt 21 = .ok (.iaload, 1) := by decide +kernel
theorem dX2_moveAt_22 : decode cX2_moveAt 22 = .ok (.goto 5, 3) := by decide +kernel
theorem dX2_moveAt_25 : decode cX2_moveAt 25 = .ok (.ldc 83, 2) := by decide +kernel
theorem dX2_moveAt_27 : decode cX2_moveAt 27 = .ok (.ireturn, 1) := by decide +kernel
theorem dX2_seekFrom_0 : decode cX2_seekFrom 0 = .ok (.aload_n 0, 1) := by decide +kernel
theorem dX2_seekFrom_1 : decode cX2_seekFrom 1 = .ok (.getfield 22, 3) := by decide +kernel
theorem dX2_seekFrom_4 : decode cX2_seekFrom 4 = .ok (.iload_n 2, 1) := by decide +kernel
theorem dX2_seekFrom_5 : decode cX2_seekFrom 5 = .ok (.iconst 0, 1) := by decide +kernel
theorem dX2_seekFrom_6 : decode cX2_seekFrom 6 = .ok (.iastore, 1) := by decide +kernel
theorem dX2_seekFrom_7 : decode cX2_seekFrom 7 = .ok (.aload_n 0, 1) := by decide +kernel
theorem dX2_seekFrom_8 : decode cX2_seekFrom 8 = .ok (.getfield 26, 3) := by decide +kernel
theorem dX2_seekFrom_11 : decode cX2_seekFrom 11 = .ok (.iload_n 2, 1) := by decide +kernel
theorem dX2_seekFrom_12 : decode cX2_seekFrom 12 = .ok (.iconst 0, 1) := by decide +kernel
theorem dX2_seekFrom_13 : decode cX2_seekFrom 13 = .ok (.iastore, 1) := by decide +kernel
theorem dX2_seekFrom_14 : decode cX2_seekFrom 14 = .ok (.iload_n 2, 1) := by decide +kernel
theorem dX2_seekFrom_15 : decode cX2_seekFrom 15 = .ok (.aload_n 0, 1) := by decide +kernel
theorem dX2_seekFrom_16 : decode cX2_seekFrom 16 = .ok (.getfield 42, 3) := by decide +kernel
theorem dX2_seekFrom_19 : decode cX2_seekFrom 19 = .ok (.if_icmp .ge 15, 3) := by decide +kernel
theorem dX2_seekFrom_22 : decode cX2_seekFrom 22 = .ok (.aload_n 0, 1) := by decide +kernel
theorem dX2_seekFrom_23 : decode cX2_seekFrom 23 = .ok (.aload_n 1, 1) := by decide +kernel
theorem dX2_seekFrom_24 : decode cX2_seekFrom 24 = .ok (.iload_n 2, 1) := by decide +kernel
theorem dX2_seekFrom_25 : decode cX2_seekFrom 25 = .ok (.invokevirtual 84, 3) := by decide +kernel
theorem dX2_seekFrom_28 : decode cX2_seekFrom 28 = .ok (.aload_n 0, 1) := by decide +kernel
theorem dX2_seekFrom_29 : decode cX2_seekFrom 29 = .ok (.aload_n 1, 1) := by decide +kernel
theorem dX2_seekFrom_30 : decode cX2_seekFrom 30 = .ok (.iload_n 2, 1) := by decide +kernel
theorem dX2_seekFrom_31 : decode cX2_seekFrom 31 = .ok (.invokevirtual 88, 3) := by decide +kernel
theorem dX2_seekFrom_34 : decode cX2_seekFrom 34 = .ok (.aload_n 0, 1) := by decide +kernel
theorem dX2_seekFrom_35 : decode cX2_seekFrom 35 = .ok (.getfield 26, 3) := by decide +kernel
theorem dX2_seekFrom_38 : decode cX2_seekFrom 38 = .ok (.iload_n 2, 1) := by decide +kernel
theorem dX2_seekFrom_39 : decode cX2_seekFrom 39 = .ok (.iaload, 1) := by decide +kernel
theorem dX2_seekFrom_40 : decode cX2_seekFrom 40 = .ok (.ireturn, 1) := by decide +kernel
theorem dX2_tryTicks_0 : decode cX2_tryTicks 0 = .ok (.aload_n 0, 1) := by decide +kernel
theorem dX2_tryTicks_1 : decode cX2_tryTicks 1 = .ok (.getfield 13, 3) := by decide +kernel
theorem dX2_tryTicks_4 : decode cX2_tryTicks 4 = .ok (.iload_n 2, 1) := by decide +kernel
theorem dX2_tryTicks_5 : decode cX2_tryTicks 5 = .ok (.aaload, 1) := by decide +kernel
theorem dX2_tryTicks_6 : decode cX2_tryTicks 6 = .ok (.astore_n 3, 1) := by decide +kernel
theorem dX2_tryTicks_7 : decode cX2_tryTicks 7 = .ok (.aload_n 3, 1) := by decide +kernel
theorem dX2_tryTicks_8 : decode cX2_tryTicks 8 = .ok (.invokevirtual 91, 3) := by decide +kernel
theorem dX2_tryTicks_11 : decode cX2_tryTicks 11 = .ok (.ifCond .eq 4, 3) := by decide +kernel
theorem dX2_tryTicks_14 : decode cX2_tryTicks 14 = .ok (.return_, 1) := by decide +kernel
theorem dX2_tryTicks_15 : decode cX2_tryTicks 15 = .ok (.iload_n 2, 1) := by decide +kernel
theorem dX2_tryTicks_16 : decode cX2_tryTicks 16 = .ok (.aload_n 0, 1) := by decide +kernel
theorem dX2_tryTicks_17 : decode cX2_tryTicks 17 = .ok (.getfield 42, 3) := by decide +kernel
theorem dX2_tryTicks_20 : decode cX2_tryTicks 20 = .ok (.iconst 1, 1) := by decide +kernel
theorem dX2_tryTicks_21 : decode cX2_tryTicks 21 = .ok (.isub, 1) := by decide +kernel
theorem dX2_tryTicks_22 : decode cX2_tryTicks 22 = .ok (.if_icmp .ne 11, 3) := by decide +kernel
theorem dX2_tryTicks_25 : decode cX2_tryTicks 25 = .ok (.aload_n 0, 1) := by decide +kernel
theorem dX2_tryTicks_26 : decode cX2_tryTicks 26 = .ok (.iload_n 2, 1) := by decide +kernel
theorem dX2_tryTicks_27 : decode cX2_tryTicks 27 = .ok (.iconst 0, 1) := by decide +kernel
theorem dX2_tryTicks_28 : decode cX2_tryTicks 28 = .ok (.iconst 0, 1) := by decide +kernel
theorem dX2_tryTicks_29 : decode cX2_tryTicks 29 = .ok (.invokevirtual 95, 3) := by decide +kernel
theorem dX2_tryTicks_32 : decode cX2_tryTicks 32 = .ok (.return_, 1) := by decide +kernel
theorem dX2_tryTicks_33 : decode cX2_tryTicks 33 = .ok (.iconst (-1), 1) := by decide +kernel
theorem dX2_tryTicks_34 : decode cX2_tryTicks 34 = .ok (.istore 4, 2) := by decide +kernel
theorem dX2_tryTicks_36 : decode cX2_tryTicks 36 = .ok (.iconst 0, 1) := by decide +kernel
theorem dX2_tryTicks_37 : decode cX2_tryTicks 37 = .ok (.istore 5, 2) := by decide +kernel
theorem dX2_tryTicks_39 : decode cX2_tryTicks 39 = .ok (.iload 5, 2) := by decide +kernel
theorem dX2_tryTicks_41 : decode cX2_tryTicks 41 = .ok (.iconst 2, 1) := by decide +kernel
theorem dX2_tryTicks_42 : decode cX2_tryTicks 42 = .ok (.if_icmp .gt 42, 3) := by decide +kernel
theorem dX2_tryTicks_45 : decode cX2_tryTicks 45 = .ok (.aload_n 3, 1) := by decide +kernel
theorem dX2_tryTicks_46 : decode cX2_tryTicks 46 = .ok (.iload 5, 2) := by decide +kernel
theorem dX2_tryTicks_48 : decode cX2_tryTicks 48 = .ok (.iconst 1, 1) := by decide +kernel
theorem dX2_tryTicks_49 : decode cX2_tryTicks 49 = .ok (.iadd, 1) := by decide +kernel
theorem dX2_tryTicks_50 : decode cX2_tryTicks 50 = .ok (.invokevirtual 99, 3) := by decide +kernel
theorem dX2_tryTicks_53 : decode cX2_tryTicks 53 = .ok (.iload 4, 2) := by decide +kernel
theorem dX2_tryTicks_55 : decode cX2_tryTicks 55 = .ok (.if_icmp .eq 23, 3) := by decide +kernel
theorem dX2_tryTicks_58 : decode cX2_tryTicks 58 = .ok (.aload_n 3, 1) := by decide +kernel
theorem dX2_tryTicks_59 : decode cX2_tryTicks 59 = .ok (.iload 5, 2) := by decide +kernel
theorem dX2_tryTicks_61 : decode cX2_tryTicks 61 = .ok (.iconst 1, 1) := by decide +kernel
theorem dX2_tryTicks_62 : decode cX2_tryTicks 62 = .ok (.iadd, 1) := by decide +kernel
theorem dX2_tryTicks_63 : decode cX2_tryTicks 63 = .ok (.invokevirtual 99, 3) := by decide +kernel
theorem dX2_tryTicks_66 : decode cX2_tryTicks 66 = .ok (.istore 4, 2) := by decide +kernel
theorem dX2_tryTicks_68 : decode cX2_tryTicks 68 = .ok (.aload_n 0, 1) := by decide +kernel
theorem dX2_tryTicks_69 : decode cX2_tryTicks 69 = .ok (.aload_n 1, 1) := by decide +kernel
theorem dX2_tryTicks_70 : decode cX2_tryTicks 70 = .ok (.iload_n 2, 1) := by decide +kernel
theorem dX2_tryTicks_71 : decode cX2_tryTicks 71 = .ok (.iload 5, 2) := by decide +kernel
theorem dX2_tryTicks_73 : decode cX2_tryTicks 73 = .ok (.iload 4, 2) := by decide +kernel
theorem dX2_tryTicks_75 : decode cX2_tryTicks 75 = .ok (.invokevirtual 103, 3) := by decide +kernel
theorem dX2_tryTicks_78 : decode cX2_tryTicks 78 = .ok (.iinc 5 1, 3) := by decide +kernel
theorem dX2_tryTicks_81 : decode cX2_tryTicks 81 = .ok (.goto (-42), 3) := by decide +kernel
theorem dX2_tryTicks_84 : decode cX2_tryTicks 84 = .ok (.return_, 1) := by decide +kernel
theorem dX2_tryLets_0 : decode cX2_tryLets 0 = .ok (.aload_n 0, 1) := by decide +kernel
theorem dX2_tryLets_1 : decode cX2_tryLets 1 = .ok (.getfield 13, 3) := by decide +kernel
theorem dX2_tryLets_4 : decode cX2_tryLets 4 = .ok (.iload_n 2, 1) := by decide +kernel
theorem dX2_tryLets_5 : decode cX2_tryLets 5 = .ok (.iconst 1, 1) := by decide +kernel
theorem dX2_tryLets_6 : decode cX2_tryLets 6 = .ok (.iadd, 1) := by decide +kernel
theorem dX2_tryLets_7 : decode cX2_tryLets 7 = .ok (.aaload, 1) := by decide +kernel
theorem dX2_tryLets_8 : decode cX2_tryLets 8 = .ok (.astore 5, 2) := by decide +kernel
theorem dX2_tryLets_10 : decode cX2_tryLets 10 = .ok (.iconst (-1), 1) := by decide +kernel
theorem dX2_tryLets_11 : decode cX2_tryLets 11 = .ok (.istore 6, 2) := by decide +kernel
theorem dX2_tryLets_13 : decode cX2_tryLets 13 = .ok (.iconst 0, 1) := by decide +kernel
theorem dX2_tryLets_14 : decode cX2_tryLets 14 = .ok (.istore 7, 2) := by decide +kernel
theorem dX2_tryLets_16 : decode cX2_tryLets 16 = .ok (.iload 7, 2) := by decide +kernel
theorem dX2_tryLets_18 : decode cX2_tryLets 18 = .ok (.iconst 1, 1) := by decide +kernel
theorem dX2_tryLets_19 : decode cX2_tryLets 19 = .ok (.if_icmp .gt 74, 3) := by decide +kernel
theorem dX2_tryLets_22 : decode cX2_tryLets 22 = .ok (.aload 5, 2) := by decide +kernel
theorem dX2_tryLets_24 : decode cX2_tryLets 24 = .ok (.aload_n 0, 1) := by decide +kernel
theorem dX2_tryLets_25 : decode cX2_tryLets 25 = .ok (.getfield 13, 3) := by decide +kernel
theorem dX2_tryLets_28 : decode cX2_tryLets 28 = .ok (.iload_n 2, 1) := by decide +kernel
theorem dX2_tryLets_29 : decode cX2_tryLets 29 = .ok (.aaload, 1) := by decide +kernel
theorem dX2_tryLets_30 : decode cX2_tryLets 30 = .ok (.invokevirtual 60, 3) := by decide +kernel
theorem dX2_tryLets_33 : decode cX2_tryLets 33 = .ok (.aload 5, 2) := by decide +kernel
theorem dX2_tryLets_35 : decode cX2_tryLets 35 = .ok (.aload_n 1, 1) := by decide +kernel
theorem dX2_tryLets_36 : decode cX2_tryLets 36 = .ok (.iconst 0, 1) := by decide +kernel
theorem dX2_tryLets_37 : decode cX2_tryLets 37 = .ok (.iload_n 3, 1) := by decide +kernel
theorem dX2_tryLets_38 : decode cX2_tryLets 38 = .ok (.iconst 1, 1) := by decide +kernel
theorem dX2_tryLets_39 : decode cX2_tryLets 39 = .ok (.iadd, 1) := by decide +kernel
theorem dX2_tryLets_40 : decode cX2_tryLets 40 = .ok (.iconst 4, 1) := by decide +kernel
theorem dX2_tryLets_41 : decode cX2_tryLets 41 = .ok (.iconst 4, 1) := by decide +kernel
theorem dX2_tryLets_42 : decode cX2_tryLets 42 = .ok (.iload 7, 2) := by decide +kernel
theorem dX2_tryLets_44 : decode cX2_tryLets 44 = .ok (.imul, 1) := by decide +kernel
theorem dX2_tryLets_45 : decode cX2_tryLets 45 = .ok (.iadd, 1) := by decide +kernel
theorem dX2_tryLets_46 : decode cX2_tryLets 46 = .ok (.iload 4, 2) := by decide +kernel
theorem dX2_tryLets_48 : decode cX2_tryLets 48 = .ok (.invokevirtual 107, 3) := by decide +kernel
theorem dX2_tryLets_51 : decode cX2_tryLets 51 = .ok (.aload 5, 2) := by decide +kernel
theorem dX2_tryLets_53 : decode cX2_tryLets 53 = .ok (.getfield 111, 3) := by decide +kernel
theorem dX2_tryLets_56 : decode cX2_tryLets 56 = .ok (.iload 6, 2) := by decide +kernel
theorem dX2_tryLets_58 : decode cX2_tryLets 58 = .ok (.if_icmp .eq 29, 3) := by decide +kernel
theorem dX2_tryLets_61 : decode cX2_tryLets 61 = .ok (.aload 5, 2) := by decide +kernel
theorem dX2_tryLets_63 : decode cX2_tryLets 63 = .ok (.getfield 111, 3) := by decide +kernel
theorem dX2_tryLets_66 : decode cX2_tryLets 66 = .ok (.istore 6, 2) := by decide +kernel
theorem dX2_tryLets_68 : decode cX2_tryLets 68 = .ok (.aload_n 0, 1) := by decide +kernel
theorem dX2_tryLets_69 : decode cX2_tryLets 69 = .ok (.iload_n 2, 1) := by decide +kernel
theorem dX2_tryLets_70 : decode cX2_tryLets 70 = .ok (.iconst 2, 1) := by decide +kernel
theorem dX2_tryLets_71 : decode cX2_tryLets 71 = .ok (.iload_n 3, 1) := by decide +kernel
theorem dX2_tryLets_72 : decode cX2_tryLets 72 = .ok (.imul, 1) := by decide +kernel
theorem dX2_tryLets_73 : decode cX2_tryLets 73 = .ok (.iload 7, 2) := by decide +kernel
theorem dX2_tryLets_75 : decode cX2_tryLets 75 = .ok (.iadd, 1) := by decide +kernel
theorem dX2_tryLets_76 : decode cX2_tryLets 76 = .ok (.aload_n 0, 1) := by decide +kernel
theorem dX2_tryLets_77 : decode cX2_tryLets 77 = .ok (.aload_n 1, 1) := by decide +kernel
theorem dX2_tryLets_78 : decode cX2_tryLets 78 = .ok (.iload_n 2, 1) := by decide +kernel
theorem dX2_tryLets_79 : decode cX2_tryLets 79 = .ok (.iconst 1, 1) := by decide +kernel
theorem dX2_tryLets_80 : decode cX2_tryLets 80 = .ok (.iadd, 1) := by decide +kernel
theorem dX2_tryLets_81 : decode cX2_tryLets 81 = .ok (.invokevirtual 79, 3) := by decide +kernel
theorem dX2_tryLets_84 : decode cX2_tryLets 84 = .ok (.invokevirtual 95, 3) := by decide +kernel
theorem dX2_tryLets_87 : decode cX2_tryLets 87 = .ok (.iinc 7 1, 3) := by decide +kernel
theorem dX2_tryLets_90 : decode cX2_tryLets 90 = .ok (.goto (-74), 3) := by decide +kernel
theorem dX2_tryLets_93 : decode cX2_tryLets 93 = .ok (.return_, 1) := by decide +kernel
theorem dX2_tryThrows_0 : decode cX2_tryThrows 0 = .ok (.aload_n 1, 1) := by decide +kernel
theorem dX2_tryThrows_1 : decode cX2_tryThrows 1 = .ok (.getfield 114, 3) := by decide +kernel
theorem dX2_tryThrows_4 : decode cX2_tryThrows 4 = .ok (.iconst 2, 1) := by decide +kernel
theorem dX2_tryThrows_5 : decode cX2_tryThrows 5 = .ok (.invokevirtual 118, 3) := by decide +kernel
theorem dX2_tryThrows_8 : decode cX2_tryThrows 8 = .ok (.istore_n 3, 1) := by decide +kernel
theorem dX2_tryThrows_9 : decode cX2_tryThrows 9 = .ok (.iconst 0, 1) := by decide +kernel
theorem dX2_tryThrows_10 : decode cX2_tryThrows 10 = .ok (.istore 4, 2) := by decide +kernel
theorem dX2_tryThrows_12 : decode cX2_tryThrows 12 = .ok (.iload 4, 2) := by decide +kernel
theorem dX2_tryThrows_14 : decode cX2_tryThrows 14 = .ok (.iload_n 3, 1) := by decide +kernel
theorem dX2_tryThrows_15 : decode cX2_tryThrows 15 = .ok (.if_icmp .ge 88, 3) := by decide +kernel
theorem dX2_tryThrows_18 : decode cX2_tryThrows 18 = .ok (.aload_n 0, 1) := by decide +kernel
theorem dX2_tryThrows_19 : decode cX2_tryThrows 19 = .ok (.getfield 70, 3) := by decide +kernel
theorem dX2_tryThrows_22 : decode cX2_tryThrows 22 = .ok (.iconst 1, 1) := by decide +kernel
theorem dX2_tryThrows_23 : decode cX2_tryThrows 23 = .ok (.iload 4, 2) := by decide +kernel
theorem dX2_tryThrows_25 : decode cX2_tryThrows 25 = .ok (.ishl, 1) := by decide +kernel
theorem dX2_tryThrows_26 : decode cX2_tryThrows 26 = .ok (.iand, 1) := by decide +kernel
theorem dX2_tryThrows_27 : decode cX2_tryThrows 27 = .ok (.ifCond .ne 70, 3) := by decide +kernel
theorem dX2_tryThrows_30 : decode cX2_tryThrows 30 = .ok (.aload_n 0, 1) := by decide +kernel
theorem dX2_tryThrows_31 : decode cX2_tryThrows 31 = .ok (.aload_n 1, 1) := by decide +kernel
theorem dX2_tryThrows_32 : decode cX2_tryThrows 32 = .ok (.iload_n 2, 1) := by decide +kernel
theorem dX2_tryThrows_33 : decode cX2_tryThrows 33 = .ok (.iconst 0, 1) := by decide +kernel
theorem dX2_tryThrows_34 : decode cX2_tryThrows 34 = .ok (.iload 4, 2) := by decide +kernel
theorem dX2_tryThrows_36 : decode cX2_tryThrows 36 = .ok (.invokevirtual 121, 3) := by decide +kernel
theorem dX2_tryThrows_39 : decode cX2_tryThrows 39 = .ok (.istore 5, 2) := by decide +kernel
theorem dX2_tryThrows_41 : decode cX2_tryThrows 41 = .ok (.aload_n 0, 1) := by decide +kernel
theorem dX2_tryThrows_42 : decode cX2_tryThrows 42 = .ok (.aload_n 1, 1) := by decide +kernel
theorem dX2_tryThrows_43 : decode cX2_tryThrows 43 = .ok (.iload_n 2, 1) := by decide +kernel
theorem dX2_tryThrows_44 : decode cX2_tryThrows 44 = .ok (.iconst 1, 1) := by decide +kernel
theorem dX2_tryThrows_45 : decode cX2_tryThrows 45 = .ok (.iload 4, 2) := by decide +kernel
theorem dX2_tryThrows_47 : decode cX2_tryThrows 47 = .ok (.invokevirtual 121, 3) := by decide +kernel
theorem dX2_tryThrows_50 : decode cX2_tryThrows 50 = .ok (.istore 6, 2) := by decide +kernel
theorem dX2_tryThrows_52 : decode cX2_tryThrows 52 = .ok (.bipush 6, 2) := by decide +kernel
theorem dX2_tryThrows_54 : decode cX2_tryThrows 54 = .ok (.iconst 2, 1) := by decide +kernel
theorem dX2_tryThrows_55 : decode cX2_tryThrows 55 = .ok (.iload 4, 2) := by decide +kernel
theorem dX2_tryThrows_57 : decode cX2_tryThrows 57 = .ok (.imul, 1) := by decide +kernel
theorem dX2_tryThrows_58 : decode cX2_tryThrows 58 = .ok (.iadd, 1) := by decide +kernel
theorem dX2_tryThrows_59 : decode cX2_tryThrows 59 = .ok (.iload 6, 2) := by decide +kernel
theorem dX2_tryThrows_61 : decode cX2_tryThrows 61 = .ok (.iload 5, 2) := by decide +kernel
theorem dX2_tryThrows_63 : decode cX2_tryThrows 63 = .ok (.if_icmp .le 7, 3) := by decide +kernel
theorem dX2_tryThrows_66 : decode cX2_tryThrows 66 = .ok (.iconst 1, 1) := by decide +kernel
theorem dX2_tryThrows_67 : decode cX2_tryThrows 67 = .ok (.goto 4, 3) := by decide +kernel
theorem dX2_tryThrows_70 : decode cX2_tryThrows 70 = .ok (.iconst 0, 1) := by decide +kernel
theorem dX2_tryThrows_71 : decode cX2_tryThrows 71 = .ok (.iadd, 1) := by decide +kernel
theorem dX2_tryThrows_72 : decode cX2_tryThrows 72 = .ok (.istore 7, 2) := by decide +kernel
theorem dX2_tryThrows_74 : decode cX2_tryThrows 74 = .ok (.aload_n 0, 1) := by decide +kernel
theorem dX2_tryThrows_75 : decode cX2_tryThrows 75 = .ok (.iload_n 2, 1) := by decide +kernel
theorem dX2_tryThrows_76 : decode cX2_tryThrows 76 = .ok (.iload 7, 2) := by decide +kernel
theorem dX2_tryThrows_78 : decode cX2_tryThrows 78 = .ok (.iload 5, 2) := by decide +kernel
theorem dX2_tryThrows_80 : decode cX2_tryThrows 80 = .ok (.iload 6, 2) := by decide +kernel
theorem dX2_tryThrows_82 : decode cX2_tryThrows 82 = .ok (.invokestatic 125, 3) := by decide +kernel
theorem dX2_tryThrows_85 : decode cX2_tryThrows 85 = .ok (.aload_n 0, 1) := by decide +kernel
theorem dX2_tryThrows_86 : decode cX2_tryThrows 86 = .ok (.aload_n 1, 1) := by decide +kernel
theorem dX2_tryThrows_87 : decode cX2_tryThrows 87 = .ok (.iload_n 2, 1) := by decide +kernel
theorem dX2_tryThrows_88 : decode cX2_tryThrows 88 = .ok (.iload 4, 2) := by decide +kernel
theorem dX2_tryThrows_90 : decode cX2_tryThrows 90 = .ok (.invokevirtual 128, 3) := by decide +kernel
theorem dX2_tryThrows_93 : decode cX2_tryThrows 93 = .ok (.iadd, 1) := by decide +kernel
theorem dX2_tryThrows_94 : decode cX2_tryThrows 94 = .ok (.invokevirtual 95, 3) := by decide +kernel
theorem dX2_tryThrows_97 : decode cX2_tryThrows 97 = .ok (.iinc 4 1, 3) := by decide +kernel
theorem dX2_tryThrows_100 : decode cX2_tryThrows 100 = .ok (.goto (-88), 3) := by decide +kernel
theorem dX2_tryThrows_103 : decode cX2_tryThrows 103 = .ok (.return_, 1) := by decide +kernel
theorem dX2_seekBehindThrow_0 : decode cX2_seekBehindThrow 0 = .ok (.iload_n 2, 1) := by decide +kernel
theorem dX2_seekBehindThrow_1 : decode cX2_seekBehindThrow 1 = .ok (.aload_n 0, 1) := by decide +kernel
theorem dX2_seekBehindThrow_2 : decode cX2_seekBehindThrow 2 = .ok (.getfield 42, 3) := by decide +kernel
theorem dX2_seekBehindThrow_5 : decode cX2_seekBehindThrow 5 = .ok (.iconst 1, 1) := by decide +kernel
theorem dX2_seekBehindThrow_6 : decode cX2_seekBehindThrow 6 = .ok (.isub, 1) := by decide +kernel
theorem dX2_seekBehindThrow_7 : decode cX2_seekBehindThrow 7 = .ok (.if_icmp .ne 5, 3) := by decide +kernel
theorem dX2_seekBehindThrow_10 : decode cX2_seekBehindThrow 10 = .ok (.iconst 0, 1) := by decide +kernel
theorem dX2_seekBehindThrow_11 : decode cX2_seekBehindThrow 11 = .ok (.ireturn, 1) := by decide +kernel
theorem dX2_seekBehindThrow_12 : decode cX2_seekBehindThrow 12 = .ok (.aload_n 0, 1) := by decide +kernel
theorem dX2_seekBehindThrow_13 : decode cX2_seekBehindThrow 13 = .ok (.getfield 13, 3) := by decide +kernel
theorem dX2_seekBehindThrow_16 : decode cX2_seekBehindThrow 16 = .ok (.iload_n 2, 1) := by decide +kernel
theorem dX2_seekBehindThrow_17 : decode cX2_seekBehindThrow 17 = .ok (.iconst 1, 1) := by decide +kernel
theorem dX2_seekBehindThrow_18 : decode cX2_seekBehindThrow 18 = .ok (.iadd, 1) := by decide +kernel
theorem dX2_seekBehindThrow_19 : decode cX2_seekBehindThrow 19 = .ok (.aaload, 1) := by decide +kernel
theorem dX2_seekBehindThrow_20 : decode cX2_seekBehindThrow 20 = .ok (.astore 4, 2) := by decide +kernel
theorem dX2_seekBehindThrow_22 : decode cX2_seekBehindThrow 22 = .ok (.aload 4, 2) := by decide +kernel
theorem dX2_seekBehindThrow_24 : decode cX2_seekBehindThrow 24 = .ok (.aload_n 0, 1) := by decide +kernel
theorem dX2_seekBehindThrow_25 : decode cX2_seekBehindThrow 25 = .ok (.getfield 13, 3) := by decide +kernel
theorem dX2_seekBehindThrow_28 : decode cX2_seekBehindThrow 28 = .ok (.iload_n 2, 1) := by decide +kernel
theorem dX2_seekBehindThrow_29 : decode cX2_seekBehindThrow 29 = .ok (.aaload, 1) := by decide +kernel
theorem dX2_seekBehindThrow_30 : decode cX2_seekBehindThrow 30 = .ok (.invokevirtual 60, 3) := by decide +kernel
theorem dX2_seekBehindThrow_33 : decode cX2_seekBehindThrow 33 = .ok (.aload 4, 2) := by decide +kernel
theorem dX2_seekBehindThrow_35 : decode cX2_seekBehindThrow 35 = .ok (.invokevirtual 132, 3) := by decide +kernel
theorem dX2_seekBehindThrow_38 : decode cX2_seekBehindThrow 38 = .ok (.aload_n 0, 1) := by decide +kernel
theorem dX2_seekBehindThrow_39 : decode cX2_seekBehindThrow 39 = .ok (.dup, 1) := by decide +kernel
theorem dX2_seekBehindThrow_40 : decode cX2_seekBehindThrow 40 = .ok (.getfield 70, 3) := by decide +kernel
theorem dX2_seekBehindThrow_43 : decode cX2_seekBehindThrow 43 = .ok (.iconst 1, 1) := by decide +kernel
theorem dX2_seekBehindThrow_44 : decode cX2_seekBehindThrow 44 = .ok (.iload_n 3, 1) := by decide +kernel
theorem dX2_seekBehindThrow_45 : decode cX2_seekBehindThrow 45 = .ok (.ishl, 1) := by decide +kernel
theorem dX2_seekBehindThrow_46 : decode cX2_seekBehindThrow 46 = .ok (.ior, 1) := by decide +kernel
theorem dX2_seekBehindThrow_47 : decode cX2_seekBehindThrow 47 = .ok (.putfield 70, 3) := by decide +kernel
theorem dX2_seekBehindThrow_50 : decode cX2_seekBehindThrow 50 = .ok (.aload_n 0, 1) := by decide +kernel
theorem dX2_seekBehindThrow_51 : decode cX2_seekBehindThrow 51 = .ok (.aload_n 1, 1) := by decide +kernel
theorem dX2_seekBehindThrow_52 : decode cX2_seekBehindThrow 52 = .ok (.iload_n 2, 1) := by decide +kernel
theorem dX2_seekBehindThrow_53 : decode cX2_seekBehindThrow 53 = .ok (.iconst 1, 1) := by decide +kernel
theorem dX2_seekBehindThrow_54 : decode cX2_seekBehindThrow 54 = .ok (.iadd, 1) := by decide +kernel
theorem dX2_seekBehindThrow_55 : decode cX2_seekBehindThrow 55 = .ok (.invokevirtual 79, 3) := by decide +kernel
theorem dX2_seekBehindThrow_58 : decode cX2_seekBehindThrow 58 = .ok (.istore 5, 2) := by decide +kernel
theorem dX2_seekBehindThrow_60 : decode cX2_seekBehindThrow 60 = .ok (.aload_n 0, 1) := by decide +kernel
theorem dX2_seekBehindThrow_61 : decode cX2_seekBehindThrow 61 = .ok (.dup, 1) := by decide +kernel
theorem dX2_seekBehindThrow_62 : decode cX2_seekBehindThrow 62 = .ok (.getfield 70, 3) := by decide +kernel
theorem dX2_seekBehindThrow_65 : decode cX2_seekBehindThrow 65 = .ok (.iconst 1, 1) := by decide +kernel
theorem dX2_seekBehindThrow_66 : decode cX2_seekBehindThrow 66 = .ok (.iload_n 3, 1) := by decide +kernel
theorem dX2_seekBehindThrow_67 : decode cX2_seekBehindThrow 67 = .ok (.ishl, 1) := by decide +kernel
theorem dX2_seekBehindThrow_68 : decode cX2_seekBehindThrow 68 = .ok (.iconst (-1), 1) := by decide +kernel
theorem dX2_seekBehindThrow_69 : decode cX2_seekBehindThrow 69 = .ok (.ixor, 1) := by decide +kernel
theorem dX2_seekBehindThrow_70 : decode cX2_seekBehindThrow 70 = .ok (.iand, 1) := by decide +kernel
theorem dX2_seekBehindThrow_71 : decode cX2_seekBehindThrow 71 = .ok (.putfield 70, 3) := by decide +kernel
theorem dX2_seekBehindThrow_74 : decode cX2_seekBehindThrow 74 = .ok (.iload 5, 2) := by decide +kernel
theorem dX2_seekBehindThrow_76 : decode cX2_seekBehindThrow 76 = .ok (.ireturn, 1) := by decide +kernel
theorem dX2_worthOf_0 : decode cX2_worthOf 0 = .ok (.aload_n 0, 1) := by decide +kernel
theorem dX2_worthOf_1 : decode cX2_worthOf 1 = .ok (.getfield 13, 3) := by decide +kernel
theorem dX2_worthOf_4 : decode cX2_worthOf 4 = .ok (.iload_n 2, 1) := by decide +kernel
theorem dX2_worthOf_5 : decode cX2_worthOf 5 = .ok (.aaload, 1) := by decide +kernel
theorem dX2_worthOf_6 : decode cX2_worthOf 6 = .ok (.astore 5, 2) := by decide +kernel
theorem dX2_worthOf_8 : decode cX2_worthOf 8 = .ok (.iload_n 2, 1) := by decide +kernel
theorem dX2_worthOf_9 : decode cX2_worthOf 9 = .ok (.iconst 4, 1) := by decide +kernel
theorem dX2_worthOf_10 : decode cX2_worthOf 10 = .ok (.imul, 1) := by decide +kernel
theorem dX2_worthOf_11 : decode cX2_worthOf 11 = .ok (.iload 4, 2) := by decide +kernel
theorem dX2_worthOf_13 : decode cX2_worthOf 13 = .ok (.iadd, 1) := by decide +kernel
theorem dX2_worthOf_14 : decode cX2_worthOf 14 = .ok (.iconst 2, 1) := by decide +kernel
theorem dX2_worthOf_15 : decode cX2_worthOf 15 = .ok (.imul, 1) := by decide +kernel
theorem dX2_worthOf_16 : decode cX2_worthOf 16 = .ok (.iload_n 3, 1) := by decide +kernel
theorem dX2_worthOf_17 : decode cX2_worthOf 17 = .ok (.iadd, 1) := by decide +kernel
theorem dX2_worthOf_18 : decode cX2_worthOf 18 = .ok (.bipush 16, 2) := by decide +kernel
theorem dX2_worthOf_20 : decode cX2_worthOf 20 = .ok (.imul, 1) := by decide +kernel
theorem dX2_worthOf_21 : decode cX2_worthOf 21 = .ok (.aload 5, 2) := by decide +kernel
theorem dX2_worthOf_23 : decode cX2_worthOf 23 = .ok (.getfield 135, 3) := by decide +kernel
theorem dX2_worthOf_26 : decode cX2_worthOf 26 = .ok (.iadd, 1) := by decide +kernel
theorem dX2_worthOf_27 : decode cX2_worthOf 27 = .ok (.istore 6, 2) := by decide +kernel
theorem dX2_worthOf_29 : decode cX2_worthOf 29 = .ok (.iload 6, 2) := by decide +kernel
theorem dX2_worthOf_31 : decode cX2_worthOf 31 = .ok (.ifCond .lt 17, 3) := by decide +kernel
theorem dX2_worthOf_34 : decode cX2_worthOf 34 = .ok (.iload 6, 2) := by decide +kernel
theorem dX2_worthOf_36 : decode cX2_worthOf 36 = .ok (.aload_n 0, 1) := by decide +kernel
theorem dX2_worthOf_37 : decode cX2_worthOf 37 = .ok (.getfield 31, 3) := by decide +kernel
theorem dX2_worthOf_40 : decode cX2_worthOf 40 = .ok (.arraylength, 1) := by decide +kernel
theorem dX2_worthOf_41 : decode cX2_worthOf 41 = .ok (.if_icmp .ge 7, 3) := by decide +kernel
theorem dX2_worthOf_44 : decode cX2_worthOf 44 = .ok (.iconst 1, 1) := by decide +kernel
theorem dX2_worthOf_45 : decode cX2_worthOf 45 = .ok (.goto 4, 3) := by decide +kernel
theorem dX2_worthOf_48 : decode cX2_worthOf 48 = .ok (.iconst 0, 1) := by decide +kernel
theorem dX2_worthOf_49 : decode cX2_worthOf 49 = .ok (.istore 7, 2) := by decide +kernel
theorem dX2_worthOf_51 : decode cX2_worthOf 51 = .ok (.iload 7, 2) := by decide +kernel
theorem dX2_worthOf_53 : decode cX2_worthOf 53 = .ok (.ifCond .eq 42, 3) := by decide +kernel
theorem dX2_worthOf_56 : decode cX2_worthOf 56 = .ok (.aload_n 0, 1) := by decide +kernel
theorem dX2_worthOf_57 : decode cX2_worthOf 57 = .ok (.getfield 31, 3) := by decide +kernel
theorem dX2_worthOf_60 : decode cX2_worthOf 60 = .ok (.iload 6, 2) := by decide +kernel
theorem dX2_worthOf_62 : decode cX2_worthOf 62 = .ok (.iaload, 1) := by decide +kernel
theorem dX2_worthOf_63 : decode cX2_worthOf 63 = .ok (.iconst (-1), 1) := by decide +kernel
theorem dX2_worthOf_64 : decode cX2_worthOf 64 = .ok (.if_icmp .ne 31, 3) := by decide +kernel
theorem dX2_worthOf_67 : decode cX2_worthOf 67 = .ok (.aload_n 0, 1) := by decide +kernel
theorem dX2_worthOf_68 : decode cX2_worthOf 68 = .ok (.getfield 31, 3) := by decide +kernel
theorem dX2_worthOf_71 : decode cX2_worthOf 71 = .ok (.iload 6, 2) := by decide +kernel
theorem dX2_worthOf_73 : decode cX2_worthOf 73 = .ok (.aload_n 0, 1) := by decide +kernel
theorem dX2_worthOf_74 : decode cX2_worthOf 74 = .ok (.getfield 37, 3) := by decide +kernel
theorem dX2_worthOf_77 : decode cX2_worthOf 77 = .ok (.aload_n 1, 1) := by decide +kernel
theorem dX2_worthOf_78 : decode cX2_worthOf 78 = .ok (.aload 5, 2) := by decide +kernel
theorem dX2_worthOf_80 : decode cX2_worthOf 80 = .ok (.getfield 138, 3) := by decide +kernel
theorem dX2_worthOf_83 : decode cX2_worthOf 83 = .ok (.aload 5, 2) := by decide +kernel
theorem dX2_worthOf_85 : decode cX2_worthOf 85 = .ok (.getfield 135, 3) := by decide +kernel
theorem dX2_worthOf_88 : decode cX2_worthOf 88 = .ok (.iload_n 3, 1) := by decide +kernel
theorem dX2_worthOf_89 : decode cX2_worthOf 89 = .ok (.iload 4, 2) := by decide +kernel
theorem dX2_worthOf_91 : decode cX2_worthOf 91 = .ok (.invokevirtual 141, 3) := by decide +kernel
theorem dX2_worthOf_94 : decode cX2_worthOf 94 = .ok (.iastore, 1) := by decide +kernel
theorem dX2_worthOf_95 : decode cX2_worthOf 95 = .ok (.iload 7, 2) := by decide +kernel
theorem dX2_worthOf_97 : decode cX2_worthOf 97 = .ok (.ifCond .eq 30, 3) := by decide +kernel
theorem dX2_worthOf_100 : decode cX2_worthOf 100 = .ok (.aload 5, 2) := by decide +kernel
theorem dX2_worthOf_102 : decode cX2_worthOf 102 = .ok (.invokevirtual 91, 3) := by decide +kernel
theorem dX2_worthOf_105 : decode cX2_worthOf 105 = .ok (.ifCond .ne 22, 3) := by decide +kernel
theorem dX2_worthOf_108 : decode cX2_worthOf 108 = .ok (.aload 5, 2) := by decide +kernel
theorem dX2_worthOf_110 : decode cX2_worthOf 110 = .ok (.getfield 111, 3) := by decide +kernel
theorem dX2_worthOf_113 : decode cX2_worthOf 113 = .ok (.aload_n 0, 1) := by decide +kernel
theorem dX2_worthOf_114 : decode cX2_worthOf 114 = .ok (.getfield 31, 3) := by decide +kernel
theorem dX2_worthOf_117 : decode cX2_worthOf 117 = .ok (.iload 6, 2) := by decide +kernel
theorem dX2_worthOf_119 : decode cX2_worthOf 119 = .ok (.iaload, 1) := by decide +kernel
theorem dX2_worthOf_120 : decode cX2_worthOf 120 = .ok (.if_icmp .lt 7, 3) := by decide +kernel
theorem dX2_worthOf_123 : decode cX2_worthOf 123 = .ok (.iconst 1, 1) := by decide +kernel
theorem dX2_worthOf_124 : decode cX2_worthOf 124 = .ok (.goto 4, 3) := by decide +kernel
theorem dX2_worthOf_127 : decode cX2_worthOf 127 = .ok (.iconst 0, 1) := by decide +kernel
theorem dX2_worthOf_128 : decode cX2_worthOf 128 = .ok (.istore 8, 2) := by decide +kernel
theorem dX2_worthOf_130 : decode cX2_worthOf 130 = .ok (.aload_n 1, 1) := by decide +kernel
theorem dX2_worthOf_131 : decode cX2_worthOf 131 = .ok (.getfield 114, 3) := by decide +kernel
theorem dX2_worthOf_134 : decode cX2_worthOf 134 = .ok (.iload_n 3, 1) := by decide +kernel
theorem dX2_worthOf_135 : decode cX2_worthOf 135 = .ok (.aload 5, 2) := by decide +kernel
theorem dX2_worthOf_137 : decode cX2_worthOf 137 = .ok (.getfield 138, 3) := by decide +kernel
theorem dX2_worthOf_140 : decode cX2_worthOf 140 = .ok (.iload 8, 2) := by decide +kernel
theorem dX2_worthOf_142 : decode cX2_worthOf 142 = .ok (.invokevirtual 145, 3) := by decide +kernel
theorem dX2_worthOf_145 : decode cX2_worthOf 145 = .ok (.ireturn, 1) := by decide +kernel
theorem dX2_offer_0 : decode cX2_offer 0 = .ok (.aload_n 0, 1) := by decide +kernel
theorem dX2_offer_1 : decode cX2_offer 1 = .ok (.getfield 22, 3) := by decide +kernel
theorem dX2_offer_4 : decode cX2_offer 4 = .ok (.iload_n 1, 1) := by decide +kernel
theorem dX2_offer_5 : decode cX2_offer 5 = .ok (.iaload, 1) := by decide +kernel
theorem dX2_offer_6 : decode cX2_offer 6 = .ok (.ifCond .le 14, 3) := by decide +kernel
theorem dX2_offer_9 : decode cX2_offer 9 = .ok (.iload_n 3, 1) := by decide +kernel
theorem dX2_offer_10 : decode cX2_offer 10 = .ok (.aload_n 0, 1) := by decide +kernel
theorem dX2_offer_11 : decode cX2_offer 11 = .ok (.getfield 26, 3) := by decide +kernel
theorem dX2_offer_14 : decode cX2_offer 14 = .ok (.iload_n 1, 1) := by decide +kernel
theorem dX2_offer_15 : decode cX2_offer 15 = .ok (.iaload, 1) := by decide +kernel
theorem dX2_offer_16 : decode cX2_offer 16 = .ok (.if_icmp .gt 4, 3) := by decide +kernel
theorem dX2_offer_19 : decode cX2_offer 19 = .ok (.return_, 1) := by decide +kernel
theorem dX2_offer_20 : decode cX2_offer 20 = .ok (.aload_n 0, 1) := by decide +kernel
theorem dX2_offer_21 : decode cX2_offer 21 = .ok (.getfield 22, 3) := by decide +kernel
theorem dX2_offer_24 : decode cX2_offer 24 = .ok (.iload_n 1, 1) := by decide +kernel
theorem dX2_offer_25 : decode cX2_offer 25 = .ok (.iconst 1, 1) := by decide +kernel
theorem dX2_offer_26 : decode cX2_offer 26 = .ok (.iadd, 1) := by decide +kernel
theorem dX2_offer_27 : decode cX2_offer 27 = .ok (.iaload, 1) := by decide +kernel
theorem dX2_offer_28 : decode cX2_offer 28 = .ok (.iconst 4, 1) := by decide +kernel
theorem dX2_offer_29 : decode cX2_offer 29 = .ok (.invokestatic 64, 3) := by decide +kernel
theorem dX2_offer_32 : decode cX2_offer 32 = .ok (.istore 4, 2) := by decide +kernel
theorem dX2_offer_34 : decode cX2_offer 34 = .ok (.aload_n 0, 1) := by decide +kernel
theorem dX2_offer_35 : decode cX2_offer 35 = .ok (.getfield 26, 3) := by decide +kernel
theorem dX2_offer_38 : decode cX2_offer 38 = .ok (.iload_n 1, 1) := by decide +kernel
theorem dX2_offer_39 : decode cX2_offer 39 = .ok (.iload_n 3, 1) := by decide +kernel
theorem dX2_offer_40 : decode cX2_offer 40 = .ok (.iastore, 1) := by decide +kernel
theorem dX2_offer_41 : decode cX2_offer 41 = .ok (.aload_n 0, 1) := by decide +kernel
theorem dX2_offer_42 : decode cX2_offer 42 = .ok (.getfield 19, 3) := by decide +kernel
theorem dX2_offer_45 : decode cX2_offer 45 = .ok (.iload_n 1, 1) := by decide +kernel
theorem dX2_offer_46 : decode cX2_offer 46 = .ok (.aaload, 1) := by decide +kernel
theorem dX2_offer_47 : decode cX2_offer 47 = .ok (.iconst 0, 1) := by decide +kernel
theorem dX2_offer_48 : decode cX2_offer 48 = .ok (.iload_n 2, 1) := by decide +kernel
theorem dX2_offer_49 : decode cX2_offer 49 = .ok (.iastore, 1) := by decide +kernel
theorem dX2_offer_50 : decode cX2_offer 50 = .ok (.aload_n 0, 1) := by decide +kernel
theorem dX2_offer_51 : decode cX2_offer 51 = .ok (.getfield 19, 3) := by decide +kernel
theorem dX2_offer_54 : decode cX2_offer 54 = .ok (.iload_n 1, 1) := by decide +kernel
theorem dX2_offer_55 : decode cX2_offer 55 = .ok (.iconst 1, 1) := by decide +kernel
theorem dX2_offer_56 : decode cX2_offer 56 = .ok (.iadd, 1) := by decide +kernel
theorem dX2_offer_57 : decode cX2_offer 57 = .ok (.aaload, 1) := by decide +kernel
theorem dX2_offer_58 : decode cX2_offer 58 = .ok (.iconst 0, 1) := by decide +kernel
theorem dX2_offer_59 : decode cX2_offer 59 = .ok (.aload_n 0, 1) := by decide +kernel
theorem dX2_offer_60 : decode cX2_offer 60 = .ok (.getfield 19, 3) := by decide +kernel
theorem dX2_offer_63 : decode cX2_offer 63 = .ok (.iload_n 1, 1) := by decide +kernel
theorem dX2_offer_64 : decode cX2_offer 64 = .ok (.aaload, 1) := by decide +kernel
theorem dX2_offer_65 : decode cX2_offer 65 = .ok (.iconst 1, 1) := by decide +kernel
theorem dX2_offer_66 : decode cX2_offer 66 = .ok (.iload 4, 2) := by decide +kernel
theorem dX2_offer_68 : decode cX2_offer 68 = .ok (.invokestatic 149, 3) := by decide +kernel
theorem dX2_offer_71 : decode cX2_offer 71 = .ok (.aload_n 0, 1) := by decide +kernel
theorem dX2_offer_72 : decode cX2_offer 72 = .ok (.getfield 22, 3) := by decide +kernel
theorem dX2_offer_75 : decode cX2_offer 75 = .ok (.iload_n 1, 1) := by decide +kernel
theorem dX2_offer_76 : decode cX2_offer 76 = .ok (.iconst 1, 1) := by decide +kernel
theorem dX2_offer_77 : decode cX2_offer 77 = .ok (.iload 4, 2) := by decide +kernel
theorem dX2_offer_79 : decode cX2_offer 79 = .ok (.iadd, 1) := by decide +kernel
theorem dX2_offer_80 : decode cX2_offer 80 = .ok (.iastore, 1) := by decide +kernel
theorem dX2_offer_81 : decode cX2_offer 81 = .ok (.return_, 1) := by decide +kernel
theorem dX3_init_0 : decode cX3_init 0 = .ok (.aload_n 0, 1) := by decide +kernel
theorem dX3_init_1 : decode cX3_init 1 = .ok (.invokespecial 5, 3) := by decide +kernel
theorem dX3_init_4 : decode cX3_init 4 = .ok (.aload_n 0, 1) := by decide +kernel
theorem dX3_init_5 : decode cX3_init 5 = .ok (.sipush 11584, 3) := by decide +kernel
theorem dX3_init_8 : decode cX3_init 8 = .ok (.newarray .long, 2) := by decide +kernel
theorem dX3_init_10 : decode cX3_init 10 = .ok (.putfield 11, 3) := by decide +kernel
theorem dX3_init_13 : decode cX3_init 13 = .ok (.aload_n 0, 1) := by decide +kernel
theorem dX3_init_14 : decode cX3_init 14 = .ok (.sipush 11584, 3) := by decide +kernel
theorem dX3_init_17 : decode cX3_init 17 = .ok (.newarray .long, 2) := by decide +kernel
theorem dX3_init_19 : decode cX3_init 19 = .ok (.putfield 15, 3) := by decide +kernel
theorem dX3_init_22 : decode cX3_init 22 = .ok (.return_, 1) := by decide +kernel
theorem dX3_ticksTo_0 : decode cX3_ticksTo 0 = .ok (.aload_n 1, 1) := by decide +kernel
theorem dX3_ticksTo_1 : decode cX3_ticksTo 1 = .ok (.getfield 18, 3) := by decide +kernel
theorem dX3_ticksTo_4 : decode cX3_ticksTo 4 = .ok (.astore 4, 2) := by decide +kernel
theorem dX3_ticksTo_6 : decode cX3_ticksTo 6 = .ok (.aload 4, 2) := by decide +kernel
theorem dX3_ticksTo_8 : decode cX3_ticksTo 8 = .ok (.getfield 24, 3) := by decide +kernel
theorem dX3_ticksTo_11 : decode cX3_ticksTo 11 = .ok (.iload_n 2, 1) := by decide +kernel
theorem dX3_ticksTo_12 : decode cX3_ticksTo 12 = .ok (.if_icmp .lt 5, 3) := by decide +kernel
theorem dX3_ticksTo_15 : decode cX3_ticksTo 15 = .ok (.iconst 0, 1) := by decide +kernel
theorem dX3_ticksTo_16 : decode cX3_ticksTo 16 = .ok (.ireturn, 1) := by decide +kernel
theorem dX3_ticksTo_17 : decode cX3_ticksTo 17 = .ok (.aload 4, 2) := by decide +kernel
theorem dX3_ticksTo_19 : decode cX3_ticksTo 19 = .ok (.invokevirtual 30, 3) := by decide +kernel
theorem dX3_ticksTo_22 : decode cX3_ticksTo 22 = .ok (.ifCond .ne 11, 3) := by decide +kernel
theorem dX3_ticksTo_25 : decode cX3_ticksTo 25 = .ok (.iload_n 2, 1) := by decide +kernel
theorem dX3_ticksTo_26 : decode cX3_ticksTo 26 = .ok (.aload_n 1, 1) := by decide +kernel
theorem dX3_ticksTo_27 : decode cX3_ticksTo 27 = .ok (.invokevirtual 34, 3) := by decide +kernel
theorem dX3_ticksTo_30 : decode cX3_ticksTo 30 = .ok (.if_icmp .le 6, 3) := by decide +kernel
theorem dX3_ticksTo_33 : decode cX3_ticksTo 33 = .ok (.ldc 38, 2) := by decide +kernel
theorem dX3_ticksTo_35 : decode cX3_ticksTo 35 = .ok (.ireturn, 1) := by decide +kernel
theorem dX3_ticksTo_36 : decode cX3_ticksTo 36 = .ok (.aload_n 0, 1) := by decide +kernel
theorem dX3_ticksTo_37 : decode cX3_ticksTo 37 = .ok (.getfield 11, 3) := by decide +kernel
theorem dX3_ticksTo_40 : decode cX3_ticksTo 40 = .ok (.lconst 0, 1) := by decide +kernel
theorem dX3_ticksTo_41 : decode cX3_ticksTo 41 = .ok (.invokestatic 39, 3) := by decide +kernel
theorem dX3_ticksTo_44 : decode cX3_ticksTo 44 = .ok (.aload_n 0, 1) := by decide +kernel
theorem dX3_ticksTo_45 : decode cX3_ticksTo 45 = .ok (.getfield 15, 3) := by decide +kernel
theorem dX3_ticksTo_48 : decode cX3_ticksTo 48 = .ok (.lconst 0, 1) := by decide +kernel
theorem dX3_ticksTo_49 : decode cX3_ticksTo 49 = .ok (.invokestatic 39, 3) := by decide +kernel
theorem dX3_ticksTo_52 : decode cX3_ticksTo 52 = .ok (.aload_n 0, 1) := by decide +kernel
theorem dX3_ticksTo_53 : decode cX3_ticksTo 53 = .ok (.aload 4, 2) := by decide +kernel
theorem dX3_ticksTo_55 : decode cX3_ticksTo 55 = .ok (.getfield 45, 3) := by decide +kernel
theorem dX3_ticksTo_58 : decode cX3_ticksTo 58 = .ok (.putfield 48, 3) := by decide +kernel
theorem dX3_ticksTo_61 : decode cX3_ticksTo 61 = .ok (.aload_n 0, 1) := by decide +kernel
theorem dX3_ticksTo_62 : decode cX3_ticksTo 62 = .ok (.iload_n 2, 1) := by decide +kernel
theorem dX3_ticksTo_63 : decode cX3_ticksTo 63 = .ok (.putfield 49, 3) := by decide +kernel
theorem dX3_ticksTo_66 : decode cX3_ticksTo 66 = .ok (.aload_n 0, 1) := by decide +kernel
theorem dX3_ticksTo_67 : decode cX3_ticksTo 67 = .ok (.iconst 0, 1) := by decide +kernel
theorem dX3_ticksTo_68 : decode cX3_ticksTo 68 = .ok (.putfield 52, 3) := by decide +kernel
theorem dX3_ticksTo_71 : decode cX3_ticksTo 71 = .ok (.aload_n 0, 1) := by decide +kernel
theorem dX3_ticksTo_72 : decode cX3_ticksTo 72 = .ok (.aload_n 0, 1) := by decide +kernel
theorem dX3_ticksTo_73 : decode cX3_ticksTo 73 = .ok (.getfield 11, 3) := by decide +kernel
theorem dX3_ticksTo_76 : decode cX3_ticksTo 76 = .ok (.aload 4, 2) := by decide +kernel
theorem dX3_ticksTo_78 : decode cX3_ticksTo 78 = .ok (.getfield 56, 3) := by decide +kernel
theorem dX3_ticksTo_81 : decode cX3_ticksTo 81 = .ok (.iconst 0, 1) := by decide +kernel
theorem dX3_ticksTo_82 : decode cX3_ticksTo 82 = .ok (.invokestatic 59, 3) := by decide +kernel
theorem dX3_ticksTo_85 : decode cX3_ticksTo 85 = .ok (.aload 4, 2) := by decide +kernel
theorem dX3_ticksTo_87 : decode cX3_ticksTo 87 = .ok (.getfield 24, 3) := by decide +kernel
theorem dX3_ticksTo_90 : decode cX3_ticksTo 90 = .ok (.lconst 1, 1) := by decide +kernel
theorem dX3_ticksTo_91 : decode cX3_ticksTo 91 = .ok (.invokevirtual 63, 3) := by decide +kernel
theorem dX3_ticksTo_94 : decode cX3_ticksTo 94 = .ok (.iconst 1, 1) := by decide +kernel
theorem dX3_ticksTo_95 : decode cX3_ticksTo 95 = .ok (.istore 5, 2) := by decide +kernel
theorem dX3_ticksTo_97 : decode cX3_ticksTo 97 = .ok (.iload 5, 2) := by decide +kernel
theorem dX3_ticksTo_99 : decode cX3_ticksTo 99 = .ok (.iload_n 3, 1) := by decide +kernel
theorem dX3_ticksTo_100 : decode cX3_ticksTo 100 = .ok (.if_icmp .gt 58, 3) := by decide +kernel
theorem dX3_ticksTo_103 : decode cX3_ticksTo 103 = .ok (.iload 5, 2) := by decide +kernel
theorem dX3_ticksTo_105 : decode cX3_ticksTo 105 = .ok (.bipush 12, 2) := by decide +kernel
theorem dX3_ticksTo_107 : decode cX3_ticksTo 107 = .ok (.if_icmp .gt 51, 3) := by decide +kernel
theorem dX3_ticksTo_110 : decode cX3_ticksTo 110 = .ok (.aload_n 0, 1) := by decide +kernel
theorem dX3_ticksTo_111 : decode cX3_ticksTo 111 = .ok (.aload_n 1, 1) := by decide +kernel
theorem dX3_ticksTo_112 : decode cX3_ticksTo 112 = .ok (.bipush 15, 2) := by decide +kernel
theorem dX3_ticksTo_114 : decode cX3_ticksTo 114 = .ok (.iload 5, 2) := by decide +kernel
theorem dX3_ticksTo_116 : decode cX3_ticksTo 116 = .ok (.iconst 1, 1) := by decide +kernel
theorem dX3_ticksTo_117 : decode cX3_ticksTo 117 = .ok (.isub, 1) := by decide +kernel
theorem dX3_ticksTo_118 : decode cX3_ticksTo 118 = .ok (.imul, 1) := by decide +kernel
theorem dX3_ticksTo_119 : decode cX3_ticksTo 119 = .ok (.invokevirtual 67, 3) := by decide +kernel
theorem dX3_ticksTo_122 : decode cX3_ticksTo 122 = .ok (.aload_n 0, 1) := by decide +kernel
theorem dX3_ticksTo_123 : decode cX3_ticksTo 123 = .ok (.getfield 52, 3) := by decide +kernel
theorem dX3_ticksTo_126 : decode cX3_ticksTo 126 = .ok (.ifCond .eq 6, 3) := by decide +kernel
theorem dX3_ticksTo_129 : decode cX3_ticksTo 129 = .ok (.iload 5, 2) := by decide +kernel
theorem dX3_ticksTo_131 : decode cX3_ticksTo 131 = .ok (.ireturn, 1) := by decide +kernel
theorem dX3_ticksTo_132 : decode cX3_ticksTo 132 = .ok (.aload_n 0, 1) := by decide +kernel
theorem dX3_ticksTo_133 : decode cX3_ticksTo 133 = .ok (.getfield 11, 3) := by decide +kernel
theorem dX3_ticksTo_136 : decode cX3_ticksTo 136 = .ok (.astore 6, 2) := by decide +kernel
theorem dX3_ticksTo_138 : decode cX3_ticksTo 138 = .ok (.aload_n 0, 1) := by decide +kernel
theorem dX3_ticksTo_139 : decode cX3_ticksTo 139 = .ok (.aload_n 0, 1) := by decide +kernel
theorem dX3_ticksTo_140 : decode cX3_ticksTo 140 = .ok (.getfield 15, 3) := by decide +kernel
theorem dX3_ticksTo_143 : decode cX3_ticksTo 143 = .ok (.putfield 11, 3) := by decide +kernel
theorem dX3_ticksTo_146 : decode cX3_ticksTo 146 = .ok (.aload_n 0, 1) := by decide +kernel
theorem dX3_ticksTo_147 : decode cX3_ticksTo 147 = .ok (.aload 6, 2) := by decide +kernel
theorem dX3_ticksTo_149 : decode cX3_ticksTo 149 = .ok (.putfield 15, 3) := by decide +kernel
theorem dX3_ticksTo_152 : decode cX3_ticksTo 152 = .ok (.iinc 5 1, 3) := by decide +kernel
theorem dX3_ticksTo_155 : decode cX3_ticksTo 155 = .ok (.goto (-58), 3) := by decide +kernel
theorem dX3_ticksTo_158 : decode cX3_ticksTo 158 = .ok (.ldc 38, 2) := by decide +kernel
theorem dX3_ticksTo_160 : decode cX3_ticksTo 160 = .ok (.ireturn, 1) := by decide +kernel
theorem dX3_placeOf_0 : decode cX3_placeOf 0 = .ok (.iload_n 0, 1) := by decide +kernel
theorem dX3_placeOf_1 : decode cX3_placeOf 1 = .ok (.sipush 181, 3) := by decide +kernel
theorem dX3_placeOf_4 : decode cX3_placeOf 4 = .ok (.imul, 1) := by decide +kernel
theorem dX3_placeOf_5 : decode cX3_placeOf 5 = .ok (.iload_n 1, 1) := by decide +kernel
theorem dX3_placeOf_6 : decode cX3_placeOf 6 = .ok (.iadd, 1) := by decide +kernel
theorem dX3_placeOf_7 : decode cX3_placeOf 7 = .ok (.iconst 4, 1) := by decide +kernel
theorem dX3_placeOf_8 : decode cX3_placeOf 8 = .ok (.imul, 1) := by decide +kernel
theorem dX3_placeOf_9 : decode cX3_placeOf 9 = .ok (.ireturn, 1) := by decide +kernel
theorem dX3_spreadAll_0 : decode cX3_spreadAll 0 = .ok (.iconst 0, 1) := by decide +kernel
theorem dX3_spreadAll_1 : decode cX3_spreadAll 1 = .ok (.istore_n 3, 1) := by decide +kernel
theorem dX3_spreadAll_2 : decode cX3_spreadAll 2 = .ok (.iload_n 3, 1) := by decide +kernel
theorem dX3_spreadAll_3 : decode cX3_spreadAll 3 = .ok (.bipush 16, 2) := by decide +kernel
theorem dX3_spreadAll_5 : decode cX3_spreadAll 5 = .ok (.if_icmp .ge 98, 3) := by decide +kernel
theorem dX3_spreadAll_8 : decode cX3_spreadAll 8 = .ok (.iconst 0, 1) := by decide +kernel
theorem dX3_spreadAll_9 : decode cX3_spreadAll 9 = .ok (.istore 4, 2) := by decide +kernel
theorem dX3_spreadAll_11 : decode cX3_spreadAll 11 = .ok (.iload 4, 2) := by decide +kernel
theorem dX3_spreadAll_13 : decode cX3_spreadAll 13 = .ok (.iload_n 2, 1) := by decide +kernel
theorem dX3_spreadAll_14 : decode cX3_spreadAll 14 = .ok (.if_icmp .gt 83, 3) := by decide +kernel
theorem dX3_spreadAll_17 : decode cX3_spreadAll 17 = .ok (.iload 4, 2) := by decide +kernel
theorem dX3_spreadAll_19 : decode cX3_spreadAll 19 = .ok (.sipush 181, 3) := by decide +kernel
theorem dX3_spreadAll_22 : decode cX3_spreadAll 22 = .ok (.if_icmp .ge 75, 3) := by decide +kernel
theorem dX3_spreadAll_25 : decode cX3_spreadAll 25 = .ok (.iload_n 3, 1) := by decide +kernel
theorem dX3_spreadAll_26 : decode cX3_spreadAll 26 = .ok (.iload 4, 2) := by decide +kernel
theorem dX3_spreadAll_28 : decode cX3_spreadAll 28 = .ok (.invokestatic 59, 3) := by decide +kernel
theorem dX3_spreadAll_31 : decode cX3_spreadAll 31 = .ok (.istore 5, 2) := by decide +kernel
theorem dX3_spreadAll_33 : decode cX3_spreadAll 33 = .ok (.aload_n 0, 1) := by decide +kernel
theorem dX3_spreadAll_34 : decode cX3_spreadAll 34 = .ok (.getfield 11, 3) := by decide +kernel
theorem dX3_spreadAll_37 : decode cX3_spreadAll 37 = .ok (.iload 5, 2) := by decide +kernel
theorem dX3_spreadAll_39 : decode cX3_spreadAll 39 = .ok (.laload, 1) := by decide +kernel
theorem dX3_spreadAll_40 : decode cX3_spreadAll 40 = .ok (.aload_n 0, 1) := by decide +kernel
theorem dX3_spreadAll_41 : decode cX3_spreadAll 41 = .ok (.getfield 11, 3) := by decide +kernel
theorem dX3_spreadAll_44 : decode cX3_spreadAll 44 = .ok (.iload 5, 2) := by decide +kernel
theorem dX3_spreadAll_46 : decode cX3_spreadAll 46 = .ok (.iconst 1, 1) := by decide +kernel
theorem dX3_spreadAll_47 : decode cX3_spreadAll 47 = .ok (.iadd, 1) := by decide +kernel
theorem dX3_spreadAll_48 : decode cX3_spreadAll 48 = .ok (.laload, 1) := by decide +kernel
theorem dX3_spreadAll_49 : decode cX3_spreadAll 49 = .ok (.lor, 1) := by decide +kernel
theorem dX3_spreadAll_50 : decode cX3_spreadAll 50 = .ok (.aload_n 0, 1) := by decide +kernel
theorem dX3_spreadAll_51 : decode cX3_spreadAll 51 = .ok (.getfield 11, 3) := by decide +kernel
theorem dX3_spreadAll_54 : decode cX3_spreadAll 54 = .ok (.iload 5, 2) := by decide +kernel
theorem dX3_spreadAll_56 : decode cX3_spreadAll 56 = .ok (.iconst 2, 1) := by decide +kernel
theorem dX3_spreadAll_57 : decode cX3_spreadAll 57 = .ok (.iadd, 1) := by decide +kernel
theorem dX3_spreadAll_58 : decode cX3_spreadAll 58 = .ok (.laload, 1) := by decide +kernel
theorem dX3_spreadAll_59 : decode cX3_spreadAll 59 = .ok (.lor, 1) := by decide +kernel
theorem dX3_spreadAll_60 : decode cX3_spreadAll 60 = .ok (.aload_n 0, 1) := by decide +kernel
theorem dX3_spreadAll_61 : decode cX3_spreadAll 61 = .ok (.getfield 11, 3) := by decide +kernel
theorem dX3_spreadAll_64 : decode cX3_spreadAll 64 = .ok (.iload 5, 2) := by decide +kernel
theorem dX3_spreadAll_66 : decode cX3_spreadAll 66 = .ok (.iconst 3, 1) := by decide +kernel
theorem dX3_spreadAll_67 : decode cX3_spreadAll 67 = .ok (.iadd, 1) := by decide +kernel
theorem dX3_spreadAll_68 : decode cX3_spreadAll 68 = .ok (.laload, 1) := by decide +kernel
theorem dX3_spreadAll_69 : decode cX3_spreadAll 69 = .ok (.lor, 1) := by decide +kernel
theorem dX3_spreadAll_70 : decode cX3_spreadAll 70 = .ok (.lconst 0, 1) := by decide +kernel
theorem dX3_spreadAll_71 : decode cX3_spreadAll 71 = .ok (.lcmp, 1) := by decide +kernel
theorem dX3_spreadAll_72 : decode cX3_spreadAll 72 = .ok (.ifCond .eq 19, 3) := by decide +kernel
theorem dX3_spreadAll_75 : decode cX3_spreadAll 75 = .ok (.aload_n 0, 1) := by decide +kernel
theorem dX3_spreadAll_76 : decode cX3_spreadAll 76 = .ok (.aload_n 1, 1) := by decide +kernel
theorem dX3_spreadAll_77 : decode cX3_spreadAll 77 = .ok (.iload 5, 2) := by decide +kernel
theorem dX3_spreadAll_79 : decode cX3_spreadAll 79 = .ok (.iload_n 3, 1) := by decide +kernel
theorem dX3_spreadAll_80 : decode cX3_spreadAll 80 = .ok (.iload 4, 2) := by decide +kernel
theorem dX3_spreadAll_82 : decode cX3_spreadAll 82 = .ok (.invokevirtual 71, 3) := by decide +kernel
theorem dX3_spreadAll_85 : decode cX3_spreadAll 85 = .ok (.aload_n 0, 1) := by decide +kernel
theorem dX3_spreadAll_86 : decode cX3_spreadAll 86 = .ok (.iload 5, 2) := by decide +kernel
theorem dX3_spreadAll_88 : decode cX3_spreadAll 88 = .ok (.invokevirtual 75, 3) := by decide +kernel
theorem dX3_spreadAll_91 : decode cX3_spreadAll 91 = .ok (.iinc 4 1, 3) := by decide +kernel
theorem dX3_spreadAll_94 : decode cX3_spreadAll 94 = .ok (.goto (-83), 3) := by decide +kernel
theorem dX3_spreadAll_97 : decode cX3_spreadAll 97 = .ok (.iinc 3 1, 3) := by decide +kernel
theorem dX3_spreadAll_100 : decode cX3_spreadAll 100 = .ok (.goto (-98), 3) := by decide +kernel
theorem dX3_spreadAll_103 : decode cX3_spreadAll 103 = .ok (.return_, 1) := by decide +kernel
theorem dX3_emptyAt_0 : decode cX3_emptyAt 0 = .ok (.iconst 0, 1) := by decide +kernel
theorem dX3_emptyAt_1 : decode cX3_emptyAt 1 = .ok (.istore_n 2, 1) := by decide +kernel
theorem dX3_emptyAt_2 : decode cX3_emptyAt 2 = .ok (.iload_n 2, 1) := by decide +kernel
theorem dX3_emptyAt_3 : decode cX3_emptyAt 3 = .ok (.iconst 4, 1) := by decide +kernel
theorem dX3_emptyAt_4 : decode cX3_emptyAt 4 = .ok (.if_icmp .ge 18, 3) := by decide +kernel
theorem dX3_emptyAt_7 : decode cX3_emptyAt 7 = .ok (.aload_n 0, 1) := by decide +kernel
theorem dX3_emptyAt_8 : decode cX3_emptyAt 8 = .ok (.getfield 11, 3) := by decide +kernel
theorem dX3_emptyAt_11 : decode cX3_emptyAt 11 = .ok (.iload_n 1, 1) := by decide +kernel
theorem dX3_emptyAt_12 : decode cX3_emptyAt 12 = .ok (.iload_n 2, 1) := by decide +kernel
theorem dX3_emptyAt_13 : decode cX3_emptyAt 13 = .ok (.iadd, 1) := by decide +kernel
theorem dX3_emptyAt_14 : decode cX3_emptyAt 14 = .ok (.lconst 0, 1) := by decide +kernel
theorem dX3_emptyAt_15 : decode cX3_emptyAt 15 = .ok (.lastore, 1) := by decide +kernel
theorem dX3_emptyAt_16 : decode cX3_emptyAt 16 = .ok (.iinc 2 1, 3) := by decide +kernel
theorem dX3_emptyAt_19 : decode cX3_emptyAt 19 = .ok (.goto (-17), 3) := by decide +kernel
theorem dX3_emptyAt_22 : decode cX3_emptyAt 22 = .ok (.return_, 1) := by decide +kernel
theorem dX3_spread_0 : decode cX3_spread 0 = .ok (.iconst (-1), 1) := by decide +kernel
theorem dX3_spread_1 : decode cX3_spread 1 = .ok (.istore 5, 2) := by decide +kernel
theorem dX3_spread_3 : decode cX3_spread 3 = .ok (.iconst 1, 1) := by decide +kernel
theorem dX3_spread_4 : decode cX3_spread 4 = .ok (.istore 6, 2) := by decide +kernel
theorem dX3_spread_6 : decode cX3_spread 6 = .ok (.iload 6, 2) := by decide +kernel
theorem dX3_spread_8 : decode cX3_spread 8 = .ok (.iconst 3, 1) := by decide +kernel
theorem dX3_spread_9 : decode cX3_spread 9 = .ok (.if_icmp .gt 71, 3) := by decide +kernel
theorem dX3_spread_12 : decode cX3_spread 12 = .ok (.iload_n 3, 1) := by decide +kernel
theorem dX3_spread_13 : decode cX3_spread 13 = .ok (.iload 6, 2) := by decide +kernel
theorem dX3_spread_15 : decode cX3_spread 15 = .ok (.aload_n 0, 1) := by decide +kernel
theorem dX3_spread_16 : decode cX3_spread 16 = .ok (.getfield 48, 3) := by decide +kernel
theorem dX3_spread_19 : decode cX3_spread 19 = .ok (.iload 4, 2) := by decide +kernel
theorem dX3_spread_21 : decode cX3_spread 21 = .ok (.iadd, 1) := by decide +kernel
theorem dX3_spread_22 : decode cX3_spread 22 = .ok (.invokestatic 79, 3) := by decide +kernel
theorem dX3_spread_25 : decode cX3_spread 25 = .ok (.istore 7, 2) := by decide +kernel
theorem dX3_spread_27 : decode cX3_spread 27 = .ok (.iload 7, 2) := by decide +kernel
theorem dX3_spread_29 : decode cX3_spread 29 = .ok (.iload 5, 2) := by decide +kernel
theorem dX3_spread_31 : decode cX3_spread 31 = .ok (.if_icmp .eq 43, 3) := by decide +kernel
theorem dX3_spread_34 : decode cX3_spread 34 = .ok (.iload 7, 2) := by decide +kernel
theorem dX3_spread_36 : decode cX3_spread 36 = .ok (.bipush 16, 2) := by decide +kernel
theorem dX3_spread_38 : decode cX3_spread 38 = .ok (.if_icmp .ge 36, 3) := by decide +kernel
theorem dX3_spread_41 : decode cX3_spread 41 = .ok (.iload 4, 2) := by decide +kernel
theorem dX3_spread_43 : decode cX3_spread 43 = .ok (.iload 7, 2) := by decide +kernel
theorem dX3_spread_45 : decode cX3_spread 45 = .ok (.iadd, 1) := by decide +kernel
theorem dX3_spread_46 : decode cX3_spread 46 = .ok (.sipush 181, 3) := by decide +kernel
theorem dX3_spread_49 : decode cX3_spread 49 = .ok (.if_icmp .ge 25, 3) := by decide +kernel
theorem dX3_spread_52 : decode cX3_spread 52 = .ok (.iload 7, 2) := by decide +kernel
theorem dX3_spread_54 : decode cX3_spread 54 = .ok (.istore 5, 2) := by decide +kernel
theorem dX3_spread_56 : decode cX3_spread 56 = .ok (.aload_n 0, 1) := by decide +kernel
theorem dX3_spread_57 : decode cX3_spread 57 = .ok (.aload_n 1, 1) := by decide +kernel
theorem dX3_spread_58 : decode cX3_spread 58 = .ok (.iload_n 2, 1) := by decide +kernel
theorem dX3_spread_59 : decode cX3_spread 59 = .ok (.iload 7, 2) := by decide +kernel
theorem dX3_spread_61 : decode cX3_spread 61 = .ok (.iload 7, 2) := by decide +kernel
theorem dX3_spread_63 : decode cX3_spread 63 = .ok (.iload 4, 2) := by decide +kernel
theorem dX3_spread_65 : decode cX3_spread 65 = .ok (.iload 7, 2) := by decide +kernel
theorem dX3_spread_67 : decode cX3_spread 67 = .ok (.iadd, 1) := by decide +kernel
theorem dX3_spread_68 : decode cX3_spread 68 = .ok (.invokestatic 59, 3) := by decide +kernel
theorem dX3_spread_71 : decode cX3_spread 71 = .ok (.invokevirtual 83, 3) := by decide +kernel
theorem dX3_spread_74 : decode cX3_spread 74 = .ok (.iinc 6 1, 3) := by decide +kernel
theorem dX3_spread_77 : decode cX3_spread 77 = .ok (.goto (-71), 3) := by decide +kernel
theorem dX3_spread_80 : decode cX3_spread 80 = .ok (.return_, 1) := by decide +kernel
theorem dX3_spreadBands_0 : decode cX3_spreadBands 0 = .ok (.iconst 0, 1) := by decide +kernel
theorem dX3_spreadBands_1 : decode cX3_spreadBands 1 = .ok (.istore 5, 2) := by decide +kernel
theorem dX3_spreadBands_3 : decode cX3_spreadBands 3 = .ok (.iload 5, 2) := by decide +kernel
theorem dX3_spreadBands_5 : decode cX3_spreadBands 5 = .ok (.aload_n 0, 1) := by decide +kernel
theorem dX3_spreadBands_6 : decode cX3_spreadBands 6 = .ok (.getfield 49, 3) := by decide +kernel
theorem dX3_spreadBands_9 : decode cX3_spreadBands 9 = .ok (.if_icmp .ge 99, 3) := by decide +kernel
theorem dX3_spreadBands_12 : decode cX3_spreadBands 12 = .ok (.aload_n 0, 1) := by decide +kernel
theorem dX3_spreadBands_13 : decode cX3_spreadBands 13 = .ok (.iload_n 2, 1) := by decide +kernel
theorem dX3_spreadBands_14 : decode cX3_spreadBands 14 = .ok (.iload 5, 2) := by decide +kernel
theorem dX3_spreadBands_16 : decode cX3_spreadBands 16 = .ok (.invokevirtual 86, 3) := by decide +kernel
theorem dX3_spreadBands_19 : decode cX3_spreadBands 19 = .ok (.lstore 6, 2) := by decide +kernel
theorem dX3_spreadBands_21 : decode cX3_spreadBands 21 = .ok (.lload 6, 2) := by decide +kernel
theorem dX3_spreadBands_23 : decode cX3_spreadBands 23 = .ok (.lconst 0, 1) := by decide +kernel
theorem dX3_spreadBands_24 : decode cX3_spreadBands 24 = .ok (.lcmp, 1) := by decide +kernel
theorem dX3_spreadBands_25 : decode cX3_spreadBands 25 = .ok (.ifCond .ne 6, 3) := by decide +kernel
theorem dX3_spreadBands_28 : decode cX3_spreadBands 28 = .ok (.goto 74, 3) := by decide +kernel
theorem dX3_spreadBands_31 : decode cX3_spreadBands 31 = .ok (.aload_n 1, 1) := by decide +kernel
theorem dX3_spreadBands_32 : decode cX3_spreadBands 32 = .ok (.iload 5, 2) := by decide +kernel
theorem dX3_spreadBands_34 : decode cX3_spreadBands 34 = .ok (.invokevirtual 90, 3) := by decide +kernel
theorem dX3_spreadBands_37 : decode cX3_spreadBands 37 = .ok (.iload_n 3, 1) := by decide +kernel
theorem dX3_spreadBands_38 : decode cX3_spreadBands 38 = .ok (.isub, 1) := by decide +kernel
theorem dX3_spreadBands_39 : decode cX3_spreadBands 39 = .ok (.istore 8, 2) := by decide +kernel
theorem dX3_spreadBands_41 : decode cX3_spreadBands 41 = .ok (.iload 8, 2) := by decide +kernel
theorem dX3_spreadBands_43 : decode cX3_spreadBands 43 = .ok (.ifCond .le 25, 3) := by decide +kernel
theorem dX3_spreadBands_46 : decode cX3_spreadBands 46 = .ok (.aload_n 0, 1) := by decide +kernel
theorem dX3_spreadBands_47 : decode cX3_spreadBands 47 = .ok (.aload_n 0, 1) := by decide +kernel
theorem dX3_spreadBands_48 : decode cX3_spreadBands 48 = .ok (.getfield 15, 3) := by decide +kernel
theorem dX3_spreadBands_51 : decode cX3_spreadBands 51 = .ok (.iload 4, 2) := by decide +kernel
theorem dX3_spreadBands_53 : decode cX3_spreadBands 53 = .ok (.iload 5, 2) := by decide +kernel
theorem dX3_spreadBands_55 : decode cX3_spreadBands 55 = .ok (.iconst 5, 1) := by decide +kernel
theorem dX3_spreadBands_56 : decode cX3_spreadBands 56 = .ok (.iload 8, 2) := by decide +kernel
theorem dX3_spreadBands_58 : decode cX3_spreadBands 58 = .ok (.imul, 1) := by decide +kernel
theorem dX3_spreadBands_59 : decode cX3_spreadBands 59 = .ok (.isub, 1) := by decide +kernel
theorem dX3_spreadBands_60 : decode cX3_spreadBands 60 = .ok (.lload 6, 2) := by decide +kernel
theorem dX3_spreadBands_62 : decode cX3_spreadBands 62 = .ok (.invokevirtual 63, 3) := by decide +kernel
theorem dX3_spreadBands_65 : decode cX3_spreadBands 65 = .ok (.goto 37, 3) := by decide +kernel
theorem dX3_spreadBands_68 : decode cX3_spreadBands 68 = .ok (.aload_n 0, 1) := by decide +kernel
theorem dX3_spreadBands_69 : decode cX3_spreadBands 69 = .ok (.aload_n 0, 1) := by decide +kernel
theorem dX3_spreadBands_70 : decode cX3_spreadBands 70 = .ok (.getfield 15, 3) := by decide +kernel
theorem dX3_spreadBands_73 : decode cX3_spreadBands 73 = .ok (.iload 4, 2) := by decide +kernel
theorem dX3_spreadBands_75 : decode cX3_spreadBands 75 = .ok (.iload 5, 2) := by decide +kernel
theorem dX3_spreadBands_77 : decode cX3_spreadBands 77 = .ok (.iload_n 3, 1) := by decide +kernel
theorem dX3_spreadBands_78 : decode cX3_spreadBands 78 = .ok (.iconst 2, 1) := by decide +kernel
theorem dX3_spreadBands_79 : decode cX3_spreadBands 79 = .ok (.idiv, 1) := by decide +kernel
theorem dX3_spreadBands_80 : decode cX3_spreadBands 80 = .ok (.iadd, 1) := by decide +kernel
theorem dX3_spreadBands_81 : decode cX3_spreadBands 81 = .ok (.lload 6, 2) := by decide +kernel
theorem dX3_spreadBands_83 : decode cX3_spreadBands 83 = .ok (.invokevirtual 63, 3) := by decide +kernel
theorem dX3_spreadBands_86 : decode cX3_spreadBands 86 = .ok (.aload_n 0, 1) := by decide +kernel
theorem dX3_spreadBands_87 : decode cX3_spreadBands 87 = .ok (.aload_n 0, 1) := by decide +kernel
theorem dX3_spreadBands_88 : decode cX3_spreadBands 88 = .ok (.getfield 15, 3) := by decide +kernel
theorem dX3_spreadBands_91 : decode cX3_spreadBands 91 = .ok (.iload 4, 2) := by decide +kernel
theorem dX3_spreadBands_93 : decode cX3_spreadBands 93 = .ok (.iload 5, 2) := by decide +kernel
theorem dX3_spreadBands_95 : decode cX3_spreadBands 95 = .ok (.iload_n 3, 1) := by decide +kernel
theorem dX3_spreadBands_96 : decode cX3_spreadBands 96 = .ok (.iadd, 1) := by decide +kernel
theorem dX3_spreadBands_97 : decode cX3_spreadBands 97 = .ok (.lload 6, 2) := by decide +kernel
theorem dX3_spreadBands_99 : decode cX3_spreadBands 99 = .ok (.invokevirtual 63, 3) := by decide +kernel
theorem dX3_spreadBands_102 : decode cX3_spreadBands 102 = .ok (.iinc 5 20, 3) := by decide +kernel
theorem dX3_spreadBands_105 : decode cX3_spreadBands 105 = .ok (.goto (-102), 3) := by decide +kernel
theorem dX3_spreadBands_108 : decode cX3_spreadBands 108 = .ok (.return_, 1) := by decide +kernel
theorem dX3_bandAt_0 : decode cX3_bandAt 0 = .ok (.iload_n 2, 1) := by decide +kernel
theorem dX3_bandAt_1 : decode cX3_bandAt 1 = .ok (.bipush 64, 2) := by decide +kernel
theorem dX3_bandAt_3 : decode cX3_bandAt 3 = .ok (.idiv, 1) := by decide +kernel
theorem dX3_bandAt_4 : decode cX3_bandAt 4 = .ok (.istore_n 3, 1) := by decide +kernel
theorem dX3_bandAt_5 : decode cX3_bandAt 5 = .ok (.iload_n 2, 1) := by decide +kernel
theorem dX3_bandAt_6 : decode cX3_bandAt 6 = .ok (.bipush 64, 2) := by decide +kernel
theorem dX3_bandAt_8 : decode cX3_bandAt 8 = .ok (.irem, 1) := by decide +kernel
theorem dX3_bandAt_9 : decode cX3_bandAt 9 = .ok (.istore 4, 2) := by decide +kernel
theorem dX3_bandAt_11 : decode cX3_bandAt 11 = .ok (.aload_n 0, 1) := by decide +kernel
theorem dX3_bandAt_12 : decode cX3_bandAt 12 = .ok (.getfield 11, 3) := by decide +kernel
theorem dX3_bandAt_15 : decode cX3_bandAt 15 = .ok (.iload_n 1, 1) := by decide +kernel
theorem dX3_bandAt_16 : decode cX3_bandAt 16 = .ok (.iload_n 3, 1) := by decide +kernel
theorem dX3_bandAt_17 : decode cX3_bandAt 17 = .ok (.iadd, 1) := by decide +kernel
theorem dX3_bandAt_18 : decode cX3_bandAt 18 = .ok (.laload, 1) := by decide +kernel
theorem dX3_bandAt_19 : decode cX3_bandAt 19 = .ok (.iload 4, 2) := by decide +kernel
theorem dX3_bandAt_21 : decode cX3_bandAt 21 = .ok (.lushr, 1) := by decide +kernel
theorem dX3_bandAt_22 : decode cX3_bandAt 22 = .ok (.lstore 5, 2) := by decide +kernel
theorem dX3_bandAt_24 : decode cX3_bandAt 24 = .ok (.iload 4, 2) := by decide +kernel
theorem dX3_bandAt_26 : decode cX3_bandAt 26 = .ok (.bipush 44, 2) := by decide +kernel
theorem dX3_bandAt_28 : decode cX3_bandAt 28 = .ok (.if_icmp .le 31, 3) := by decide +kernel
theorem dX3_bandAt_31 : decode cX3_bandAt 31 = .ok (.iload_n 3, 1) := by decide +kernel
theorem dX3_bandAt_32 : decode cX3_bandAt 32 = .ok (.iconst 1, 1) := by decide +kernel
theorem dX3_bandAt_33 : decode cX3_bandAt 33 = .ok (.iadd, 1) := by decide +kernel
theorem dX3_bandAt_34 : decode cX3_bandAt 34 = .ok (.iconst 4, 1) := by decide +kernel
theorem dX3_bandAt_35 : decode cX3_bandAt 35 = .ok (.if_icmp .ge 24, 3) := by decide +kernel
theorem dX3_bandAt_38 : decode cX3_bandAt 38 = .ok (.lload 5, 2) := by decide +kernel
theorem dX3_bandAt_40 : decode cX3_bandAt 40 = .ok (.aload_n 0, 1) := by decide +kernel
theorem dX3_bandAt_41 : decode cX3_bandAt 41 = .ok (.getfield 11, 3) := by decide +kernel
theorem dX3_bandAt_44 : decode cX3_bandAt 44 = .ok (.iload_n 1, 1) := by decide +kernel
theorem dX3_bandAt_45 : decode cX3_bandAt 45 = .ok (.iload_n 3, 1) := by decide +kernel
theorem dX3_bandAt_46 : decode cX3_bandAt 46 = .ok (.iadd, 1) := by decide +kernel
theorem dX3_bandAt_47 : decode cX3_bandAt 47 = .ok (.iconst 1, 1) := by decide +kernel
theorem dX3_bandAt_48 : decode cX3_bandAt 48 = .ok (.iadd, 1) := by decide +kernel
theorem dX3_bandAt_49 : decode cX3_bandAt 49 = .ok (.laload, 1) := by decide +kernel
theorem dX3_bandAt_50 : decode cX3_bandAt 50 = .ok (.bipush 64, 2) := by decide +kernel
theorem dX3_bandAt_52 : decode cX3_bandAt 52 = .ok (.iload 4, 2) := by decide +kernel
theorem dX3_bandAt_54 : decode cX3_bandAt 54 = .ok (.isub, 1) := by decide +kernel
theorem dX3_bandAt_55 : decode cX3_bandAt 55 = .ok (.lshl, 1) := by decide +kernel
theorem dX3_bandAt_56 : decode cX3_bandAt 56 = .ok (.lor, 1) := by decide +kernel
theorem dX3_bandAt_57 : decode cX3_bandAt 57 = .ok (.lstore 5, 2) := by decide +kernel
theorem dX3_bandAt_59 : decode cX3_bandAt 59 = .ok (.lload 5, 2) := by decide +kernel
theorem dX3_bandAt_61 : decode cX3_bandAt 61 = .ok (.ldc2_w 94, 3) := by decide +kernel
theorem dX3_bandAt_64 : decode cX3_bandAt 64 = .ok (.land, 1) := by decide +kernel
theorem dX3_bandAt_65 : decode cX3_bandAt 65 = .ok (.lreturn, 1) := by decide +kernel
theorem dX3_add_0 : decode cX3_add 0 = .ok (.iconst 0, 1) := by decide +kernel
theorem dX3_add_1 : decode cX3_add 1 = .ok (.iload_n 3, 1) := by decide +kernel
theorem dX3_add_2 : decode cX3_add 2 = .ok (.invokestatic 96, 3) := by decide +kernel
theorem dX3_add_5 : decode cX3_add 5 = .ok (.istore 6, 2) := by decide +kernel
theorem dX3_add_7 : decode cX3_add 7 = .ok (.iload_n 3, 1) := by decide +kernel
theorem dX3_add_8 : decode cX3_add 8 = .ok (.ifCond .lt 8, 3) := by decide +kernel
theorem dX3_add_11 : decode cX3_add 11 = .ok (.lload 4, 2) := by decide +kernel
theorem dX3_add_13 : decode cX3_add 13 = .ok (.goto 18, 3) := by decide +kernel
theorem dX3_add_16 : decode cX3_add 16 = .ok (.iload_n 3, 1) := by decide +kernel
theorem dX3_add_17 : decode cX3_add 17 = .ok (.bipush (-20), 2) := by decide +kernel
theorem dX3_add_19 : decode cX3_add 19 = .ok (.if_icmp .le 11, 3) := by decide +kernel
theorem dX3_add_22 : decode cX3_add 22 = .ok (.lload 4, 2) := by decide +kernel
theorem dX3_add_24 : decode cX3_add 24 = .ok (.iload_n 3, 1) := by decide +kernel
theorem dX3_add_25 : decode cX3_add 25 = .ok (.ineg, 1) := by decide +kernel
theorem dX3_add_26 : decode cX3_add 26 = .ok (.lushr, 1) := by decide +kernel
theorem dX3_add_27 : decode cX3_add 27 = .ok (.goto 4, 3) := by decide +kernel
theorem dX3_add_30 : decode cX3_add 30 = .ok (.lconst 0, 1) := by decide +kernel
theorem dX3_add_31 : decode cX3_add 31 = .ok (.lstore 7, 2) := by decide +kernel
theorem dX3_add_33 : decode cX3_add 33 = .ok (.iload 6, 2) := by decide +kernel
theorem dX3_add_35 : decode cX3_add 35 = .ok (.ifCond .ne 11, 3) := by decide +kernel
theorem dX3_add_38 : decode cX3_add 38 = .ok (.lload 7, 2) := by decide +kernel
theorem dX3_add_40 : decode cX3_add 40 = .ok (.ldc2_w 101, 3) := by decide +kernel
theorem dX3_add_43 : decode cX3_add 43 = .ok (.land, 1) := by decide +kernel
theorem dX3_add_44 : decode cX3_add 44 = .ok (.lstore 7, 2) := by decide +kernel
theorem dX3_add_46 : decode cX3_add 46 = .ok (.aload_n 0, 1) := by decide +kernel
theorem dX3_add_47 : decode cX3_add 47 = .ok (.getfield 49, 3) := by decide +kernel
theorem dX3_add_50 : decode cX3_add 50 = .ok (.iload 6, 2) := by decide +kernel
theorem dX3_add_52 : decode cX3_add 52 = .ok (.isub, 1) := by decide +kernel
theorem dX3_add_53 : decode cX3_add 53 = .ok (.istore 9, 2) := by decide +kernel
theorem dX3_add_55 : decode cX3_add 55 = .ok (.iload 9, 2) := by decide +kernel
theorem dX3_add_57 : decode cX3_add 57 = .ok (.ifCond .gt 13, 3) := by decide +kernel
theorem dX3_add_60 : decode cX3_add 60 = .ok (.lload 7, 2) := by decide +kernel
theorem dX3_add_62 : decode cX3_add 62 = .ok (.lconst 0, 1) := by decide +kernel
theorem dX3_add_63 : decode cX3_add 63 = .ok (.lcmp, 1) := by decide +kernel
theorem dX3_add_64 : decode cX3_add 64 = .ok (.ifCond .eq 29, 3) := by decide +kernel
theorem dX3_add_67 : decode cX3_add 67 = .ok (.goto 20, 3) := by decide +kernel
theorem dX3_add_70 : decode cX3_add 70 = .ok (.iload 9, 2) := by decide +kernel
theorem dX3_add_72 : decode cX3_add 72 = .ok (.bipush 20, 2) := by decide +kernel
theorem dX3_add_74 : decode cX3_add 74 = .ok (.if_icmp .ge 19, 3) := by decide +kernel
theorem dX3_add_77 : decode cX3_add 77 = .ok (.lload 7, 2) := by decide +kernel
theorem dX3_add_79 : decode cX3_add 79 = .ok (.iload 9, 2) := by decide +kernel
theorem dX3_add_81 : decode cX3_add 81 = .ok (.lushr, 1) := by decide +kernel
theorem dX3_add_82 : decode cX3_add 82 = .ok (.lconst 0, 1) := by decide +kernel
theorem dX3_add_83 : decode cX3_add 83 = .ok (.lcmp, 1) := by decide +kernel
theorem dX3_add_84 : decode cX3_add 84 = .ok (.ifCond .eq 9, 3) := by decide +kernel
theorem dX3_add_87 : decode cX3_add 87 = .ok (.aload_n 0, 1) := by decide +kernel
theorem dX3_add_88 : decode cX3_add 88 = .ok (.iconst 1, 1) := by decide +kernel
theorem dX3_add_89 : decode cX3_add 89 = .ok (.putfield 52, 3) := by decide +kernel
theorem dX3_add_92 : decode cX3_add 92 = .ok (.return_, 1) := by decide +kernel
theorem dX3_add_93 : decode cX3_add 93 = .ok (.iload 6, 2) := by decide +kernel
theorem dX3_add_95 : decode cX3_add 95 = .ok (.bipush 64, 2) := by decide +kernel
theorem dX3_add_97 : decode cX3_add 97 = .ok (.idiv, 1) := by decide +kernel
theorem dX3_add_98 : decode cX3_add 98 = .ok (.istore 10, 2) := by decide +kernel
theorem dX3_add_100 : decode cX3_add 100 = .ok (.iload 6, 2) := by decide +kernel
theorem dX3_add_102 : decode cX3_add 102 = .ok (.bipush 64, 2) := by decide +kernel
theorem dX3_add_104 : decode cX3_add 104 = .ok (.irem, 1) := by decide +kernel
theorem dX3_add_105 : decode cX3_add 105 = .ok (.istore 11, 2) := by decide +kernel
theorem dX3_add_107 : decode cX3_add 107 = .ok (.iload 10, 2) := by decide +kernel
theorem dX3_add_109 : decode cX3_add 109 = .ok (.iconst 4, 1) := by decide +kernel
theorem dX3_add_110 : decode cX3_add 110 = .ok (.if_icmp .ge 17, 3) := by decide +kernel
theorem dX3_add_113 : decode cX3_add 113 = .ok (.aload_n 1, 1) := by decide +kernel
theorem dX3_add_114 : decode cX3_add 114 = .ok (.iload_n 2, 1) := by decide +kernel
theorem dX3_add_115 : decode cX3_add 115 = .ok (.iload 10, 2) := by decide +kernel
theorem dX3_add_117 : decode cX3_add 117 = .ok (.iadd, 1) := by decide +kernel
theorem dX3_add_118 : decode cX3_add 118 = .ok (.dup2, 1) := by decide +kernel
theorem dX3_add_119 : decode cX3_add 119 = .ok (.laload, 1) := by decide +kernel
theorem dX3_add_120 : decode cX3_add 120 = .ok (.lload 7, 2) := by decide +kernel
theorem dX3_add_122 : decode cX3_add 122 = .ok (.iload 11, 2) := by decide +kernel
theorem dX3_add_124 : decode cX3_add 124 = .ok (.lshl, 1) := by decide +kernel
theorem dX3_add_125 : decode cX3_add 125 = .ok (.lor, 1) := by decide +kernel
theorem dX3_add_126 : decode cX3_add 126 = .ok (.lastore, 1) := by decide +kernel
theorem dX3_add_127 : decode cX3_add 127 = .ok (.iload 11, 2) := by decide +kernel
theorem dX3_add_129 : decode cX3_add 129 = .ok (.bipush 44, 2) := by decide +kernel
theorem dX3_add_131 : decode cX3_add 131 = .ok (.if_icmp .le 30, 3) := by decide +kernel
theorem dX3_add_134 : decode cX3_add 134 = .ok (.iload 10, 2) := by decide +kernel
theorem dX3_add_136 : decode cX3_add 136 = .ok (.iconst 1, 1) := by decide +kernel
theorem dX3_add_137 : decode cX3_add 137 = .ok (.iadd, 1) := by decide +kernel
theorem dX3_add_138 : decode cX3_add 138 = .ok (.iconst 4, 1) := by decide +kernel
theorem dX3_add_139 : decode cX3_add 139 = .ok (.if_icmp .ge 22, 3) := by decide +kernel
theorem dX3_add_142 : decode cX3_add 142 = .ok (.aload_n 1, 1) := by decide +kernel
theorem dX3_add_143 : decode cX3_add 143 = .ok (.iload_n 2, 1) := by decide +kernel
theorem dX3_add_144 : decode cX3_add 144 = .ok (.iload 10, 2) := by decide +kernel
theorem dX3_add_146 : decode cX3_add 146 = .ok (.iadd, 1) := by decide +kernel
theorem dX3_add_147 : decode cX3_add 147 = .ok (.iconst 1, 1) := by decide +kernel
theorem dX3_add_148 : decode cX3_add 148 = .ok (.iadd, 1) := by decide +kernel
theorem dX3_add_149 : decode cX3_add 149 = .ok (.dup2, 1) := by decide +kernel
theorem dX3_add_150 : decode cX3_add 150 = .ok (.laload, 1) := by decide +kernel
theorem dX3_add_151 : decode cX3_add 151 = .ok (.lload 7, 2) := by decide +kernel
theorem dX3_add_153 : decode cX3_add 153 = .ok (.bipush 64, 2) := by decide +kernel
theorem dX3_add_155 : decode cX3_add 155 = .ok (.iload 11, 2) := by decide +kernel
theorem dX3_add_157 : decode cX3_add 157 = .ok (.isub, 1) := by decide +kernel
theorem dX3_add_158 : decode cX3_add 158 = .ok (.lushr, 1) := by decide +kernel
theorem dX3_add_159 : decode cX3_add 159 = .ok (.lor, 1) := by decide +kernel
theorem dX3_add_160 : decode cX3_add 160 = .ok (.lastore, 1) := by decide +kernel
theorem dX3_add_161 : decode cX3_add 161 = .ok (.return_, 1) := by decide +kernel
theorem dX4_init_0 : decode cX4_init 0 = .ok (.aload_n 0, 1) := by decide +kernel
theorem dX4_init_1 : decode cX4_init 1 = .ok (.invokespecial 1, 3) := by decide +kernel
theorem dX4_init_4 : decode cX4_init 4 = .ok (.aload_n 0, 1) := by decide +kernel
theorem dX4_init_5 : decode cX4_init 5 = .ok (.sipush 600, 3) := by decide +kernel
theorem dX4_init_8 : decode cX4_init 8 = .ok (.newarray .byte, 2) := by decide +kernel
theorem dX4_init_10 : decode cX4_init 10 = .ok (.putfield 9, 3) := by decide +kernel
theorem dX4_init_13 : decode cX4_init 13 = .ok (.aload_n 0, 1) := by decide +kernel
theorem dX4_init_14 : decode cX4_init 14 = .ok (.new 13, 3) := by decide +kernel
theorem dX4_init_17 : decode cX4_init 17 = .ok (.dup, 1) := by decide +kernel
theorem dX4_init_18 : decode cX4_init 18 = .ok (.invokespecial 15, 3) := by decide +kernel
theorem dX4_init_21 : decode cX4_init 21 = .ok (.putfield 16, 3) := by decide +kernel
theorem dX4_init_24 : decode cX4_init 24 = .ok (.return_, 1) := by decide +kernel
theorem dX4_append_0 : decode cX4_append 0 = .ok (.iload_n 3, 1) := by decide +kernel
theorem dX4_append_1 : decode cX4_append 1 = .ok (.ifCond .lt 21, 3) := by decide +kernel
theorem dX4_append_4 : decode cX4_append 4 = .ok (.iload_n 3, 1) := by decide +kernel
theorem dX4_append_5 : decode cX4_append 5 = .ok (.bipush 8, 2) := by decide +kernel
theorem dX4_append_7 : decode cX4_append 7 = .ok (.if_icmp .gt 15, 3) := by decide +kernel
theorem dX4_append_10 : decode cX4_append 10 = .ok (.aload_n 0, 1) := by decide +kernel
theorem dX4_append_11 : decode cX4_append 11 = .ok (.getfield 20, 3) := by decide +kernel
theorem dX4_append_14 : decode cX4_append 14 = .ok (.sipush 600, 3) := by decide +kernel
theorem dX4_append_17 : decode cX4_append 17 = .ok (.iload_n 3, 1) := by decide +kernel
theorem dX4_append_18 : decode cX4_append 18 = .ok (.isub, 1) := by decide +kernel
theorem dX4_append_19 : decode cX4_append 19 = .ok (.if_icmp .le 5, 3) := by decide +kernel
theorem dX4_append_22 : decode cX4_append 22 = .ok (.iconst 0, 1) := by decide +kernel
theorem dX4_append_23 : decode cX4_append 23 = .ok (.ireturn, 1) := by decide +kernel
theorem dX4_append_24 : decode cX4_append 24 = .ok (.iload_n 3, 1) := by decide +kernel
theorem dX4_append_25 : decode cX4_append 25 = .ok (.iconst 1, 1) := by decide +kernel
theorem dX4_append_26 : decode cX4_append 26 = .ok (.isub, 1) := by decide +kernel
theorem dX4_append_27 : decode cX4_append 27 = .ok (.istore 4, 2) := by decide +kernel
theorem dX4_append_29 : decode cX4_append 29 = .ok (.iload 4, 2) := by decide +kernel
theorem dX4_append_31 : decode cX4_append 31 = .ok (.ifCond .lt 37, 3) := by decide +kernel
theorem dX4_append_34 : decode cX4_append 34 = .ok (.aload_n 0, 1) := by decide +kernel
theorem dX4_append_35 : decode cX4_append 35 = .ok (.getfield 9, 3) := by decide +kernel
theorem dX4_append_38 : decode cX4_append 38 = .ok (.aload_n 0, 1) := by decide +kernel
theorem dX4_append_39 : decode cX4_append 39 = .ok (.getfield 20, 3) := by decide +kernel
theorem dX4_append_42 : decode cX4_append 42 = .ok (.lload_n 1, 1) := by decide +kernel
theorem dX4_append_43 : decode cX4_append 43 = .ok (.bipush 8, 2) := by decide +kernel
theorem dX4_append_45 : decode cX4_append 45 = .ok (.iload 4, 2) := by decide +kernel
theorem dX4_append_47 : decode cX4_append 47 = .ok (.imul, 1) := by decide +kernel
theorem dX4_append_48 : decode cX4_append 48 = .ok (.lushr, 1) := by decide +kernel
theorem dX4_append_49 : decode cX4_append 49 = .ok (.l2i, 1) := by decide +kernel
theorem dX4_append_50 : decode cX4_append 50 = .ok (.i2b, 1) := by decide +kernel
theorem dX4_append_51 : decode cX4_append 51 = .ok (.bastore, 1) := by decide +kernel
theorem dX4_append_52 : decode cX4_append 52 = .ok (.aload_n 0, 1) := by decide +kernel
theorem dX4_append_53 : decode cX4_append 53 = .ok (.dup, 1) := by decide +kernel
theorem dX4_append_54 : decode cX4_append 54 = .ok (.getfield 20, 3) := by decide +kernel
theorem dX4_append_57 : decode cX4_append 57 = .ok (.iconst 1, 1) := by decide +kernel
theorem dX4_append_58 : decode cX4_append 58 = .ok (.iadd, 1) := by decide +kernel
theorem dX4_append_59 : decode cX4_append 59 = .ok (.putfield 20, 3) := by decide +kernel
theorem dX4_append_62 : decode cX4_append 62 = .ok (.iinc 4 (-1), 3) := by decide +kernel
theorem dX4_append_65 : decode cX4_append 65 = .ok (.goto (-36), 3) := by decide +kernel
theorem dX4_append_68 : decode cX4_append 68 = .ok (.iconst 1, 1) := by decide +kernel
theorem dX4_append_69 : decode cX4_append 69 = .ok (.ireturn, 1) := by decide +kernel
theorem dX4_bytes_0 : decode cX4_bytes 0 = .ok (.aload_n 0, 1) := by decide +kernel
theorem dX4_bytes_1 : decode cX4_bytes 1 = .ok (.getfield 20, 3) := by decide +kernel
theorem dX4_bytes_4 : decode cX4_bytes 4 = .ok (.ireturn, 1) := by decide +kernel
theorem dX4_latestFault_0 : decode cX4_latestFault 0 = .ok (.aload_n 0, 1) := by decide +kernel
theorem dX4_latestFault_1 : decode cX4_latestFault 1 = .ok (.getfield 24, 3) := by decide +kernel
theorem dX4_latestFault_4 : decode cX4_latestFault 4 = .ok (.ireturn, 1) := by decide +kernel
theorem dX4_faultPlace_0 : decode cX4_faultPlace 0 = .ok (.aload_n 0, 1) := by decide +kernel
theorem dX4_faultPlace_1 : decode cX4_faultPlace 1 = .ok (.getfield 27, 3) := by decide +kernel
theorem dX4_faultPlace_4 : decode cX4_faultPlace 4 = .ok (.ireturn, 1) := by decide +kernel
theorem dX4_draft_0 : decode cX4_draft 0 = .ok (.aload_n 0, 1) := by decide +kernel
theorem dX4_draft_1 : decode cX4_draft 1 = .ok (.getfield 16, 3) := by decide +kernel
theorem dX4_draft_4 : decode cX4_draft 4 = .ok (.areturn, 1) := by decide +kernel
theorem dX4_read_0 : decode cX4_read 0 = .ok (.aload_n 0, 1) := by decide +kernel
theorem dX4_read_1 : decode cX4_read 1 = .ok (.getfield 16, 3) := by decide +kernel
theorem dX4_read_4 : decode cX4_read 4 = .ok (.invokevirtual 30, 3) := by decide +kernel
theorem dX4_read_7 : decode cX4_read 7 = .ok (.aload_n 0, 1) := by decide +kernel
theorem dX4_read_8 : decode cX4_read 8 = .ok (.iconst 0, 1) := by decide +kernel
theorem dX4_read_9 : decode cX4_read 9 = .ok (.putfield 33, 3) := by decide +kernel
theorem dX4_read_12 : decode cX4_read 12 = .ok (.aload_n 0, 1) := by decide +kernel
theorem dX4_read_13 : decode cX4_read 13 = .ok (.invokevirtual 36, 3) := by decide +kernel
theorem dX4_read_16 : decode cX4_read 16 = .ok (.aload_n 0, 1) := by decide +kernel
theorem dX4_read_17 : decode cX4_read 17 = .ok (.invokevirtual 39, 3) := by decide +kernel
theorem dX4_read_20 : decode cX4_read 20 = .ok (.istore_n 1, 1) := by decide +kernel
theorem dX4_read_21 : decode cX4_read 21 = .ok (.aload_n 0, 1) := by decide +kernel
theorem dX4_read_22 : decode cX4_read 22 = .ok (.iconst 0, 1) := by decide +kernel
theorem dX4_read_23 : decode cX4_read 23 = .ok (.putfield 20, 3) := by decide +kernel
theorem dX4_read_26 : decode cX4_read 26 = .ok (.iload_n 1, 1) := by decide +kernel
theorem dX4_read_27 : decode cX4_read 27 = .ok (.ireturn, 1) := by decide +kernel
theorem dX4_readText_0 : decode cX4_readText 0 = .ok (.iconst 0, 1) := by decide +kernel
theorem dX4_readText_1 : decode cX4_readText 1 = .ok (.istore_n 1, 1) := by decide +kernel
theorem dX4_readText_2 : decode cX4_readText 2 = .ok (.iconst 0, 1) := by decide +kernel
theorem dX4_readText_3 : decode cX4_readText 3 = .ok (.istore_n 2, 1) := by decide +kernel
theorem dX4_readText_4 : decode cX4_readText 4 = .ok (.iload_n 2, 1) := by decide +kernel
theorem dX4_readText_5 : decode cX4_readText 5 = .ok (.sipush 600, 3) := by decide +kernel
theorem dX4_readText_8 : decode cX4_readText 8 = .ok (.if_icmp .gt 157, 3) := by decide +kernel
theorem dX4_readText_11 : decode cX4_readText 11 = .ok (.aload_n 0, 1) := by decide +kernel
theorem dX4_readText_12 : decode cX4_readText 12 = .ok (.getfield 16, 3) := by decide +kernel
theorem dX4_readText_15 : decode cX4_readText 15 = .ok (.iconst 0, 1) := by decide +kernel
theorem dX4_readText_16 : decode cX4_readText 16 = .ok (.invokevirtual 43, 3) := by decide +kernel
theorem dX4_readText_19 : decode cX4_readText 19 = .ok (.ifCond .le 7, 3) := by decide +kernel
theorem dX4_readText_22 : decode cX4_readText 22 = .ok (.iconst 1, 1) := by decide +kernel
theorem dX4_readText_23 : decode cX4_readText 23 = .ok (.goto 4, 3) := by decide +kernel
theorem dX4_readText_26 : decode cX4_readText 26 = .ok (.iconst 0, 1) := by decide +kernel
theorem dX4_readText_27 : decode cX4_readText 27 = .ok (.istore_n 3, 1) := by decide +kernel
theorem dX4_readText_28 : decode cX4_readText 28 = .ok (.aload_n 0, 1) := by decide +kernel
theorem dX4_readText_29 : decode cX4_readText 29 = .ok (.getfield 47, 3) := by decide +kernel
theorem dX4_readText_32 : decode cX4_readText 32 = .ok (.ifCond .ne 9, 3) := by decide +kernel
theorem dX4_readText_35 : decode cX4_readText 35 = .ok (.iload_n 3, 1) := by decide +kernel
theorem dX4_readText_36 : decode cX4_readText 36 = .ok (.ifCond .eq 5, 3) := by decide +kernel
theorem dX4_readText_39 : decode cX4_readText 39 = .ok (.iconst 1, 1) := by decide +kernel
theorem dX4_readText_40 : decode cX4_readText 40 = .ok (.ireturn, 1) := by decide +kernel
theorem dX4_readText_41 : decode cX4_readText 41 = .ok (.aload_n 0, 1) := by decide +kernel
theorem dX4_readText_42 : decode cX4_readText 42 = .ok (.getfield 47, 3) := by decide +kernel
theorem dX4_readText_45 : decode cX4_readText 45 = .ok (.iconst 1, 1) := by decide +kernel
theorem dX4_readText_46 : decode cX4_readText 46 = .ok (.if_icmp .ne 10, 3) := by decide +kernel
theorem dX4_readText_49 : decode cX4_readText 49 = .ok (.aload_n 0, 1) := by decide +kernel
theorem dX4_readText_50 : decode cX4_readText 50 = .ok (.invokevirtual 50, 3) := by decide +kernel
theorem dX4_readText_53 : decode cX4_readText 53 = .ok (.goto 5, 3) := by decide +kernel
theorem dX4_readText_56 : decode cX4_readText 56 = .ok (.bipush 10, 2) := by decide +kernel
theorem dX4_readText_58 : decode cX4_readText 58 = .ok (.istore 4, 2) := by decide +kernel
theorem dX4_readText_60 : decode cX4_readText 60 = .ok (.iload 4, 2) := by decide +kernel
theorem dX4_readText_62 : decode cX4_readText 62 = .ok (.iconst 5, 1) := by decide +kernel
theorem dX4_readText_63 : decode cX4_readText 63 = .ok (.invokestatic 54, 3) := by decide +kernel
theorem dX4_readText_66 : decode cX4_readText 66 = .ok (.istore 5, 2) := by decide +kernel
theorem dX4_readText_68 : decode cX4_readText 68 = .ok (.iload 5, 2) := by decide +kernel
theorem dX4_readText_70 : decode cX4_readText 70 = .ok (.iconst 4, 1) := by decide +kernel
theorem dX4_readText_71 : decode cX4_readText 71 = .ok (.if_icmp .ne 18, 3) := by decide +kernel
theorem dX4_readText_74 : decode cX4_readText 74 = .ok (.aload_n 0, 1) := by decide +kernel
theorem dX4_readText_75 : decode cX4_readText 75 = .ok (.getfield 16, 3) := by decide +kernel
theorem dX4_readText_78 : decode cX4_readText 78 = .ok (.iconst 4, 1) := by decide +kernel
theorem dX4_readText_79 : decode cX4_readText 79 = .ok (.invokevirtual 60, 3) := by decide +kernel
theorem dX4_readText_82 : decode cX4_readText 82 = .ok (.ifCond .eq 7, 3) := by decide +kernel
theorem dX4_readText_85 : decode cX4_readText 85 = .ok (.iconst 1, 1) := by decide +kernel
theorem dX4_readText_86 : decode cX4_readText 86 = .ok (.goto 4, 3) := by decide +kernel
theorem dX4_readText_89 : decode cX4_readText 89 = .ok (.iconst 0, 1) := by decide +kernel
theorem dX4_readText_90 : decode cX4_readText 90 = .ok (.istore 6, 2) := by decide +kernel
theorem dX4_readText_92 : decode cX4_readText 92 = .ok (.iload 4, 2) := by decide +kernel
theorem dX4_readText_94 : decode cX4_readText 94 = .ok (.bipush 10, 2) := by decide +kernel
theorem dX4_readText_96 : decode cX4_readText 96 = .ok (.if_icmp .ge 23, 3) := by decide +kernel
theorem dX4_readText_99 : decode cX4_readText 99 = .ok (.iload 5, 2) := by decide +kernel
theorem dX4_readText_101 : decode cX4_readText 101 = .ok (.iload_n 1, 1) := by decide +kernel
theorem dX4_readText_102 : decode cX4_readText 102 = .ok (.if_icmp .lt 17, 3) := by decide +kernel
theorem dX4_readText_105 : decode cX4_readText 105 = .ok (.iload 5, 2) := by decide +kernel
theorem dX4_readText_107 : decode cX4_readText 107 = .ok (.ifCond .le 7, 3) := by decide +kernel
theorem dX4_readText_110 : decode cX4_readText 110 = .ok (.iload_n 3, 1) := by decide +kernel
theorem dX4_readText_111 : decode cX4_readText 111 = .ok (.ifCond .eq 8, 3) := by decide +kernel
theorem dX4_readText_114 : decode cX4_readText 114 = .ok (.iload 6, 2) := by decide +kernel
theorem dX4_readText_116 : decode cX4_readText 116 = .ok (.ifCond .eq 9, 3) := by decide +kernel
theorem dX4_readText_119 : decode cX4_readText 119 = .ok (.aload_n 0, 1) := by decide +kernel
theorem dX4_readText_120 : decode cX4_readText 120 = .ok (.iconst 1, 1) := by decide +kernel
theorem dX4_readText_121 : decode cX4_readText 121 = .ok (.invokevirtual 64, 3) := by decide +kernel
theorem dX4_readText_124 : decode cX4_readText 124 = .ok (.ireturn, 1) := by decide +kernel
theorem dX4_readText_125 : decode cX4_readText 125 = .ok (.aload_n 0, 1) := by decide +kernel
theorem dX4_readText_126 : decode cX4_readText 126 = .ok (.getfield 16, 3) := by decide +kernel
theorem dX4_readText_129 : decode cX4_readText 129 = .ok (.iload 5, 2) := by decide +kernel
theorem dX4_readText_131 : decode cX4_readText 131 = .ok (.invokevirtual 60, 3) := by decide +kernel
theorem dX4_readText_134 : decode cX4_readText 134 = .ok (.ifCond .eq 9, 3) := by decide +kernel
theorem dX4_readText_137 : decode cX4_readText 137 = .ok (.aload_n 0, 1) := by decide +kernel
theorem dX4_readText_138 : decode cX4_readText 138 = .ok (.iconst 3, 1) := by decide +kernel
theorem dX4_readText_139 : decode cX4_readText 139 = .ok (.invokevirtual 64, 3) := by decide +kernel
theorem dX4_readText_142 : decode cX4_readText 142 = .ok (.ireturn, 1) := by decide +kernel
theorem dX4_readText_143 : decode cX4_readText 143 = .ok (.iload 5, 2) := by decide +kernel
theorem dX4_readText_145 : decode cX4_readText 145 = .ok (.istore_n 1, 1) := by decide +kernel
theorem dX4_readText_146 : decode cX4_readText 146 = .ok (.aload_n 0, 1) := by decide +kernel
theorem dX4_readText_147 : decode cX4_readText 147 = .ok (.iload 4, 2) := by decide +kernel
theorem dX4_readText_149 : decode cX4_readText 149 = .ok (.iload 5, 2) := by decide +kernel
theorem dX4_readText_151 : decode cX4_readText 151 = .ok (.invokevirtual 67, 3) := by decide +kernel
theorem dX4_readText_154 : decode cX4_readText 154 = .ok (.ifCond .ne 5, 3) := by decide +kernel
theorem dX4_readText_157 : decode cX4_readText 157 = .ok (.iconst 0, 1) := by decide +kernel
theorem dX4_readText_158 : decode cX4_readText 158 = .ok (.ireturn, 1) := by decide +kernel
theorem dX4_readText_159 : decode cX4_readText 159 = .ok (.iinc 2 1, 3) := by decide +kernel
theorem dX4_readText_162 : decode cX4_readText 162 = .ok (.goto (-158), 3) := by decide +kernel
theorem dX4_readText_165 : decode cX4_readText 165 = .ok (.iconst 0, 1) := by decide +kernel
theorem dX4_readText_166 : decode cX4_readText 166 = .ok (.ireturn, 1) := by decide +kernel
theorem dX4_readThing_0 : decode cX4_readThing 0 = .ok (.aload_n 0, 1) := by decide +kernel
theorem dX4_readThing_1 : decode cX4_readThing 1 = .ok (.getfield 16, 3) := by decide +kernel
theorem dX4_readThing_4 : decode cX4_readThing 4 = .ok (.iload_n 2, 1) := by decide +kernel
theorem dX4_readThing_5 : decode cX4_readThing 5 = .ok (.invokevirtual 43, 3) := by decide +kernel
theorem dX4_readThing_8 : decode cX4_readThing 8 = .ok (.istore_n 3, 1) := by decide +kernel
theorem dX4_readThing_9 : decode cX4_readThing 9 = .ok (.iload_n 2, 1) := by decide +kernel
theorem dX4_readThing_10 : decode cX4_readThing 10 = .ok (.iconst 5, 1) := by decide +kernel
theorem dX4_readThing_11 : decode cX4_readThing 11 = .ok (.if_icmp .ne 7, 3) := by decide +kernel
theorem dX4_readThing_14 : decode cX4_readThing 14 = .ok (.iconst 1, 1) := by decide +kernel
theorem dX4_readThing_15 : decode cX4_readThing 15 = .ok (.goto 4, 3) := by decide +kernel
theorem dX4_readThing_18 : decode cX4_readThing 18 = .ok (.iconst 0, 1) := by decide +kernel
theorem dX4_readThing_19 : decode cX4_readThing 19 = .ok (.istore 4, 2) := by decide +kernel
theorem dX4_readThing_21 : decode cX4_readThing 21 = .ok (.aload_n 0, 1) := by decide +kernel
theorem dX4_readThing_22 : decode cX4_readThing 22 = .ok (.invokevirtual 36, 3) := by decide +kernel
theorem dX4_readThing_25 : decode cX4_readThing 25 = .ok (.iconst 0, 1) := by decide +kernel
theorem dX4_readThing_26 : decode cX4_readThing 26 = .ok (.istore 5, 2) := by decide +kernel
theorem dX4_readThing_28 : decode cX4_readThing 28 = .ok (.iload 5, 2) := by decide +kernel
theorem dX4_readThing_30 : decode cX4_readThing 30 = .ok (.getstatic 71, 3) := by decide +kernel
theorem dX4_readThing_33 : decode cX4_readThing 33 = .ok (.iload_n 1, 1) := by decide +kernel
theorem dX4_readThing_34 : decode cX4_readThing 34 = .ok (.iaload, 1) := by decide +kernel
theorem dX4_readThing_35 : decode cX4_readThing 35 = .ok (.if_icmp .ge 80, 3) := by decide +kernel
theorem dX4_readThing_38 : decode cX4_readThing 38 = .ok (.aload_n 0, 1) := by decide +kernel
theorem dX4_readThing_39 : decode cX4_readThing 39 = .ok (.getfield 47, 3) := by decide +kernel
theorem dX4_readThing_42 : decode cX4_readThing 42 = .ok (.iconst 2, 1) := by decide +kernel
theorem dX4_readThing_43 : decode cX4_readThing 43 = .ok (.if_icmp .eq 9, 3) := by decide +kernel
theorem dX4_readThing_46 : decode cX4_readThing 46 = .ok (.aload_n 0, 1) := by decide +kernel
theorem dX4_readThing_47 : decode cX4_readThing 47 = .ok (.iconst 1, 1) := by decide +kernel
theorem dX4_readThing_48 : decode cX4_readThing 48 = .ok (.invokevirtual 64, 3) := by decide +kernel
theorem dX4_readThing_51 : decode cX4_readThing 51 = .ok (.ireturn, 1) := by decide +kernel
theorem dX4_readThing_52 : decode cX4_readThing 52 = .ok (.aload_n 0, 1) := by decide +kernel
theorem dX4_readThing_53 : decode cX4_readThing 53 = .ok (.getfield 75, 3) := by decide +kernel
theorem dX4_readThing_56 : decode cX4_readThing 56 = .ok (.aload_n 0, 1) := by decide +kernel
theorem dX4_readThing_57 : decode cX4_readThing 57 = .ok (.iload_n 1, 1) := by decide +kernel
theorem dX4_readThing_58 : decode cX4_readThing 58 = .ok (.iload 5, 2) := by decide +kernel
theorem dX4_readThing_60 : decode cX4_readThing 60 = .ok (.iload_n 3, 1) := by decide +kernel
theorem dX4_readThing_61 : decode cX4_readThing 61 = .ok (.invokevirtual 78, 3) := by decide +kernel
theorem dX4_readThing_64 : decode cX4_readThing 64 = .ok (.if_icmp .lt 17, 3) := by decide +kernel
theorem dX4_readThing_67 : decode cX4_readThing 67 = .ok (.aload_n 0, 1) := by decide +kernel
theorem dX4_readThing_68 : decode cX4_readThing 68 = .ok (.getfield 75, 3) := by decide +kernel
theorem dX4_readThing_71 : decode cX4_readThing 71 = .ok (.aload_n 0, 1) := by decide +kernel
theorem dX4_readThing_72 : decode cX4_readThing 72 = .ok (.iload_n 1, 1) := by decide +kernel
theorem dX4_readThing_73 : decode cX4_readThing 73 = .ok (.iload 5, 2) := by decide +kernel
theorem dX4_readThing_75 : decode cX4_readThing 75 = .ok (.invokevirtual 82, 3) := by decide +kernel
theorem dX4_readThing_78 : decode cX4_readThing 78 = .ok (.if_icmp .le 9, 3) := by decide +kernel
theorem dX4_readThing_81 : decode cX4_readThing 81 = .ok (.aload_n 0, 1) := by decide +kernel
theorem dX4_readThing_82 : decode cX4_readThing 82 = .ok (.iconst 2, 1) := by decide +kernel
theorem dX4_readThing_83 : decode cX4_readThing 83 = .ok (.invokevirtual 64, 3) := by decide +kernel
theorem dX4_readThing_86 : decode cX4_readThing 86 = .ok (.ireturn, 1) := by decide +kernel
theorem dX4_readThing_87 : decode cX4_readThing 87 = .ok (.aload_n 0, 1) := by decide +kernel
theorem dX4_readThing_88 : decode cX4_readThing 88 = .ok (.getfield 16, 3) := by decide +kernel
theorem dX4_readThing_91 : decode cX4_readThing 91 = .ok (.iload_n 2, 1) := by decide +kernel
theorem dX4_readThing_92 : decode cX4_readThing 92 = .ok (.iload_n 3, 1) := by decide +kernel
theorem dX4_readThing_93 : decode cX4_readThing 93 = .ok (.iload 4, 2) := by decide +kernel
theorem dX4_readThing_95 : decode cX4_readThing 95 = .ok (.iload 5, 2) := by decide +kernel
theorem dX4_readThing_97 : decode cX4_readThing 97 = .ok (.iadd, 1) := by decide +kernel
theorem dX4_readThing_98 : decode cX4_readThing 98 = .ok (.aload_n 0, 1) := by decide +kernel
theorem dX4_readThing_99 : decode cX4_readThing 99 = .ok (.getfield 75, 3) := by decide +kernel
theorem dX4_readThing_102 : decode cX4_readThing 102 = .ok (.invokevirtual 85, 3) := by decide +kernel
theorem dX4_readThing_105 : decode cX4_readThing 105 = .ok (.aload_n 0, 1) := by decide +kernel
theorem dX4_readThing_106 : decode cX4_readThing 106 = .ok (.invokevirtual 36, 3) := by decide +kernel
theorem dX4_readThing_109 : decode cX4_readThing 109 = .ok (.iinc 5 1, 3) := by decide +kernel
theorem dX4_readThing_112 : decode cX4_readThing 112 = .ok (.goto (-84), 3) := by decide +kernel
theorem dX4_readThing_115 : decode cX4_readThing 115 = .ok (.aload_n 0, 1) := by decide +kernel
theorem dX4_readThing_116 : decode cX4_readThing 116 = .ok (.getfield 47, 3) := by decide +kernel
theorem dX4_readThing_119 : decode cX4_readThing 119 = .ok (.iconst 3, 1) := by decide +kernel
theorem dX4_readThing_120 : decode cX4_readThing 120 = .ok (.if_icmp .eq 9, 3) := by decide +kernel
theorem dX4_readThing_123 : decode cX4_readThing 123 = .ok (.aload_n 0, 1) := by decide +kernel
theorem dX4_readThing_124 : decode cX4_readThing 124 = .ok (.iconst 1, 1) := by decide +kernel
theorem dX4_readThing_125 : decode cX4_readThing 125 = .ok (.invokevirtual 64, 3) := by decide +kernel
theorem dX4_readThing_128 : decode cX4_readThing 128 = .ok (.ireturn, 1) := by decide +kernel
theorem dX4_readThing_129 : decode cX4_readThing 129 = .ok (.iload_n 2, 1) := by decide +kernel
theorem dX4_readThing_130 : decode cX4_readThing 130 = .ok (.iconst 5, 1) := by decide +kernel
theorem dX4_readThing_131 : decode cX4_readThing 131 = .ok (.if_icmp .ne 18, 3) := by decide +kernel
theorem dX4_readThing_134 : decode cX4_readThing 134 = .ok (.aload_n 0, 1) := by decide +kernel
theorem dX4_readThing_135 : decode cX4_readThing 135 = .ok (.getfield 16, 3) := by decide +kernel
theorem dX4_readThing_138 : decode cX4_readThing 138 = .ok (.iconst 5, 1) := by decide +kernel
theorem dX4_readThing_139 : decode cX4_readThing 139 = .ok (.iload_n 3, 1) := by decide +kernel
theorem dX4_readThing_140 : decode cX4_readThing 140 = .ok (.iconst 0, 1) := by decide +kernel
theorem dX4_readThing_141 : decode cX4_readThing 141 = .ok (.iload_n 1, 1) := by decide +kernel
theorem dX4_readThing_142 : decode cX4_readThing 142 = .ok (.iconst 5, 1) := by decide +kernel
theorem dX4_readThing_143 : decode cX4_readThing 143 = .ok (.isub, 1) := by decide +kernel
theorem dX4_readThing_144 : decode cX4_readThing 144 = .ok (.iconst 2, 1) := by decide +kernel
theorem dX4_readThing_145 : decode cX4_readThing 145 = .ok (.iadd, 1) := by decide +kernel
theorem dX4_readThing_146 : decode cX4_readThing 146 = .ok (.invokevirtual 85, 3) := by decide +kernel
theorem dX4_readThing_149 : decode cX4_readThing 149 = .ok (.aload_n 0, 1) := by decide +kernel
theorem dX4_readThing_150 : decode cX4_readThing 150 = .ok (.getfield 16, 3) := by decide +kernel
theorem dX4_readThing_153 : decode cX4_readThing 153 = .ok (.iload_n 2, 1) := by decide +kernel
theorem dX4_readThing_154 : decode cX4_readThing 154 = .ok (.invokevirtual 89, 3) := by decide +kernel
theorem dX4_readThing_157 : decode cX4_readThing 157 = .ok (.aload_n 0, 1) := by decide +kernel
theorem dX4_readThing_158 : decode cX4_readThing 158 = .ok (.invokevirtual 36, 3) := by decide +kernel
theorem dX4_readThing_161 : decode cX4_readThing 161 = .ok (.iconst 1, 1) := by decide +kernel
theorem dX4_readThing_162 : decode cX4_readThing 162 = .ok (.ireturn, 1) := by decide +kernel
theorem dX4_lowOf_0 : decode cX4_lowOf 0 = .ok (.iload_n 1, 1) := by decide +kernel
theorem dX4_lowOf_1 : decode cX4_lowOf 1 = .ok (.iconst 3, 1) := by decide +kernel
theorem dX4_lowOf_2 : decode cX4_lowOf 2 = .ok (.if_icmp .ne 14, 3) := by decide +kernel
theorem dX4_lowOf_5 : decode cX4_lowOf 5 = .ok (.iload_n 2, 1) := by decide +kernel
theorem dX4_lowOf_6 : decode cX4_lowOf 6 = .ok (.iconst 2, 1) := by decide +kernel
theorem dX4_lowOf_7 : decode cX4_lowOf 7 = .ok (.irem, 1) := by decide +kernel
theorem dX4_lowOf_8 : decode cX4_lowOf 8 = .ok (.iconst 1, 1) := by decide +kernel
theorem dX4_lowOf_9 : decode cX4_lowOf 9 = .ok (.if_icmp .ne 7, 3) := by decide +kernel
theorem dX4_lowOf_12 : decode cX4_lowOf 12 = .ok (.iconst 1, 1) := by decide +kernel
theorem dX4_lowOf_13 : decode cX4_lowOf 13 = .ok (.goto 4, 3) := by decide +kernel
theorem dX4_lowOf_16 : decode cX4_lowOf 16 = .ok (.iconst 0, 1) := by decide +kernel
theorem dX4_lowOf_17 : decode cX4_lowOf 17 = .ok (.istore 4, 2) := by decide +kernel
theorem dX4_lowOf_19 : decode cX4_lowOf 19 = .ok (.iload 4, 2) := by decide +kernel
theorem dX4_lowOf_21 : decode cX4_lowOf 21 = .ok (.ifCond .eq 18, 3) := by decide +kernel
theorem dX4_lowOf_24 : decode cX4_lowOf 24 = .ok (.aload_n 0, 1) := by decide +kernel
theorem dX4_lowOf_25 : decode cX4_lowOf 25 = .ok (.getfield 16, 3) := by decide +kernel
theorem dX4_lowOf_28 : decode cX4_lowOf 28 = .ok (.iconst 3, 1) := by decide +kernel
theorem dX4_lowOf_29 : decode cX4_lowOf 29 = .ok (.iload_n 3, 1) := by decide +kernel
theorem dX4_lowOf_30 : decode cX4_lowOf 30 = .ok (.iload_n 2, 1) := by decide +kernel
theorem dX4_lowOf_31 : decode cX4_lowOf 31 = .ok (.iconst 1, 1) := by decide +kernel
theorem dX4_lowOf_32 : decode cX4_lowOf 32 = .ok (.isub, 1) := by decide +kernel
theorem dX4_lowOf_33 : decode cX4_lowOf 33 = .ok (.invokevirtual 93, 3) := by decide +kernel
theorem dX4_lowOf_36 : decode cX4_lowOf 36 = .ok (.goto 12, 3) := by decide +kernel
theorem dX4_lowOf_39 : decode cX4_lowOf 39 = .ok (.getstatic 96, 3) := by decide +kernel
theorem dX4_lowOf_42 : decode cX4_lowOf 42 = .ok (.iload_n 1, 1) := by decide +kernel
theorem dX4_lowOf_43 : decode cX4_lowOf 43 = .ok (.iconst 5, 1) := by decide +kernel
theorem dX4_lowOf_44 : decode cX4_lowOf 44 = .ok (.imul, 1) := by decide +kernel
theorem dX4_lowOf_45 : decode cX4_lowOf 45 = .ok (.iload_n 2, 1) := by decide +kernel
theorem dX4_lowOf_46 : decode cX4_lowOf 46 = .ok (.iadd, 1) := by decide +kernel
theorem dX4_lowOf_47 : decode cX4_lowOf 47 = .ok (.iaload, 1) := by decide +kernel
theorem dX4_lowOf_48 : decode cX4_lowOf 48 = .ok (.ireturn, 1) := by decide +kernel
theorem dX4_highOf_0 : decode cX4_highOf 0 = .ok (.iload_n 1, 1) := by decide +kernel
theorem dX4_highOf_1 : decode cX4_highOf 1 = .ok (.bipush 7, 2) := by decide +kernel
theorem dX4_highOf_3 : decode cX4_highOf 3 = .ok (.if_icmp .eq 9, 3) := by decide +kernel
theorem dX4_highOf_6 : decode cX4_highOf 6 = .ok (.iload_n 1, 1) := by decide +kernel
theorem dX4_highOf_7 : decode cX4_highOf 7 = .ok (.bipush 8, 2) := by decide +kernel
theorem dX4_highOf_9 : decode cX4_highOf 9 = .ok (.if_icmp .ne 7, 3) := by decide +kernel
theorem dX4_highOf_12 : decode cX4_highOf 12 = .ok (.iconst 1, 1) := by decide +kernel
theorem dX4_highOf_13 : decode cX4_highOf 13 = .ok (.goto 4, 3) := by decide +kernel
theorem dX4_highOf_16 : decode cX4_highOf 16 = .ok (.iconst 0, 1) := by decide +kernel
theorem dX4_highOf_17 : decode cX4_highOf 17 = .ok (.istore_n 3, 1) := by decide +kernel
theorem dX4_highOf_18 : decode cX4_highOf 18 = .ok (.iload_n 3, 1) := by decide +kernel
theorem dX4_highOf_19 : decode cX4_highOf 19 = .ok (.ifCond .eq 16, 3) := by decide +kernel
theorem dX4_highOf_22 : decode cX4_highOf 22 = .ok (.aload_n 0, 1) := by decide +kernel
theorem dX4_highOf_23 : decode cX4_highOf 23 = .ok (.getfield 16, 3) := by decide +kernel
theorem dX4_highOf_26 : decode cX4_highOf 26 = .ok (.iconst 2, 1) := by decide +kernel
theorem dX4_highOf_27 : decode cX4_highOf 27 = .ok (.invokevirtual 43, 3) := by decide +kernel
theorem dX4_highOf_30 : decode cX4_highOf 30 = .ok (.iconst 1, 1) := by decide +kernel
theorem dX4_highOf_31 : decode cX4_highOf 31 = .ok (.isub, 1) := by decide +kernel
theorem dX4_highOf_32 : decode cX4_highOf 32 = .ok (.goto 12, 3) := by decide +kernel
theorem dX4_highOf_35 : decode cX4_highOf 35 = .ok (.getstatic 99, 3) := by decide +kernel
theorem dX4_highOf_38 : decode cX4_highOf 38 = .ok (.iload_n 1, 1) := by decide +kernel
theorem dX4_highOf_39 : decode cX4_highOf 39 = .ok (.iconst 5, 1) := by decide +kernel
theorem dX4_highOf_40 : decode cX4_highOf 40 = .ok (.imul, 1) := by decide +kernel
theorem dX4_highOf_41 : decode cX4_highOf 41 = .ok (.iload_n 2, 1) := by decide +kernel
theorem dX4_highOf_42 : decode cX4_highOf 42 = .ok (.iadd, 1) := by decide +kernel
theorem dX4_highOf_43 : decode cX4_highOf 43 = .ok (.iaload, 1) := by decide +kernel
theorem dX4_highOf_44 : decode cX4_highOf 44 = .ok (.ireturn, 1) := by decide +kernel
theorem dX4_fail_0 : decode cX4_fail 0 = .ok (.aload_n 0, 1) := by decide +kernel
theorem dX4_fail_1 : decode cX4_fail 1 = .ok (.iload_n 1, 1) := by decide +kernel
theorem dX4_fail_2 : decode cX4_fail 2 = .ok (.putfield 24, 3) := by decide +kernel
theorem dX4_fail_5 : decode cX4_fail 5 = .ok (.aload_n 0, 1) := by decide +kernel
theorem dX4_fail_6 : decode cX4_fail 6 = .ok (.aload_n 0, 1) := by decide +kernel
theorem dX4_fail_7 : decode cX4_fail 7 = .ok (.getfield 102, 3) := by decide +kernel
theorem dX4_fail_10 : decode cX4_fail 10 = .ok (.putfield 27, 3) := by decide +kernel
theorem dX4_fail_13 : decode cX4_fail 13 = .ok (.iconst 0, 1) := by decide +kernel
theorem dX4_fail_14 : decode cX4_fail 14 = .ok (.ireturn, 1) := by decide +kernel
theorem dX4_next_0 : decode cX4_next 0 = .ok (.aload_n 0, 1) := by decide +kernel
theorem dX4_next_1 : decode cX4_next 1 = .ok (.aload_n 0, 1) := by decide +kernel
theorem dX4_next_2 : decode cX4_next 2 = .ok (.getfield 33, 3) := by decide +kernel
theorem dX4_next_5 : decode cX4_next 5 = .ok (.putfield 102, 3) := by decide +kernel
theorem dX4_next_8 : decode cX4_next 8 = .ok (.aload_n 0, 1) := by decide +kernel
theorem dX4_next_9 : decode cX4_next 9 = .ok (.getfield 102, 3) := by decide +kernel
theorem dX4_next_12 : decode cX4_next 12 = .ok (.aload_n 0, 1) := by decide +kernel
theorem dX4_next_13 : decode cX4_next 13 = .ok (.getfield 20, 3) := by decide +kernel
theorem dX4_next_16 : decode cX4_next 16 = .ok (.if_icmp .ge 44, 3) := by decide +kernel
theorem dX4_next_19 : decode cX4_next 19 = .ok (.aload_n 0, 1) := by decide +kernel
theorem dX4_next_20 : decode cX4_next 20 = .ok (.getfield 9, 3) := by decide +kernel
theorem dX4_next_23 : decode cX4_next 23 = .ok (.aload_n 0, 1) := by decide +kernel
theorem dX4_next_24 : decode cX4_next 24 = .ok (.getfield 102, 3) := by decide +kernel
theorem dX4_next_27 : decode cX4_next 27 = .ok (.baload, 1) := by decide +kernel
theorem dX4_next_28 : decode cX4_next 28 = .ok (.bipush 32, 2) := by decide +kernel
theorem dX4_next_30 : decode cX4_next 30 = .ok (.if_icmp .eq 17, 3) := by decide +kernel
theorem dX4_next_33 : decode cX4_next 33 = .ok (.aload_n 0, 1) := by decide +kernel
theorem dX4_next_34 : decode cX4_next 34 = .ok (.getfield 9, 3) := by decide +kernel
theorem dX4_next_37 : decode cX4_next 37 = .ok (.aload_n 0, 1) := by decide +kernel
theorem dX4_next_38 : decode cX4_next 38 = .ok (.getfield 102, 3) := by decide +kernel
theorem dX4_next_41 : decode cX4_next 41 = .ok (.baload, 1) := by decide +kernel
theorem dX4_next_42 : decode cX4_next 42 = .ok (.bipush 10, 2) := by decide +kernel
theorem dX4_next_44 : decode cX4_next 44 = .ok (.if_icmp .ne 16, 3) := by decide +kernel
theorem dX4_next_47 : decode cX4_next 47 = .ok (.aload_n 0, 1) := by decide +kernel
theorem dX4_next_48 : decode cX4_next 48 = .ok (.dup, 1) := by decide +kernel
theorem dX4_next_49 : decode cX4_next 49 = .ok (.getfield 102, 3) := by decide +kernel
theorem dX4_next_52 : decode cX4_next 52 = .ok (.iconst 1, 1) := by decide +kernel
theorem dX4_next_53 : decode cX4_next 53 = .ok (.iadd, 1) := by decide +kernel
theorem dX4_next_54 : decode cX4_next 54 = .ok (.putfield 102, 3) := by decide +kernel
theorem dX4_next_57 : decode cX4_next 57 = .ok (.goto (-49), 3) := by decide +kernel
theorem dX4_next_60 : decode cX4_next 60 = .ok (.aload_n 0, 1) := by decide +kernel
theorem dX4_next_61 : decode cX4_next 61 = .ok (.aload_n 0, 1) := by decide +kernel
theorem dX4_next_62 : decode cX4_next 62 = .ok (.getfield 102, 3) := by decide +kernel
theorem dX4_next_65 : decode cX4_next 65 = .ok (.putfield 33, 3) := by decide +kernel
theorem dX4_next_68 : decode cX4_next 68 = .ok (.aload_n 0, 1) := by decide +kernel
theorem dX4_next_69 : decode cX4_next 69 = .ok (.getfield 102, 3) := by decide +kernel
theorem dX4_next_72 : decode cX4_next 72 = .ok (.aload_n 0, 1) := by decide +kernel
theorem dX4_next_73 : decode cX4_next 73 = .ok (.getfield 20, 3) := by decide +kernel
theorem dX4_next_76 : decode cX4_next 76 = .ok (.if_icmp .lt 11, 3) := by decide +kernel
theorem dX4_next_79 : decode cX4_next 79 = .ok (.aload_n 0, 1) := by decide +kernel
theorem dX4_next_80 : decode cX4_next 80 = .ok (.iconst 0, 1) := by decide +kernel
theorem dX4_next_81 : decode cX4_next 81 = .ok (.putfield 47, 3) := by decide +kernel
theorem dX4_next_84 : decode cX4_next 84 = .ok (.goto 105, 3) := by decide +kernel
theorem dX4_next_87 : decode cX4_next 87 = .ok (.aload_n 0, 1) := by decide +kernel
theorem dX4_next_88 : decode cX4_next 88 = .ok (.aload_n 0, 1) := by decide +kernel
theorem dX4_next_89 : decode cX4_next 89 = .ok (.getfield 102, 3) := by decide +kernel
theorem dX4_next_92 : decode cX4_next 92 = .ok (.invokevirtual 105, 3) := by decide +kernel
theorem dX4_next_95 : decode cX4_next 95 = .ok (.ifCond .eq 43, 3) := by decide +kernel
theorem dX4_next_98 : decode cX4_next 98 = .ok (.aload_n 0, 1) := by decide +kernel
theorem dX4_next_99 : decode cX4_next 99 = .ok (.iconst 1, 1) := by decide +kernel
theorem dX4_next_100 : decode cX4_next 100 = .ok (.putfield 47, 3) := by decide +kernel
theorem dX4_next_103 : decode cX4_next 103 = .ok (.aload_n 0, 1) := by decide +kernel
theorem dX4_next_104 : decode cX4_next 104 = .ok (.getfield 33, 3) := by decide +kernel
theorem dX4_next_107 : decode cX4_next 107 = .ok (.aload_n 0, 1) := by decide +kernel
theorem dX4_next_108 : decode cX4_next 108 = .ok (.getfield 20, 3) := by decide +kernel
theorem dX4_next_111 : decode cX4_next 111 = .ok (.if_icmp .ge 78, 3) := by decide +kernel
theorem dX4_next_114 : decode cX4_next 114 = .ok (.aload_n 0, 1) := by decide +kernel
theorem dX4_next_115 : decode cX4_next 115 = .ok (.aload_n 0, 1) := by decide +kernel
theorem dX4_next_116 : decode cX4_next 116 = .ok (.getfield 33, 3) := by decide +kernel
theorem dX4_next_119 : decode cX4_next 119 = .ok (.invokevirtual 105, 3) := by decide +kernel
theorem dX4_next_122 : decode cX4_next 122 = .ok (.ifCond .eq 67, 3) := by decide +kernel
theorem dX4_next_125 : decode cX4_next 125 = .ok (.aload_n 0, 1) := by decide +kernel
theorem dX4_next_126 : decode cX4_next 126 = .ok (.dup, 1) := by decide +kernel
theorem dX4_next_127 : decode cX4_next 127 = .ok (.getfield 33, 3) := by decide +kernel
theorem dX4_next_130 : decode cX4_next 130 = .ok (.iconst 1, 1) := by decide +kernel
theorem dX4_next_131 : decode cX4_next 131 = .ok (.iadd, 1) := by decide +kernel
theorem dX4_next_132 : decode cX4_next 132 = .ok (.putfield 33, 3) := by decide +kernel
theorem dX4_next_135 : decode cX4_next 135 = .ok (.goto (-32), 3) := by decide +kernel
theorem dX4_next_138 : decode cX4_next 138 = .ok (.aload_n 0, 1) := by decide +kernel
theorem dX4_next_139 : decode cX4_next 139 = .ok (.aload_n 0, 1) := by decide +kernel
theorem dX4_next_140 : decode cX4_next 140 = .ok (.getfield 102, 3) := by decide +kernel
theorem dX4_next_143 : decode cX4_next 143 = .ok (.invokevirtual 108, 3) := by decide +kernel
theorem dX4_next_146 : decode cX4_next 146 = .ok (.ifCond .eq 10, 3) := by decide +kernel
theorem dX4_next_149 : decode cX4_next 149 = .ok (.aload_n 0, 1) := by decide +kernel
theorem dX4_next_150 : decode cX4_next 150 = .ok (.invokevirtual 111, 3) := by decide +kernel
theorem dX4_next_153 : decode cX4_next 153 = .ok (.goto 36, 3) := by decide +kernel
theorem dX4_next_156 : decode cX4_next 156 = .ok (.aload_n 0, 1) := by decide +kernel
theorem dX4_next_157 : decode cX4_next 157 = .ok (.aload_n 0, 1) := by decide +kernel
theorem dX4_next_158 : decode cX4_next 158 = .ok (.getfield 9, 3) := by decide +kernel
theorem dX4_next_161 : decode cX4_next 161 = .ok (.aload_n 0, 1) := by decide +kernel
theorem dX4_next_162 : decode cX4_next 162 = .ok (.getfield 102, 3) := by decide +kernel
theorem dX4_next_165 : decode cX4_next 165 = .ok (.baload, 1) := by decide +kernel
theorem dX4_next_166 : decode cX4_next 166 = .ok (.bipush 59, 2) := by decide +kernel
theorem dX4_next_168 : decode cX4_next 168 = .ok (.if_icmp .ne 7, 3) := by decide +kernel
theorem dX4_next_171 : decode cX4_next 171 = .ok (.iconst 3, 1) := by decide +kernel
theorem dX4_next_172 : decode cX4_next 172 = .ok (.goto 4, 3) := by decide +kernel
theorem dX4_next_175 : decode cX4_next 175 = .ok (.iconst 4, 1) := by decide +kernel
theorem dX4_next_176 : decode cX4_next 176 = .ok (.putfield 47, 3) := by decide +kernel
theorem dX4_next_179 : decode cX4_next 179 = .ok (.aload_n 0, 1) := by decide +kernel
theorem dX4_next_180 : decode cX4_next 180 = .ok (.dup, 1) := by decide +kernel
theorem dX4_next_181 : decode cX4_next 181 = .ok (.getfield 33, 3) := by decide +kernel
theorem dX4_next_184 : decode cX4_next 184 = .ok (.iconst 1, 1) := by decide +kernel
theorem dX4_next_185 : decode cX4_next 185 = .ok (.iadd, 1) := by decide +kernel
theorem dX4_next_186 : decode cX4_next 186 = .ok (.putfield 33, 3) := by decide +kernel
theorem dX4_next_189 : decode cX4_next 189 = .ok (.return_, 1) := by decide +kernel
theorem dX4_takeNumber_0 : decode cX4_takeNumber 0 = .ok (.aload_n 0, 1) := by decide +kernel
theorem dX4_takeNumber_1 : decode cX4_takeNumber 1 = .ok (.iconst 0, 1) := by decide +kernel
theorem dX4_takeNumber_2 : decode cX4_takeNumber 2 = .ok (.putfield 75, 3) := by decide +kernel
theorem dX4_takeNumber_5 : decode cX4_takeNumber 5 = .ok (.aload_n 0, 1) := by decide +kernel
theorem dX4_takeNumber_6 : decode cX4_takeNumber 6 = .ok (.getfield 33, 3) := by decide +kernel
theorem dX4_takeNumber_9 : decode cX4_takeNumber 9 = .ok (.aload_n 0, 1) := by decide +kernel
theorem dX4_takeNumber_10 : decode cX4_takeNumber 10 = .ok (.getfield 20, 3) := by decide +kernel
theorem dX4_takeNumber_13 : decode cX4_takeNumber 13 = .ok (.if_icmp .ge 64, 3) := by decide +kernel
theorem dX4_takeNumber_16 : decode cX4_takeNumber 16 = .ok (.aload_n 0, 1) := by decide +kernel
theorem dX4_takeNumber_17 : decode cX4_takeNumber 17 = .ok (.aload_n 0, 1) := by decide +kernel
theorem dX4_takeNumber_18 : decode cX4_takeNumber 18 = .ok (.getfield 33, 3) := by decide +kernel
theorem dX4_takeNumber_21 : decode cX4_takeNumber 21 = .ok (.invokevirtual 108, 3) := by decide +kernel
theorem dX4_takeNumber_24 : decode cX4_takeNumber 24 = .ok (.ifCond .eq 53, 3) := by decide +kernel
theorem dX4_takeNumber_27 : decode cX4_takeNumber 27 = .ok (.aload_n 0, 1) := by decide +kernel
theorem dX4_takeNumber_28 : decode cX4_takeNumber 28 = .ok (.getfield 33, 3) := by decide +kernel
theorem dX4_takeNumber_31 : decode cX4_takeNumber 31 = .ok (.aload_n 0, 1) := by decide +kernel
theorem dX4_takeNumber_32 : decode cX4_takeNumber 32 = .ok (.getfield 102, 3) := by decide +kernel
theorem dX4_takeNumber_35 : decode cX4_takeNumber 35 = .ok (.isub, 1) := by decide +kernel
theorem dX4_takeNumber_36 : decode cX4_takeNumber 36 = .ok (.iconst 3, 1) := by decide +kernel
theorem dX4_takeNumber_37 : decode cX4_takeNumber 37 = .ok (.if_icmp .ge 27, 3) := by decide +kernel
theorem dX4_takeNumber_40 : decode cX4_takeNumber 40 = .ok (.aload_n 0, 1) := by decide +kernel
theorem dX4_takeNumber_41 : decode cX4_takeNumber 41 = .ok (.aload_n 0, 1) := by decide +kernel
theorem dX4_takeNumber_42 : decode cX4_takeNumber 42 = .ok (.getfield 75, 3) := by decide +kernel
theorem dX4_takeNumber_45 : decode cX4_takeNumber 45 = .ok (.bipush 10, 2) := by decide +kernel
theorem dX4_takeNumber_47 : decode cX4_takeNumber 47 = .ok (.imul, 1) := by decide +kernel
theorem dX4_takeNumber_48 : decode cX4_takeNumber 48 = .ok (.aload_n 0, 1) := by decide +kernel
theorem dX4_takeNumber_49 : decode cX4_takeNumber 49 = .ok (.getfield 9, 3) := by decide +kernel
theorem dX4_takeNumber_52 : decode cX4_takeNumber 52 = .ok (.aload_n 0, 1) := by decide +kernel
theorem dX4_takeNumber_53 : decode cX4_takeNumber 53 = .ok (.getfield 33, 3) := by decide +kernel
theorem dX4_takeNumber_56 : decode cX4_takeNumber 56 = .ok (.baload, 1) := by decide +kernel
theorem dX4_takeNumber_57 : decode cX4_takeNumber 57 = .ok (.iadd, 1) := by decide +kernel
theorem dX4_takeNumber_58 : decode cX4_takeNumber 58 = .ok (.bipush 48, 2) := by decide +kernel
theorem dX4_takeNumber_60 : decode cX4_takeNumber 60 = .ok (.isub, 1) := by decide +kernel
theorem dX4_takeNumber_61 : decode cX4_takeNumber 61 = .ok (.putfield 75, 3) := by decide +kernel
theorem dX4_takeNumber_64 : decode cX4_takeNumber 64 = .ok (.aload_n 0, 1) := by decide +kernel
theorem dX4_takeNumber_65 : decode cX4_takeNumber 65 = .ok (.dup, 1) := by decide +kernel
theorem dX4_takeNumber_66 : decode cX4_takeNumber 66 = .ok (.getfield 33, 3) := by decide +kernel
theorem dX4_takeNumber_69 : decode cX4_takeNumber 69 = .ok (.iconst 1, 1) := by decide +kernel
theorem dX4_takeNumber_70 : decode cX4_takeNumber 70 = .ok (.iadd, 1) := by decide +kernel
theorem dX4_takeNumber_71 : decode cX4_takeNumber 71 = .ok (.putfield 33, 3) := by decide +kernel
theorem dX4_takeNumber_74 : decode cX4_takeNumber 74 = .ok (.goto (-69), 3) := by decide +kernel
theorem dX4_takeNumber_77 : decode cX4_takeNumber 77 = .ok (.aload_n 0, 1) := by decide +kernel
theorem dX4_takeNumber_78 : decode cX4_takeNumber 78 = .ok (.aload_n 0, 1) := by decide +kernel
theorem dX4_takeNumber_79 : decode cX4_takeNumber 79 = .ok (.getfield 33, 3) := by decide +kernel
theorem dX4_takeNumber_82 : decode cX4_takeNumber 82 = .ok (.aload_n 0, 1) := by decide +kernel
theorem dX4_takeNumber_83 : decode cX4_takeNumber 83 = .ok (.getfield 102, 3) := by decide +kernel
theorem dX4_takeNumber_86 : decode cX4_takeNumber 86 = .ok (.isub, 1) := by decide +kernel
theorem dX4_takeNumber_87 : decode cX4_takeNumber 87 = .ok (.iconst 3, 1) := by decide +kernel
theorem dX4_takeNumber_88 : decode cX4_takeNumber 88 = .ok (.if_icmp .gt 7, 3) := by decide +kernel
theorem dX4_takeNumber_91 : decode cX4_takeNumber 91 = .ok (.iconst 2, 1) := by decide +kernel
theorem dX4_takeNumber_92 : decode cX4_takeNumber 92 = .ok (.goto 4, 3) := by decide +kernel
theorem dX4_takeNumber_95 : decode cX4_takeNumber 95 = .ok (.iconst 4, 1) := by decide +kernel
theorem dX4_takeNumber_96 : decode cX4_takeNumber 96 = .ok (.putfield 47, 3) := by decide +kernel
theorem dX4_takeNumber_99 : decode cX4_takeNumber 99 = .ok (.return_, 1) := by decide +kernel
theorem dX4_isLetter_0 : decode cX4_isLetter 0 = .ok (.iload_n 1, 1) := by decide +kernel
theorem dX4_isLetter_1 : decode cX4_isLetter 1 = .ok (.ifCond .lt 37, 3) := by decide +kernel
theorem dX4_isLetter_4 : decode cX4_isLetter 4 = .ok (.iload_n 1, 1) := by decide +kernel
theorem dX4_isLetter_5 : decode cX4_isLetter 5 = .ok (.aload_n 0, 1) := by decide +kernel
theorem dX4_isLetter_6 : decode cX4_isLetter 6 = .ok (.getfield 20, 3) := by decide +kernel
theorem dX4_isLetter_9 : decode cX4_isLetter 9 = .ok (.if_icmp .ge 29, 3) := by decide +kernel
theorem dX4_isLetter_12 : decode cX4_isLetter 12 = .ok (.aload_n 0, 1) := by decide +kernel
theorem dX4_isLetter_13 : decode cX4_isLetter 13 = .ok (.getfield 9, 3) := by decide +kernel
theorem dX4_isLetter_16 : decode cX4_isLetter 16 = .ok (.iload_n 1, 1) := by decide +kernel
theorem dX4_isLetter_17 : decode cX4_isLetter 17 = .ok (.baload, 1) := by decide +kernel
theorem dX4_isLetter_18 : decode cX4_isLetter 18 = .ok (.bipush 97, 2) := by decide +kernel
theorem dX4_isLetter_20 : decode cX4_isLetter 20 = .ok (.if_icmp .lt 18, 3) := by decide +kernel
theorem dX4_isLetter_23 : decode cX4_isLetter 23 = .ok (.aload_n 0, 1) := by decide +kernel
theorem dX4_isLetter_24 : decode cX4_isLetter 24 = .ok (.getfield 9, 3) := by decide +kernel
theorem dX4_isLetter_27 : decode cX4_isLetter 27 = .ok (.iload_n 1, 1) := by decide +kernel
theorem dX4_isLetter_28 : decode cX4_isLetter 28 = .ok (.baload, 1) := by decide +kernel
theorem dX4_isLetter_29 : decode cX4_isLetter 29 = .ok (.bipush 122, 2) := by decide +kernel
theorem dX4_isLetter_31 : decode cX4_isLetter 31 = .ok (.if_icmp .gt 7, 3) := by decide +kernel
theorem dX4_isLetter_34 : decode cX4_isLetter 34 = .ok (.iconst 1, 1) := by decide +kernel
theorem dX4_isLetter_35 : decode cX4_isLetter 35 = .ok (.goto 4, 3) := by decide +kernel
theorem dX4_isLetter_38 : decode cX4_isLetter 38 = .ok (.iconst 0, 1) := by decide +kernel
theorem dX4_isLetter_39 : decode cX4_isLetter 39 = .ok (.ireturn, 1) := by decide +kernel
theorem dX4_isFigure_0 : decode cX4_isFigure 0 = .ok (.iload_n 1, 1) := by decide +kernel
theorem dX4_isFigure_1 : decode cX4_isFigure 1 = .ok (.ifCond .lt 37, 3) := by decide +kernel
theorem dX4_isFigure_4 : decode cX4_isFigure 4 = .ok (.iload_n 1, 1) := by decide +kernel
theorem dX4_isFigure_5 : decode cX4_isFigure 5 = .ok (.aload_n 0, 1) := by decide +kernel
theorem dX4_isFigure_6 : decode cX4_isFigure 6 = .ok (.getfield 20, 3) := by decide +kernel
theorem dX4_isFigure_9 : decode cX4_isFigure 9 = .ok (.if_icmp .ge 29, 3) := by decide +kernel
theorem dX4_isFigure_12 : decode cX4_isFigure 12 = .ok (.aload_n 0, 1) := by decide +kernel
theorem dX4_isFigure_13 : decode cX4_isFigure 13 = .ok (.getfield 9, 3) := by decide +kernel
theorem dX4_isFigure_16 : decode cX4_isFigure 16 = .ok (.iload_n 1, 1) := by decide +kernel
theorem dX4_isFigure_17 : decode cX4_isFigure 17 = .ok (.baload, 1) := by decide +kernel
theorem dX4_isFigure_18 : decode cX4_isFigure 18 = .ok (.bipush 48, 2) := by decide +kernel
theorem dX4_isFigure_20 : decode cX4_isFigure 20 = .ok (.if_icmp .lt 18, 3) := by decide +kernel
theorem dX4_isFigure_23 : decode cX4_isFigure 23 = .ok (.aload_n 0, 1) := by decide +kernel
theorem dX4_isFigure_24 : decode cX4_isFigure 24 = .ok (.getfield 9, 3) := by decide +kernel
theorem dX4_isFigure_27 : decode cX4_isFigure 27 = .ok (.iload_n 1, 1) := by decide +kernel
theorem dX4_isFigure_28 : decode cX4_isFigure 28 = .ok (.baload, 1) := by decide +kernel
theorem dX4_isFigure_29 : decode cX4_isFigure 29 = .ok (.bipush 57, 2) := by decide +kernel
theorem dX4_isFigure_31 : decode cX4_isFigure 31 = .ok (.if_icmp .gt 7, 3) := by decide +kernel
theorem dX4_isFigure_34 : decode cX4_isFigure 34 = .ok (.iconst 1, 1) := by decide +kernel
theorem dX4_isFigure_35 : decode cX4_isFigure 35 = .ok (.goto 4, 3) := by decide +kernel
theorem dX4_isFigure_38 : decode cX4_isFigure 38 = .ok (.iconst 0, 1) := by decide +kernel
theorem dX4_isFigure_39 : decode cX4_isFigure 39 = .ok (.ireturn, 1) := by decide +kernel
theorem dX4_wordHere_0 : decode cX4_wordHere 0 = .ok (.iconst 0, 1) := by decide +kernel
theorem dX4_wordHere_1 : decode cX4_wordHere 1 = .ok (.istore_n 1, 1) := by decide +kernel
theorem dX4_wordHere_2 : decode cX4_wordHere 2 = .ok (.iload_n 1, 1) := by decide +kernel
theorem dX4_wordHere_3 : decode cX4_wordHere 3 = .ok (.bipush 10, 2) := by decide +kernel
theorem dX4_wordHere_5 : decode cX4_wordHere 5 = .ok (.if_icmp .ge 22, 3) := by decide +kernel
theorem dX4_wordHere_8 : decode cX4_wordHere 8 = .ok (.aload_n 0, 1) := by decide +kernel
theorem dX4_wordHere_9 : decode cX4_wordHere 9 = .ok (.iload_n 1, 1) := by decide +kernel
theorem dX4_wordHere_10 : decode cX4_wordHere 10 = .ok (.invokestatic 114, 3) := by decide +kernel
theorem dX4_wordHere_13 : decode cX4_wordHere 13 = .ok (.invokevirtual 118, 3) := by decide +kernel
theorem dX4_wordHere_16 : decode cX4_wordHere 16 = .ok (.ifCond .eq 5, 3) := by decide +kernel
theorem dX4_wordHere_19 : decode cX4_wordHere 19 = .ok (.iload_n 1, 1) := by decide +kernel
theorem dX4_wordHere_20 : decode cX4_wordHere 20 = .ok (.ireturn, 1) := by decide +kernel
theorem dX4_wordHere_21 : decode cX4_wordHere 21 = .ok (.iinc 1 1, 3) := by decide +kernel
theorem dX4_wordHere_24 : decode cX4_wordHere 24 = .ok (.goto (-22), 3) := by decide +kernel
theorem dX4_wordHere_27 : decode cX4_wordHere 27 = .ok (.bipush 10, 2) := by decide +kernel
theorem dX4_wordHere_29 : decode cX4_wordHere 29 = .ok (.ireturn, 1) := by decide +kernel
theorem dX4_isHere_0 : decode cX4_isHere 0 = .ok (.aload_n 0, 1) := by decide +kernel
theorem dX4_isHere_1 : decode cX4_isHere 1 = .ok (.getfield 33, 3) := by decide +kernel
theorem dX4_isHere_4 : decode cX4_isHere 4 = .ok (.aload_n 0, 1) := by decide +kernel
theorem dX4_isHere_5 : decode cX4_isHere 5 = .ok (.getfield 102, 3) := by decide +kernel
theorem dX4_isHere_8 : decode cX4_isHere 8 = .ok (.isub, 1) := by decide +kernel
theorem dX4_isHere_9 : decode cX4_isHere 9 = .ok (.aload_n 1, 1) := by decide +kernel
theorem dX4_isHere_10 : decode cX4_isHere 10 = .ok (.invokevirtual 122, 3) := by decide +kernel
theorem dX4_isHere_13 : decode cX4_isHere 13 = .ok (.if_icmp .eq 5, 3) := by decide +kernel
theorem dX4_isHere_16 : decode cX4_isHere 16 = .ok (.iconst 0, 1) := by decide +kernel
theorem dX4_isHere_17 : decode cX4_isHere 17 = .ok (.ireturn, 1) := by decide +kernel
theorem dX4_isHere_18 : decode cX4_isHere 18 = .ok (.iconst 0, 1) := by decide +kernel
theorem dX4_isHere_19 : decode cX4_isHere 19 = .ok (.istore_n 2, 1) := by decide +kernel
theorem dX4_isHere_20 : decode cX4_isHere 20 = .ok (.iload_n 2, 1) := by decide +kernel
theorem dX4_isHere_21 : decode cX4_isHere 21 = .ok (.aload_n 1, 1) := by decide +kernel
theorem dX4_isHere_22 : decode cX4_isHere 22 = .ok (.invokevirtual 122, 3) := by decide +kernel
theorem dX4_isHere_25 : decode cX4_isHere 25 = .ok (.if_icmp .ge 30, 3) := by decide +kernel
theorem dX4_isHere_28 : decode cX4_isHere 28 = .ok (.aload_n 0, 1) := by decide +kernel
theorem dX4_isHere_29 : decode cX4_isHere 29 = .ok (.getfield 9, 3) := by decide +kernel
theorem dX4_isHere_32 : decode cX4_isHere 32 = .ok (.aload_n 0, 1) := by decide +kernel
theorem dX4_isHere_33 : decode cX4_isHere 33 = .ok (.getfield 102, 3) := by decide +kernel
theorem dX4_isHere_36 : decode cX4_isHere 36 = .ok (.iload_n 2, 1) := by decide +kernel
theorem dX4_isHere_37 : decode cX4_isHere 37 = .ok (.iadd, 1) := by decide +kernel
theorem dX4_isHere_38 : decode cX4_isHere 38 = .ok (.baload, 1) := by decide +kernel
theorem dX4_isHere_39 : decode cX4_isHere 39 = .ok (.aload_n 1, 1) := by decide +kernel
theorem dX4_isHere_40 : decode cX4_isHere 40 = .ok (.iload_n 2, 1) := by decide +kernel
theorem dX4_isHere_41 : decode cX4_isHere 41 = .ok (.invokevirtual 126, 3) := by decide +kernel
theorem dX4_isHere_44 : decode cX4_isHere 44 = .ok (.if_icmp .eq 5, 3) := by decide +kernel
theorem dX4_isHere_47 : decode cX4_isHere 47 = .ok (.iconst 0, 1) := by decide +kernel
theorem dX4_isHere_48 : decode cX4_isHere 48 = .ok (.ireturn, 1) := by decide +kernel
theorem dX4_isHere_49 : decode cX4_isHere 49 = .ok (.iinc 2 1, 3) := by decide +kernel
theorem dX4_isHere_52 : decode cX4_isHere 52 = .ok (.goto (-32), 3) := by decide +kernel
theorem dX4_isHere_55 : decode cX4_isHere 55 = .ok (.iconst 1, 1) := by decide +kernel
theorem dX4_isHere_56 : decode cX4_isHere 56 = .ok (.ireturn, 1) := by decide +kernel
theorem dX4_wordOf_0 : decode cX4_wordOf 0 = .ok (.iload_n 0, 1) := by decide +kernel
theorem dX4_wordOf_1 : decode cX4_wordOf 1 = .ok (.tableswitch 78 0 8 #[51, 54, 57, 60, 63, 66, 69, 72, 75], 51) := by decide +kernel
theorem dX4_wordOf_52 : decode cX4_wordOf 52 = .ok (.ldc 130, 2) := by decide +kernel
theorem dX4_wordOf_54 : decode cX4_wordOf 54 = .ok (.areturn, 1) := by decide +kernel
theorem dX4_wordOf_55 : decode cX4_wordOf 55 = .ok (.ldc 132, 2) := by decide +kernel
theorem dX4_wordOf_57 : decode cX4_wordOf 57 = .ok (.areturn, 1) := by decide +kernel
theorem dX4_wordOf_58 : decode cX4_wordOf 58 = .ok (.ldc 134, 2) := by decide +kernel
theorem dX4_wordOf_60 : decode cX4_wordOf 60 = .ok (.areturn, 1) := by decide +kernel
theorem dX4_wordOf_61 : decode cX4_wordOf 61 = .ok (.ldc 136, 2) := by decide +kernel
theorem dX4_wordOf_63 : decode cX4_wordOf 63 = .ok (.areturn, 1) := by decide +kernel
theorem dX4_wordOf_64 : decode cX4_wordOf 64 = .ok (.ldc 138, 2) := by decide +kernel
theorem dX4_wordOf_66 : decode cX4_wordOf 66 = .ok (.areturn, 1) := by decide +kernel
theorem dX4_wordOf_67 : decode cX4_wordOf 67 = .ok (.ldc 140, 2) := by decide +kernel
theorem dX4_wordOf_69 : decode cX4_wordOf 69 = .ok (.areturn, 1) := by decide +kernel
theorem dX4_wordOf_70 : decode cX4_wordOf 70 = .ok (.ldc 142, 2) := by decide +kernel
theorem dX4_wordOf_72 : decode cX4_wordOf 72 = .ok (.areturn, 1) := by decide +kernel
theorem dX4_wordOf_73 : decode cX4_wordOf 73 = .ok (.ldc 144, 2) := by decide +kernel
theorem dX4_wordOf_75 : decode cX4_wordOf 75 = .ok (.areturn, 1) := by decide +kernel
theorem dX4_wordOf_76 : decode cX4_wordOf 76 = .ok (.ldc 146, 2) := by decide +kernel
theorem dX4_wordOf_78 : decode cX4_wordOf 78 = .ok (.areturn, 1) := by decide +kernel
theorem dX4_wordOf_79 : decode cX4_wordOf 79 = .ok (.ldc 148, 2) := by decide +kernel
theorem dX4_wordOf_81 : decode cX4_wordOf 81 = .ok (.areturn, 1) := by decide +kernel
theorem dX5_init_0 : decode cX5_init 0 = .ok (.aload_n 0, 1) := by decide +kernel
theorem dX5_init_1 : decode cX5_init 1 = .ok (.invokespecial 3, 3) := by decide +kernel
theorem dX5_init_4 : decode cX5_init 4 = .ok (.aload_n 0, 1) := by decide +kernel
theorem dX5_init_5 : decode cX5_init 5 = .ok (.bipush 8, 2) := by decide +kernel
theorem dX5_init_7 : decode cX5_init 7 = .ok (.bipush 40, 2) := by decide +kernel
theorem dX5_init_9 : decode cX5_init 9 = .ok (.multianewarray 11 2, 4) := by decide +kernel
theorem dX5_init_13 : decode cX5_init 13 = .ok (.putfield 13, 3) := by decide +kernel
theorem dX5_init_16 : decode cX5_init 16 = .ok (.aload_n 0, 1) := by decide +kernel
theorem dX5_init_17 : decode cX5_init 17 = .ok (.bipush 8, 2) := by decide +kernel
theorem dX5_init_19 : decode cX5_init 19 = .ok (.newarray .int, 2) := by decide +kernel
theorem dX5_init_21 : decode cX5_init 21 = .ok (.putfield 16, 3) := by decide +kernel
theorem dX5_init_24 : decode cX5_init 24 = .ok (.aload_n 0, 1) := by decide +kernel
theorem dX5_init_25 : decode cX5_init 25 = .ok (.bipush 8, 2) := by decide +kernel
theorem dX5_init_27 : decode cX5_init 27 = .ok (.newarray .int, 2) := by decide +kernel
theorem dX5_init_29 : decode cX5_init 29 = .ok (.putfield 20, 3) := by decide +kernel
theorem dX5_init_32 : decode cX5_init 32 = .ok (.aload_n 0, 1) := by decide +kernel
theorem dX5_init_33 : decode cX5_init 33 = .ok (.getfield 20, 3) := by decide +kernel
theorem dX5_init_36 : decode cX5_init 36 = .ok (.iconst (-1), 1) := by decide +kernel
theorem dX5_init_37 : decode cX5_init 37 = .ok (.invokestatic 23, 3) := by decide +kernel
theorem dX5_init_40 : decode cX5_init 40 = .ok (.return_, 1) := by decide +kernel
theorem dX5_isRow_0 : decode cX5_isRow 0 = .ok (.iload_n 0, 1) := by decide +kernel
theorem dX5_isRow_1 : decode cX5_isRow 1 = .ok (.ifCond .lt 13, 3) := by decide +kernel
theorem dX5_isRow_4 : decode cX5_isRow 4 = .ok (.iload_n 0, 1) := by decide +kernel
theorem dX5_isRow_5 : decode cX5_isRow 5 = .ok (.bipush 8, 2) := by decide +kernel
theorem dX5_isRow_7 : decode cX5_isRow 7 = .ok (.if_icmp .ge 7, 3) := by decide +kernel
theorem dX5_isRow_10 : decode cX5_isRow 10 = .ok (.iconst 1, 1) := by decide +kernel
theorem dX5_isRow_11 : decode cX5_isRow 11 = .ok (.goto 4, 3) := by decide +kernel
theorem dX5_isRow_14 : decode cX5_isRow 14 = .ok (.iconst 0, 1) := by decide +kernel
theorem dX5_isRow_15 : decode cX5_isRow 15 = .ok (.ireturn, 1) := by decide +kernel
theorem dX5_isMissing_0 : decode cX5_isMissing 0 = .ok (.iload_n 1, 1) := by decide +kernel
theorem dX5_isMissing_1 : decode cX5_isMissing 1 = .ok (.invokestatic 29, 3) := by decide +kernel
theorem dX5_isMissing_4 : decode cX5_isMissing 4 = .ok (.ifCond .eq 13, 3) := by decide +kernel
theorem dX5_isMissing_7 : decode cX5_isMissing 7 = .ok (.aload_n 0, 1) := by decide +kernel
theorem dX5_isMissing_8 : decode cX5_isMissing 8 = .ok (.getfield 20, 3) := by decide +kernel
theorem dX5_isMissing_11 : decode cX5_isMissing 11 = .ok (.iload_n 1, 1) := by decide +kernel
theorem dX5_isMissing_12 : decode cX5_isMissing 12 = .ok (.iaload, 1) := by decide +kernel
theorem dX5_isMissing_13 : decode cX5_isMissing 13 = .ok (.iconst (-1), 1) := by decide +kernel
theorem dX5_isMissing_14 : decode cX5_isMissing 14 = .ok (.if_icmp .ne 7, 3) := by decide +kernel
theorem dX5_isMissing_17 : decode cX5_isMissing 17 = .ok (.iconst 1, 1) := by decide +kernel
theorem dX5_isMissing_18 : decode cX5_isMissing 18 = .ok (.goto 4, 3) := by decide +kernel
theorem dX5_isMissing_21 : decode cX5_isMissing 21 = .ok (.iconst 0, 1) := by decide +kernel
theorem dX5_isMissing_22 : decode cX5_isMissing 22 = .ok (.ireturn, 1) := by decide +kernel
theorem dX5_laneOf_0 : decode cX5_laneOf 0 = .ok (.iload_n 1, 1) := by decide +kernel
theorem dX5_laneOf_1 : decode cX5_laneOf 1 = .ok (.invokestatic 29, 3) := by decide +kernel
theorem dX5_laneOf_4 : decode cX5_laneOf 4 = .ok (.ifCond .eq 12, 3) := by decide +kernel
theorem dX5_laneOf_7 : decode cX5_laneOf 7 = .ok (.aload_n 0, 1) := by decide +kernel
theorem dX5_laneOf_8 : decode cX5_laneOf 8 = .ok (.getfield 16, 3) := by decide +kernel
theorem dX5_laneOf_11 : decode cX5_laneOf 11 = .ok (.iload_n 1, 1) := by decide +kernel
theorem dX5_laneOf_12 : decode cX5_laneOf 12 = .ok (.iaload, 1) := by decide +kernel
theorem dX5_laneOf_13 : decode cX5_laneOf 13 = .ok (.goto 5, 3) := by decide +kernel
theorem dX5_laneOf_16 : decode cX5_laneOf 16 = .ok (.ldc 33, 2) := by decide +kernel
theorem dX5_laneOf_18 : decode cX5_laneOf 18 = .ok (.ireturn, 1) := by decide +kernel
theorem dX5_hasPlaces_0 : decode cX5_hasPlaces 0 = .ok (.aload_n 0, 1) := by decide +kernel
theorem dX5_hasPlaces_1 : decode cX5_hasPlaces 1 = .ok (.iload_n 1, 1) := by decide +kernel
theorem dX5_hasPlaces_2 : decode cX5_hasPlaces 2 = .ok (.invokevirtual 34, 3) := by decide +kernel
theorem dX5_hasPlaces_5 : decode cX5_hasPlaces 5 = .ok (.ifCond .ne 37, 3) := by decide +kernel
theorem dX5_hasPlaces_8 : decode cX5_hasPlaces 8 = .ok (.iload_n 2, 1) := by decide +kernel
theorem dX5_hasPlaces_9 : decode cX5_hasPlaces 9 = .ok (.ifCond .lt 33, 3) := by decide +kernel
theorem dX5_hasPlaces_12 : decode cX5_hasPlaces 12 = .ok (.iload_n 3, 1) := by decide +kernel
theorem dX5_hasPlaces_13 : decode cX5_hasPlaces 13 = .ok (.ifCond .lt 29, 3) := by decide +kernel
theorem dX5_hasPlaces_16 : decode cX5_hasPlaces 16 = .ok (.iload_n 3, 1) := by decide +kernel
theorem dX5_hasPlaces_17 : decode cX5_hasPlaces 17 = .ok (.aload_n 0, 1) := by decide +kernel
theorem dX5_hasPlaces_18 : decode cX5_hasPlaces 18 = .ok (.getfield 20, 3) := by decide +kernel
theorem dX5_hasPlaces_21 : decode cX5_hasPlaces 21 = .ok (.iload_n 1, 1) := by decide +kernel
theorem dX5_hasPlaces_22 : decode cX5_hasPlaces 22 = .ok (.iaload, 1) := by decide +kernel
theorem dX5_hasPlaces_23 : decode cX5_hasPlaces 23 = .ok (.if_icmp .gt 19, 3) := by decide +kernel
theorem dX5_hasPlaces_26 : decode cX5_hasPlaces 26 = .ok (.iload_n 2, 1) := by decide +kernel
theorem dX5_hasPlaces_27 : decode cX5_hasPlaces 27 = .ok (.aload_n 0, 1) := by decide +kernel
theorem dX5_hasPlaces_28 : decode cX5_hasPlaces 28 = .ok (.getfield 20, 3) := by decide +kernel
theorem dX5_hasPlaces_31 : decode cX5_hasPlaces 31 = .ok (.iload_n 1, 1) := by decide +kernel
theorem dX5_hasPlaces_32 : decode cX5_hasPlaces 32 = .ok (.iaload, 1) := by decide +kernel
theorem dX5_hasPlaces_33 : decode cX5_hasPlaces 33 = .ok (.iload_n 3, 1) := by decide +kernel
theorem dX5_hasPlaces_34 : decode cX5_hasPlaces 34 = .ok (.isub, 1) := by decide +kernel
theorem dX5_hasPlaces_35 : decode cX5_hasPlaces 35 = .ok (.if_icmp .gt 7, 3) := by decide +kernel
theorem dX5_hasPlaces_38 : decode cX5_hasPlaces 38 = .ok (.iconst 1, 1) := by decide +kernel
theorem dX5_hasPlaces_39 : decode cX5_hasPlaces 39 = .ok (.goto 4, 3) := by decide +kernel
theorem dX5_hasPlaces_42 : decode cX5_hasPlaces 42 = .ok (.iconst 0, 1) := by decide +kernel
theorem dX5_hasPlaces_43 : decode cX5_hasPlaces 43 = .ok (.ireturn, 1) := by decide +kernel
theorem dX5_make_0 : decode cX5_make 0 = .ok (.iload_n 1, 1) := by decide +kernel
theorem dX5_make_1 : decode cX5_make 1 = .ok (.invokestatic 29, 3) := by decide +kernel
theorem dX5_make_4 : decode cX5_make 4 = .ok (.ifCond .eq 37, 3) := by decide +kernel
theorem dX5_make_7 : decode cX5_make 7 = .ok (.iload_n 3, 1) := by decide +kernel
theorem dX5_make_8 : decode cX5_make 8 = .ok (.ifCond .lt 33, 3) := by decide +kernel
theorem dX5_make_11 : decode cX5_make 11 = .ok (.iload_n 3, 1) := by decide +kernel
theorem dX5_make_12 : decode cX5_make 12 = .ok (.bipush 40, 2) := by decide +kernel
theorem dX5_make_14 : decode cX5_make 14 = .ok (.if_icmp .gt 27, 3) := by decide +kernel
theorem dX5_make_17 : decode cX5_make 17 = .ok (.aload_n 0, 1) := by decide +kernel
theorem dX5_make_18 : decode cX5_make 18 = .ok (.getfield 16, 3) := by decide +kernel
theorem dX5_make_21 : decode cX5_make 21 = .ok (.iload_n 1, 1) := by decide +kernel
theorem dX5_make_22 : decode cX5_make 22 = .ok (.iload_n 2, 1) := by decide +kernel
theorem dX5_make_23 : decode cX5_make 23 = .ok (.iastore, 1) := by decide +kernel
theorem dX5_make_24 : decode cX5_make 24 = .ok (.aload_n 0, 1) := by decide +kernel
theorem dX5_make_25 : decode cX5_make 25 = .ok (.getfield 20, 3) := by decide +kernel
theorem dX5_make_28 : decode cX5_make 28 = .ok (.iload_n 1, 1) := by decide +kernel
theorem dX5_make_29 : decode cX5_make 29 = .ok (.iload_n 3, 1) := by decide +kernel
theorem dX5_make_30 : decode cX5_make 30 = .ok (.iastore, 1) := by decide +kernel
theorem dX5_make_31 : decode cX5_make 31 = .ok (.aload_n 0, 1) := by decide +kernel
theorem dX5_make_32 : decode cX5_make 32 = .ok (.getfield 13, 3) := by decide +kernel
theorem dX5_make_35 : decode cX5_make 35 = .ok (.iload_n 1, 1) := by decide +kernel
theorem dX5_make_36 : decode cX5_make 36 = .ok (.aaload, 1) := by decide +kernel
theorem dX5_make_37 : decode cX5_make 37 = .ok (.iconst 0, 1) := by decide +kernel
theorem dX5_make_38 : decode cX5_make 38 = .ok (.invokestatic 23, 3) := by decide +kernel
theorem dX5_make_41 : decode cX5_make 41 = .ok (.return_, 1) := by decide +kernel
theorem dX5_put_0 : decode cX5_put 0 = .ok (.aload_n 0, 1) := by decide +kernel
theorem dX5_put_1 : decode cX5_put 1 = .ok (.iload_n 1, 1) := by decide +kernel
theorem dX5_put_2 : decode cX5_put 2 = .ok (.iload_n 2, 1) := by decide +kernel
theorem dX5_put_3 : decode cX5_put 3 = .ok (.iconst 1, 1) := by decide +kernel
theorem dX5_put_4 : decode cX5_put 4 = .ok (.invokevirtual 37, 3) := by decide +kernel
theorem dX5_put_7 : decode cX5_put 7 = .ok (.ifCond .ne 5, 3) := by decide +kernel
theorem dX5_put_10 : decode cX5_put 10 = .ok (.iconst 0, 1) := by decide +kernel
theorem dX5_put_11 : decode cX5_put 11 = .ok (.ireturn, 1) := by decide +kernel
theorem dX5_put_12 : decode cX5_put 12 = .ok (.aload_n 0, 1) := by decide +kernel
theorem dX5_put_13 : decode cX5_put 13 = .ok (.getfield 16, 3) := by decide +kernel
theorem dX5_put_16 : decode cX5_put 16 = .ok (.iload_n 1, 1) := by decide +kernel
theorem dX5_put_17 : decode cX5_put 17 = .ok (.iaload, 1) := by decide +kernel
theorem dX5_put_18 : decode cX5_put 18 = .ok (.ifCond .ne 8, 3) := by decide +kernel
theorem dX5_put_21 : decode cX5_put 21 = .ok (.iload_n 3, 1) := by decide +kernel
theorem dX5_put_22 : decode cX5_put 22 = .ok (.i2b, 1) := by decide +kernel
theorem dX5_put_23 : decode cX5_put 23 = .ok (.goto 19, 3) := by decide +kernel
theorem dX5_put_26 : decode cX5_put 26 = .ok (.aload_n 0, 1) := by decide +kernel
theorem dX5_put_27 : decode cX5_put 27 = .ok (.getfield 16, 3) := by decide +kernel
theorem dX5_put_30 : decode cX5_put 30 = .ok (.iload_n 1, 1) := by decide +kernel
theorem dX5_put_31 : decode cX5_put 31 = .ok (.iaload, 1) := by decide +kernel
theorem dX5_put_32 : decode cX5_put 32 = .ok (.iconst 1, 1) := by decide +kernel
theorem dX5_put_33 : decode cX5_put 33 = .ok (.if_icmp .ne 8, 3) := by decide +kernel
theorem dX5_put_36 : decode cX5_put 36 = .ok (.iload_n 3, 1) := by decide +kernel
theorem dX5_put_37 : decode cX5_put 37 = .ok (.i2s, 1) := by decide +kernel
theorem dX5_put_38 : decode cX5_put 38 = .ok (.goto 4, 3) := by decide +kernel
theorem dX5_put_41 : decode cX5_put 41 = .ok (.iload_n 3, 1) := by decide +kernel
theorem dX5_put_42 : decode cX5_put 42 = .ok (.istore 4, 2) := by decide +kernel
theorem dX5_put_44 : decode cX5_put 44 = .ok (.aload_n 0, 1) := by decide +kernel
theorem dX5_put_45 : decode cX5_put 45 = .ok (.getfield 13, 3) := by decide +kernel
theorem dX5_put_48 : decode cX5_put 48 = .ok (.iload_n 1, 1) := by decide +kernel
theorem dX5_put_49 : decode cX5_put 49 = .ok (.aaload, 1) := by decide +kernel
theorem dX5_put_50 : decode cX5_put 50 = .ok (.iload_n 2, 1) := by decide +kernel
theorem dX5_put_51 : decode cX5_put 51 = .ok (.iload 4, 2) := by decide +kernel
theorem dX5_put_53 : decode cX5_put 53 = .ok (.iastore, 1) := by decide +kernel
theorem dX5_put_54 : decode cX5_put 54 = .ok (.iload 4, 2) := by decide +kernel
theorem dX5_put_56 : decode cX5_put 56 = .ok (.ireturn, 1) := by decide +kernel
theorem dX5_itemAt_0 : decode cX5_itemAt 0 = .ok (.aload_n 0, 1) := by decide +kernel
theorem dX5_itemAt_1 : decode cX5_itemAt 1 = .ok (.iload_n 1, 1) := by decide +kernel
theorem dX5_itemAt_2 : decode cX5_itemAt 2 = .ok (.iload_n 2, 1) := by decide +kernel
theorem dX5_itemAt_3 : decode cX5_itemAt 3 = .ok (.iconst 1, 1) := by decide +kernel
theorem dX5_itemAt_4 : decode cX5_itemAt 4 = .ok (.invokevirtual 37, 3) := by decide +kernel
theorem dX5_itemAt_7 : decode cX5_itemAt 7 = .ok (.ifCond .eq 14, 3) := by decide +kernel
theorem dX5_itemAt_10 : decode cX5_itemAt 10 = .ok (.aload_n 0, 1) := by decide +kernel
theorem dX5_itemAt_11 : decode cX5_itemAt 11 = .ok (.getfield 13, 3) := by decide +kernel
theorem dX5_itemAt_14 : decode cX5_itemAt 14 = .ok (.iload_n 1, 1) := by decide +kernel
theorem dX5_itemAt_15 : decode cX5_itemAt 15 = .ok (.aaload, 1) := by decide +kernel
theorem dX5_itemAt_16 : decode cX5_itemAt 16 = .ok (.iload_n 2, 1) := by decide +kernel
theorem dX5_itemAt_17 : decode cX5_itemAt 17 = .ok (.iaload, 1) := by decide +kernel
theorem dX5_itemAt_18 : decode cX5_itemAt 18 = .ok (.goto 4, 3) := by decide +kernel
theorem dX5_itemAt_21 : decode cX5_itemAt 21 = .ok (.iconst 0, 1) := by decide +kernel
theorem dX5_itemAt_22 : decode cX5_itemAt 22 = .ok (.ireturn, 1) := by decide +kernel
theorem dX5_carry_0 : decode cX5_carry 0 = .ok (.aload_n 0, 1) := by decide +kernel
theorem dX5_carry_1 : decode cX5_carry 1 = .ok (.iload_n 1, 1) := by decide +kernel
theorem dX5_carry_2 : decode cX5_carry 2 = .ok (.iload_n 2, 1) := by decide +kernel
theorem dX5_carry_3 : decode cX5_carry 3 = .ok (.iload 5, 2) := by decide +kernel
theorem dX5_carry_5 : decode cX5_carry 5 = .ok (.invokevirtual 37, 3) := by decide +kernel
theorem dX5_carry_8 : decode cX5_carry 8 = .ok (.ifCond .eq 35, 3) := by decide +kernel
theorem dX5_carry_11 : decode cX5_carry 11 = .ok (.aload_n 0, 1) := by decide +kernel
theorem dX5_carry_12 : decode cX5_carry 12 = .ok (.iload_n 3, 1) := by decide +kernel
theorem dX5_carry_13 : decode cX5_carry 13 = .ok (.iload 4, 2) := by decide +kernel
theorem dX5_carry_15 : decode cX5_carry 15 = .ok (.iload 5, 2) := by decide +kernel
theorem dX5_carry_17 : decode cX5_carry 17 = .ok (.invokevirtual 37, 3) := by decide +kernel
theorem dX5_carry_20 : decode cX5_carry 20 = .ok (.ifCond .eq 23, 3) := by decide +kernel
theorem dX5_carry_23 : decode cX5_carry 23 = .ok (.aload_n 0, 1) := by decide +kernel
theorem dX5_carry_24 : decode cX5_carry 24 = .ok (.getfield 13, 3) := by decide +kernel
theorem dX5_carry_27 : decode cX5_carry 27 = .ok (.iload_n 1, 1) := by decide +kernel
theorem dX5_carry_28 : decode cX5_carry 28 = .ok (.aaload, 1) := by decide +kernel
theorem dX5_carry_29 : decode cX5_carry 29 = .ok (.iload_n 2, 1) := by decide +kernel
theorem dX5_carry_30 : decode cX5_carry 30 = .ok (.aload_n 0, 1) := by decide +kernel
theorem dX5_carry_31 : decode cX5_carry 31 = .ok (.getfield 13, 3) := by decide +kernel
theorem dX5_carry_34 : decode cX5_carry 34 = .ok (.iload_n 3, 1) := by decide +kernel
theorem dX5_carry_35 : decode cX5_carry 35 = .ok (.aaload, 1) := by decide +kernel
theorem dX5_carry_36 : decode cX5_carry 36 = .ok (.iload 4, 2) := by decide +kernel
theorem dX5_carry_38 : decode cX5_carry 38 = .ok (.iload 5, 2) := by decide +kernel
theorem dX5_carry_40 : decode cX5_carry 40 = .ok (.invokestatic 41, 3) := by decide +kernel
theorem dX5_carry_43 : decode cX5_carry 43 = .ok (.return_, 1) := by decide +kernel
theorem dX5_remove_0 : decode cX5_remove 0 = .ok (.aload_n 0, 1) := by decide +kernel
theorem dX5_remove_1 : decode cX5_remove 1 = .ok (.iload_n 1, 1) := by decide +kernel
theorem dX5_remove_2 : decode cX5_remove 2 = .ok (.invokevirtual 34, 3) := by decide +kernel
theorem dX5_remove_5 : decode cX5_remove 5 = .ok (.ifCond .eq 5, 3) := by decide +kernel
theorem dX5_remove_8 : decode cX5_remove 8 = .ok (.iconst 0, 1) := by decide +kernel
theorem dX5_remove_9 : decode cX5_remove 9 = .ok (.ireturn, 1) := by decide +kernel
theorem dX5_remove_10 : decode cX5_remove 10 = .ok (.aload_n 0, 1) := by decide +kernel
theorem dX5_remove_11 : decode cX5_remove 11 = .ok (.getfield 20, 3) := by decide +kernel
theorem dX5_remove_14 : decode cX5_remove 14 = .ok (.iload_n 1, 1) := by decide +kernel
theorem dX5_remove_15 : decode cX5_remove 15 = .ok (.iaload, 1) := by decide +kernel
theorem dX5_remove_16 : decode cX5_remove 16 = .ok (.istore_n 2, 1) := by decide +kernel
theorem dX5_remove_17 : decode cX5_remove 17 = .ok (.aload_n 0, 1) := by decide +kernel
theorem dX5_remove_18 : decode cX5_remove 18 = .ok (.getfield 20, 3) := by decide +kernel
theorem dX5_remove_21 : decode cX5_remove 21 = .ok (.iload_n 1, 1) := by decide +kernel
theorem dX5_remove_22 : decode cX5_remove 22 = .ok (.iconst (-1), 1) := by decide +kernel
theorem dX5_remove_23 : decode cX5_remove 23 = .ok (.iastore, 1) := by decide +kernel
theorem dX5_remove_24 : decode cX5_remove 24 = .ok (.iload_n 2, 1) := by decide +kernel
theorem dX5_remove_25 : decode cX5_remove 25 = .ok (.ireturn, 1) := by decide +kernel
theorem dX5_howMany_0 : decode cX5_howMany 0 = .ok (.iconst 0, 1) := by decide +kernel
theorem dX5_howMany_1 : decode cX5_howMany 1 = .ok (.istore_n 1, 1) := by decide +kernel
theorem dX5_howMany_2 : decode cX5_howMany 2 = .ok (.iconst 0, 1) := by decide +kernel
theorem dX5_howMany_3 : decode cX5_howMany 3 = .ok (.istore_n 2, 1) := by decide +kernel
theorem dX5_howMany_4 : decode cX5_howMany 4 = .ok (.iload_n 2, 1) := by decide +kernel
theorem dX5_howMany_5 : decode cX5_howMany 5 = .ok (.bipush 8, 2) := by decide +kernel
theorem dX5_howMany_7 : decode cX5_howMany 7 = .ok (.if_icmp .ge 22, 3) := by decide +kernel
theorem dX5_howMany_10 : decode cX5_howMany 10 = .ok (.aload_n 0, 1) := by decide +kernel
theorem dX5_howMany_11 : decode cX5_howMany 11 = .ok (.getfield 20, 3) := by decide +kernel
theorem dX5_howMany_14 : decode cX5_howMany 14 = .ok (.iload_n 2, 1) := by decide +kernel
theorem dX5_howMany_15 : decode cX5_howMany 15 = .ok (.iaload, 1) := by decide +kernel
theorem dX5_howMany_16 : decode cX5_howMany 16 = .ok (.iconst (-1), 1) := by decide +kernel
theorem dX5_howMany_17 : decode cX5_howMany 17 = .ok (.if_icmp .eq 6, 3) := by decide +kernel
theorem dX5_howMany_20 : decode cX5_howMany 20 = .ok (.iinc 1 1, 3) := by decide +kernel
theorem dX5_howMany_23 : decode cX5_howMany 23 = .ok (.iinc 2 1, 3) := by decide +kernel
theorem dX5_howMany_26 : decode cX5_howMany 26 = .ok (.goto (-22), 3) := by decide +kernel
theorem dX5_howMany_29 : decode cX5_howMany 29 = .ok (.iload_n 1, 1) := by decide +kernel
theorem dX5_howMany_30 : decode cX5_howMany 30 = .ok (.ireturn, 1) := by decide +kernel
theorem dX6_init_0 : decode cX6_init 0 = .ok (.aload_n 0, 1) := by decide +kernel
theorem dX6_init_1 : decode cX6_init 1 = .ok (.invokespecial 3, 3) := by decide +kernel
theorem dX6_init_4 : decode cX6_init 4 = .ok (.aload_n 0, 1) := by decide +kernel
theorem dX6_init_5 : decode cX6_init 5 = .ok (.new 9, 3) := by decide +kernel
theorem dX6_init_8 : decode cX6_init 8 = .ok (.dup, 1) := by decide +kernel
theorem dX6_init_9 : decode cX6_init 9 = .ok (.invokespecial 11, 3) := by decide +kernel
theorem dX6_init_12 : decode cX6_init 12 = .ok (.putfield 12, 3) := by decide +kernel
theorem dX6_init_15 : decode cX6_init 15 = .ok (.aload_n 0, 1) := by decide +kernel
theorem dX6_init_16 : decode cX6_init 16 = .ok (.new 18, 3) := by decide +kernel
theorem dX6_init_19 : decode cX6_init 19 = .ok (.dup, 1) := by decide +kernel
theorem dX6_init_20 : decode cX6_init 20 = .ok (.invokespecial 20, 3) := by decide +kernel
theorem dX6_init_23 : decode cX6_init 23 = .ok (.putfield 21, 3) := by decide +kernel
theorem dX6_init_26 : decode cX6_init 26 = .ok (.return_, 1) := by decide +kernel
theorem dX6_run_0 : decode cX6_run 0 = .ok (.aload_n 0, 1) := by decide +kernel
theorem dX6_run_1 : decode cX6_run 1 = .ok (.getfield 12, 3) := by decide +kernel
theorem dX6_run_4 : decode cX6_run 4 = .ok (.invokevirtual 25, 3) := by decide +kernel
theorem dX6_run_7 : decode cX6_run 7 = .ok (.aload_n 0, 1) := by decide +kernel
theorem dX6_run_8 : decode cX6_run 8 = .ok (.ldc 28, 2) := by decide +kernel
theorem dX6_run_10 : decode cX6_run 10 = .ok (.putfield 29, 3) := by decide +kernel
theorem dX6_run_13 : decode cX6_run 13 = .ok (.aload_n 0, 1) := by decide +kernel
theorem dX6_run_14 : decode cX6_run 14 = .ok (.ldc 28, 2) := by decide +kernel
theorem dX6_run_16 : decode cX6_run 16 = .ok (.putfield 33, 3) := by decide +kernel
theorem dX6_run_19 : decode cX6_run 19 = .ok (.aload_n 0, 1) := by decide +kernel
theorem dX6_run_20 : decode cX6_run 20 = .ok (.iconst 0, 1) := by decide +kernel
theorem dX6_run_21 : decode cX6_run 21 = .ok (.putfield 36, 3) := by decide +kernel
theorem dX6_run_24 : decode cX6_run 24 = .ok (.aload_n 0, 1) := by decide +kernel
theorem dX6_run_25 : decode cX6_run 25 = .ok (.lconst 1, 1) := by decide +kernel
theorem dX6_run_26 : decode cX6_run 26 = .ok (.putfield 39, 3) := by decide +kernel
theorem dX6_run_29 : decode cX6_run 29 = .ok (.aload_n 0, 1) := by decide +kernel
theorem dX6_run_30 : decode cX6_run 30 = .ok (.lconst 1, 1) := by decide +kernel
theorem dX6_run_31 : decode cX6_run 31 = .ok (.putfield 43, 3) := by decide +kernel
theorem dX6_run_34 : decode cX6_run 34 = .ok (.aload_n 0, 1) := by decide +kernel
theorem dX6_run_35 : decode cX6_run 35 = .ok (.iconst 0, 1) := by decide +kernel
theorem dX6_run_36 : decode cX6_run 36 = .ok (.putfield 46, 3) := by decide +kernel
theorem dX6_run_39 : decode cX6_run 39 = .ok (.iload_n 2, 1) := by decide +kernel
theorem dX6_run_40 : decode cX6_run 40 = .ok (.aload_n 1, 1) := by decide +kernel
theorem dX6_run_41 : decode cX6_run 41 = .ok (.getfield 50, 3) := by decide +kernel
theorem dX6_run_44 : decode cX6_run 44 = .ok (.iconst 5, 1) := by decide +kernel
theorem dX6_run_45 : decode cX6_run 45 = .ok (.invokevirtual 58, 3) := by decide +kernel
theorem dX6_run_48 : decode cX6_run 48 = .ok (.iconst 1, 1) := by decide +kernel
theorem dX6_run_49 : decode cX6_run 49 = .ok (.isub, 1) := by decide +kernel
theorem dX6_run_50 : decode cX6_run 50 = .ok (.invokestatic 62, 3) := by decide +kernel
theorem dX6_run_53 : decode cX6_run 53 = .ok (.istore_n 3, 1) := by decide +kernel
theorem dX6_run_54 : decode cX6_run 54 = .ok (.iconst 0, 1) := by decide +kernel
theorem dX6_run_55 : decode cX6_run 55 = .ok (.istore 4, 2) := by decide +kernel
theorem dX6_run_57 : decode cX6_run 57 = .ok (.iload 4, 2) := by decide +kernel
theorem dX6_run_59 : decode cX6_run 59 = .ok (.iload_n 3, 1) := by decide +kernel
theorem dX6_run_60 : decode cX6_run 60 = .ok (.if_icmp .gt 16, 3) := by decide +kernel
theorem dX6_run_63 : decode cX6_run 63 = .ok (.aload_n 0, 1) := by decide +kernel
theorem dX6_run_64 : decode cX6_run 64 = .ok (.aload_n 1, 1) := by decide +kernel
theorem dX6_run_65 : decode cX6_run 65 = .ok (.iload 4, 2) := by decide +kernel
theorem dX6_run_67 : decode cX6_run 67 = .ok (.invokevirtual 68, 3) := by decide +kernel
theorem dX6_run_70 : decode cX6_run 70 = .ok (.iinc 4 1, 3) := by decide +kernel
theorem dX6_run_73 : decode cX6_run 73 = .ok (.goto (-16), 3) := by decide +kernel
theorem dX6_run_76 : decode cX6_run 76 = .ok (.return_, 1) := by decide +kernel
theorem dX6_perform_0 : decode cX6_perform 0 = .ok (.aload_n 0, 1) := by decide +kernel
theorem dX6_perform_1 : decode cX6_perform 1 = .ok (.ldc 28, 2) := by decide +kernel
theorem dX6_perform_3 : decode cX6_perform 3 = .ok (.putfield 29, 3) := by decide +kernel
theorem dX6_perform_6 : decode cX6_perform 6 = .ok (.aload_n 0, 1) := by decide +kernel
theorem dX6_perform_7 : decode cX6_perform 7 = .ok (.ldc 28, 2) := by decide +kernel
theorem dX6_perform_9 : decode cX6_perform 9 = .ok (.putfield 33, 3) := by decide +kernel
theorem dX6_perform_12 : decode cX6_perform 12 = .ok (.aload_n 1, 1) := by decide +kernel
theorem dX6_perform_13 : decode cX6_perform 13 = .ok (.getfield 50, 3) := by decide +kernel
theorem dX6_perform_16 : decode cX6_perform 16 = .ok (.iload_n 2, 1) := by decide +kernel
theorem dX6_perform_17 : decode cX6_perform 17 = .ok (.iconst 1, 1) := by decide +kernel
theorem dX6_perform_18 : decode cX6_perform 18 = .ok (.invokevirtual 72, 3) := by decide +kernel
theorem dX6_perform_21 : decode cX6_perform 21 = .ok (.ifCond .eq 59, 3) := by decide +kernel
theorem dX6_perform_24 : decode cX6_perform 24 = .ok (.aload_n 1, 1) := by decide +kernel
theorem dX6_perform_25 : decode cX6_perform 25 = .ok (.getfield 50, 3) := by decide +kernel
theorem dX6_perform_28 : decode cX6_perform 28 = .ok (.iconst 5, 1) := by decide +kernel
theorem dX6_perform_29 : decode cX6_perform 29 = .ok (.iload_n 2, 1) := by decide +kernel
theorem dX6_perform_30 : decode cX6_perform 30 = .ok (.iconst 1, 1) := by decide +kernel
theorem dX6_perform_31 : decode cX6_perform 31 = .ok (.invokevirtual 76, 3) := by decide +kernel
theorem dX6_perform_34 : decode cX6_perform 34 = .ok (.istore_n 3, 1) := by decide +kernel
theorem dX6_perform_35 : decode cX6_perform 35 = .ok (.iconst 0, 1) := by decide +kernel
theorem dX6_perform_36 : decode cX6_perform 36 = .ok (.istore 4, 2) := by decide +kernel
theorem dX6_perform_38 : decode cX6_perform 38 = .ok (.iload 4, 2) := by decide +kernel
theorem dX6_perform_40 : decode cX6_perform 40 = .ok (.iload_n 3, 1) := by decide +kernel
theorem dX6_perform_41 : decode cX6_perform 41 = .ok (.if_icmp .ge 36, 3) := by decide +kernel
theorem dX6_perform_44 : decode cX6_perform 44 = .ok (.aload_n 0, 1) := by decide +kernel
theorem dX6_perform_45 : decode cX6_perform 45 = .ok (.getfield 12, 3) := by decide +kernel
theorem dX6_perform_48 : decode cX6_perform 48 = .ok (.invokevirtual 80, 3) := by decide +kernel
theorem dX6_perform_51 : decode cX6_perform 51 = .ok (.ifCond .ne 26, 3) := by decide +kernel
theorem dX6_perform_54 : decode cX6_perform 54 = .ok (.aload_n 0, 1) := by decide +kernel
theorem dX6_perform_55 : decode cX6_perform 55 = .ok (.aload_n 1, 1) := by decide +kernel
theorem dX6_perform_56 : decode cX6_perform 56 = .ok (.iload_n 2, 1) := by decide +kernel
theorem dX6_perform_57 : decode cX6_perform 57 = .ok (.invokevirtual 84, 3) := by decide +kernel
theorem dX6_perform_60 : decode cX6_perform 60 = .ok (.aload_n 0, 1) := by decide +kernel
theorem dX6_perform_61 : decode cX6_perform 61 = .ok (.aload_n 0, 1) := by decide +kernel
theorem dX6_perform_62 : decode cX6_perform 62 = .ok (.getfield 12, 3) := by decide +kernel
theorem dX6_perform_65 : decode cX6_perform 65 = .ok (.getfield 87, 3) := by decide +kernel
theorem dX6_perform_68 : decode cX6_perform 68 = .ok (.putfield 33, 3) := by decide +kernel
theorem dX6_perform_71 : decode cX6_perform 71 = .ok (.iinc 4 1, 3) := by decide +kernel
theorem dX6_perform_74 : decode cX6_perform 74 = .ok (.goto (-36), 3) := by decide +kernel
theorem dX6_perform_77 : decode cX6_perform 77 = .ok (.goto 48, 3) := by decide +kernel
theorem dX6_perform_80 : decode cX6_perform 80 = .ok (.aload_n 1, 1) := by decide +kernel
theorem dX6_perform_81 : decode cX6_perform 81 = .ok (.getfield 50, 3) := by decide +kernel
theorem dX6_perform_84 : decode cX6_perform 84 = .ok (.iload_n 2, 1) := by decide +kernel
theorem dX6_perform_85 : decode cX6_perform 85 = .ok (.iconst 4, 1) := by decide +kernel
theorem dX6_perform_86 : decode cX6_perform 86 = .ok (.invokevirtual 72, 3) := by decide +kernel
theorem dX6_perform_89 : decode cX6_perform 89 = .ok (.ifCond .eq 29, 3) := by decide +kernel
theorem dX6_perform_92 : decode cX6_perform 92 = .ok (.aload_n 0, 1) := by decide +kernel
theorem dX6_perform_93 : decode cX6_perform 93 = .ok (.aload_n 1, 1) := by decide +kernel
theorem dX6_perform_94 : decode cX6_perform 94 = .ok (.iload_n 2, 1) := by decide +kernel
theorem dX6_perform_95 : decode cX6_perform 95 = .ok (.aload_n 1, 1) := by decide +kernel
theorem dX6_perform_96 : decode cX6_perform 96 = .ok (.getfield 50, 3) := by decide +kernel
theorem dX6_perform_99 : decode cX6_perform 99 = .ok (.iload_n 2, 1) := by decide +kernel
theorem dX6_perform_100 : decode cX6_perform 100 = .ok (.iconst 5, 1) := by decide +kernel
theorem dX6_perform_101 : decode cX6_perform 101 = .ok (.invokevirtual 72, 3) := by decide +kernel
theorem dX6_perform_104 : decode cX6_perform 104 = .ok (.ifCond .eq 7, 3) := by decide +kernel
theorem dX6_perform_107 : decode cX6_perform 107 = .ok (.iconst 1, 1) := by decide +kernel
theorem dX6_perform_108 : decode cX6_perform 108 = .ok (.goto 4, 3) := by decide +kernel
theorem dX6_perform_111 : decode cX6_perform 111 = .ok (.iconst 0, 1) := by decide +kernel
theorem dX6_perform_112 : decode cX6_perform 112 = .ok (.invokevirtual 88, 3) := by decide +kernel
theorem dX6_perform_115 : decode cX6_perform 115 = .ok (.goto 10, 3) := by decide +kernel
theorem dX6_perform_118 : decode cX6_perform 118 = .ok (.aload_n 0, 1) := by decide +kernel
theorem dX6_perform_119 : decode cX6_perform 119 = .ok (.getfield 12, 3) := by decide +kernel
theorem dX6_perform_122 : decode cX6_perform 122 = .ok (.invokevirtual 92, 3) := by decide +kernel
theorem dX6_perform_125 : decode cX6_perform 125 = .ok (.return_, 1) := by decide +kernel
theorem dX6_advance_0 : decode cX6_advance 0 = .ok (.aload_n 1, 1) := by decide +kernel
theorem dX6_advance_1 : decode cX6_advance 1 = .ok (.getfield 50, 3) := by decide +kernel
theorem dX6_advance_4 : decode cX6_advance 4 = .ok (.astore_n 3, 1) := by decide +kernel
theorem dX6_advance_5 : decode cX6_advance 5 = .ok (.aload_n 3, 1) := by decide +kernel
theorem dX6_advance_6 : decode cX6_advance 6 = .ok (.iload_n 2, 1) := by decide +kernel
theorem dX6_advance_7 : decode cX6_advance 7 = .ok (.invokevirtual 95, 3) := by decide +kernel
theorem dX6_advance_10 : decode cX6_advance 10 = .ok (.iconst 3, 1) := by decide +kernel
theorem dX6_advance_11 : decode cX6_advance 11 = .ok (.if_icmp .ne 7, 3) := by decide +kernel
theorem dX6_advance_14 : decode cX6_advance 14 = .ok (.iconst 1, 1) := by decide +kernel
theorem dX6_advance_15 : decode cX6_advance 15 = .ok (.goto 4, 3) := by decide +kernel
theorem dX6_advance_18 : decode cX6_advance 18 = .ok (.iconst 0, 1) := by decide +kernel
theorem dX6_advance_19 : decode cX6_advance 19 = .ok (.istore 4, 2) := by decide +kernel
theorem dX6_advance_21 : decode cX6_advance 21 = .ok (.aload_n 3, 1) := by decide +kernel
theorem dX6_advance_22 : decode cX6_advance 22 = .ok (.iconst 5, 1) := by decide +kernel
theorem dX6_advance_23 : decode cX6_advance 23 = .ok (.iload_n 2, 1) := by decide +kernel
theorem dX6_advance_24 : decode cX6_advance 24 = .ok (.iconst 2, 1) := by decide +kernel
theorem dX6_advance_25 : decode cX6_advance 25 = .ok (.invokevirtual 76, 3) := by decide +kernel
theorem dX6_advance_28 : decode cX6_advance 28 = .ok (.istore 5, 2) := by decide +kernel
theorem dX6_advance_30 : decode cX6_advance 30 = .ok (.aload_n 3, 1) := by decide +kernel
theorem dX6_advance_31 : decode cX6_advance 31 = .ok (.iconst 5, 1) := by decide +kernel
theorem dX6_advance_32 : decode cX6_advance 32 = .ok (.iload_n 2, 1) := by decide +kernel
theorem dX6_advance_33 : decode cX6_advance 33 = .ok (.iconst 3, 1) := by decide +kernel
theorem dX6_advance_34 : decode cX6_advance 34 = .ok (.invokevirtual 76, 3) := by decide +kernel
theorem dX6_advance_37 : decode cX6_advance 37 = .ok (.istore 6, 2) := by decide +kernel
theorem dX6_advance_39 : decode cX6_advance 39 = .ok (.aload_n 3, 1) := by decide +kernel
theorem dX6_advance_40 : decode cX6_advance 40 = .ok (.iconst 5, 1) := by decide +kernel
theorem dX6_advance_41 : decode cX6_advance 41 = .ok (.iload_n 2, 1) := by decide +kernel
theorem dX6_advance_42 : decode cX6_advance 42 = .ok (.iconst 4, 1) := by decide +kernel
theorem dX6_advance_43 : decode cX6_advance 43 = .ok (.invokevirtual 76, 3) := by decide +kernel
theorem dX6_advance_46 : decode cX6_advance 46 = .ok (.istore 7, 2) := by decide +kernel
theorem dX6_advance_48 : decode cX6_advance 48 = .ok (.aload_n 0, 1) := by decide +kernel
theorem dX6_advance_49 : decode cX6_advance 49 = .ok (.getfield 12, 3) := by decide +kernel
theorem dX6_advance_52 : decode cX6_advance 52 = .ok (.aload_n 1, 1) := by decide +kernel
theorem dX6_advance_53 : decode cX6_advance 53 = .ok (.iload 4, 2) := by decide +kernel
theorem dX6_advance_55 : decode cX6_advance 55 = .ok (.iload 5, 2) := by decide +kernel
theorem dX6_advance_57 : decode cX6_advance 57 = .ok (.iload 6, 2) := by decide +kernel
theorem dX6_advance_59 : decode cX6_advance 59 = .ok (.iload 7, 2) := by decide +kernel
theorem dX6_advance_61 : decode cX6_advance 61 = .ok (.invokevirtual 98, 3) := by decide +kernel
theorem dX6_advance_64 : decode cX6_advance 64 = .ok (.return_, 1) := by decide +kernel
theorem dX6_throwAt_0 : decode cX6_throwAt 0 = .ok (.aload_n 1, 1) := by decide +kernel
theorem dX6_throwAt_1 : decode cX6_throwAt 1 = .ok (.getfield 50, 3) := by decide +kernel
theorem dX6_throwAt_4 : decode cX6_throwAt 4 = .ok (.iconst 5, 1) := by decide +kernel
theorem dX6_throwAt_5 : decode cX6_throwAt 5 = .ok (.iload_n 2, 1) := by decide +kernel
theorem dX6_throwAt_6 : decode cX6_throwAt 6 = .ok (.iconst 1, 1) := by decide +kernel
theorem dX6_throwAt_7 : decode cX6_throwAt 7 = .ok (.invokevirtual 76, 3) := by decide +kernel
theorem dX6_throwAt_10 : decode cX6_throwAt 10 = .ok (.istore 4, 2) := by decide +kernel
theorem dX6_throwAt_12 : decode cX6_throwAt 12 = .ok (.aload_n 0, 1) := by decide +kernel
theorem dX6_throwAt_13 : decode cX6_throwAt 13 = .ok (.getfield 21, 3) := by decide +kernel
theorem dX6_throwAt_16 : decode cX6_throwAt 16 = .ok (.aload_n 1, 1) := by decide +kernel
theorem dX6_throwAt_17 : decode cX6_throwAt 17 = .ok (.aload_n 0, 1) := by decide +kernel
theorem dX6_throwAt_18 : decode cX6_throwAt 18 = .ok (.getfield 12, 3) := by decide +kernel
theorem dX6_throwAt_21 : decode cX6_throwAt 21 = .ok (.iload_n 3, 1) := by decide +kernel
theorem dX6_throwAt_22 : decode cX6_throwAt 22 = .ok (.iload 4, 2) := by decide +kernel
theorem dX6_throwAt_24 : decode cX6_throwAt 24 = .ok (.invokevirtual 101, 3) := by decide +kernel
theorem dX6_throwAt_27 : decode cX6_throwAt 27 = .ok (.aload_n 0, 1) := by decide +kernel
theorem dX6_throwAt_28 : decode cX6_throwAt 28 = .ok (.aload_n 0, 1) := by decide +kernel
theorem dX6_throwAt_29 : decode cX6_throwAt 29 = .ok (.getfield 21, 3) := by decide +kernel
theorem dX6_throwAt_32 : decode cX6_throwAt 32 = .ok (.getfield 105, 3) := by decide +kernel
theorem dX6_throwAt_35 : decode cX6_throwAt 35 = .ok (.putfield 29, 3) := by decide +kernel
theorem dX6_throwAt_38 : decode cX6_throwAt 38 = .ok (.aload_n 0, 1) := by decide +kernel
theorem dX6_throwAt_39 : decode cX6_throwAt 39 = .ok (.dup, 1) := by decide +kernel
theorem dX6_throwAt_40 : decode cX6_throwAt 40 = .ok (.getfield 36, 3) := by decide +kernel
theorem dX6_throwAt_43 : decode cX6_throwAt 43 = .ok (.aload_n 1, 1) := by decide +kernel
theorem dX6_throwAt_44 : decode cX6_throwAt 44 = .ok (.getfield 50, 3) := by decide +kernel
theorem dX6_throwAt_47 : decode cX6_throwAt 47 = .ok (.iload_n 3, 1) := by decide +kernel
theorem dX6_throwAt_48 : decode cX6_throwAt 48 = .ok (.aload_n 0, 1) := by decide +kernel
theorem dX6_throwAt_49 : decode cX6_throwAt 49 = .ok (.getfield 12, 3) := by decide +kernel
theorem dX6_throwAt_52 : decode cX6_throwAt 52 = .ok (.getfield 106, 3) := by decide +kernel
theorem dX6_throwAt_55 : decode cX6_throwAt 55 = .ok (.aload_n 0, 1) := by decide +kernel
theorem dX6_throwAt_56 : decode cX6_throwAt 56 = .ok (.getfield 21, 3) := by decide +kernel
theorem dX6_throwAt_59 : decode cX6_throwAt 59 = .ok (.invokevirtual 109, 3) := by decide +kernel
theorem dX6_throwAt_62 : decode cX6_throwAt 62 = .ok (.invokevirtual 112, 3) := by decide +kernel
theorem dX6_throwAt_65 : decode cX6_throwAt 65 = .ok (.iadd, 1) := by decide +kernel
theorem dX6_throwAt_66 : decode cX6_throwAt 66 = .ok (.putfield 36, 3) := by decide +kernel
theorem dX6_throwAt_69 : decode cX6_throwAt 69 = .ok (.aload_n 0, 1) := by decide +kernel
theorem dX6_throwAt_70 : decode cX6_throwAt 70 = .ok (.aload_n 0, 1) := by decide +kernel
theorem dX6_throwAt_71 : decode cX6_throwAt 71 = .ok (.getfield 21, 3) := by decide +kernel
theorem dX6_throwAt_74 : decode cX6_throwAt 74 = .ok (.getfield 116, 3) := by decide +kernel
theorem dX6_throwAt_77 : decode cX6_throwAt 77 = .ok (.i2l, 1) := by decide +kernel
theorem dX6_throwAt_78 : decode cX6_throwAt 78 = .ok (.aload_n 0, 1) := by decide +kernel
theorem dX6_throwAt_79 : decode cX6_throwAt 79 = .ok (.getfield 21, 3) := by decide +kernel
theorem dX6_throwAt_82 : decode cX6_throwAt 82 = .ok (.getfield 119, 3) := by decide +kernel
theorem dX6_throwAt_85 : decode cX6_throwAt 85 = .ok (.i2l, 1) := by decide +kernel
theorem dX6_throwAt_86 : decode cX6_throwAt 86 = .ok (.invokevirtual 122, 3) := by decide +kernel
theorem dX6_throwAt_89 : decode cX6_throwAt 89 = .ok (.aload_n 0, 1) := by decide +kernel
theorem dX6_throwAt_90 : decode cX6_throwAt 90 = .ok (.getfield 12, 3) := by decide +kernel
theorem dX6_throwAt_93 : decode cX6_throwAt 93 = .ok (.invokevirtual 126, 3) := by decide +kernel
theorem dX6_throwAt_96 : decode cX6_throwAt 96 = .ok (.return_, 1) := by decide +kernel
theorem dX6_multiply_0 : decode cX6_multiply 0 = .ok (.aload_n 0, 1) := by decide +kernel
theorem dX6_multiply_1 : decode cX6_multiply 1 = .ok (.getfield 46, 3) := by decide +kernel
theorem dX6_multiply_4 : decode cX6_multiply 4 = .ok (.ifCond .eq 4, 3) := by decide +kernel
theorem dX6_multiply_7 : decode cX6_multiply 7 = .ok (.return_, 1) := by decide +kernel
theorem dX6_multiply_8 : decode cX6_multiply 8 = .ok (.aload_n 0, 1) := by decide +kernel
theorem dX6_multiply_9 : decode cX6_multiply 9 = .ok (.getfield 39, 3) := by decide +kernel
theorem dX6_multiply_12 : decode cX6_multiply 12 = .ok (.lload_n 1, 1) := by decide +kernel
theorem dX6_multiply_13 : decode cX6_multiply 13 = .ok (.lmul, 1) := by decide +kernel
theorem dX6_multiply_14 : decode cX6_multiply 14 = .ok (.lstore 5, 2) := by decide +kernel
theorem dX6_multiply_16 : decode cX6_multiply 16 = .ok (.aload_n 0, 1) := by decide +kernel
theorem dX6_multiply_17 : decode cX6_multiply 17 = .ok (.getfield 43, 3) := by decide +kernel
theorem dX6_multiply_20 : decode cX6_multiply 20 = .ok (.lload_n 3, 1) := by decide +kernel
theorem dX6_multiply_21 : decode cX6_multiply 21 = .ok (.lmul, 1) := by decide +kernel
theorem dX6_multiply_22 : decode cX6_multiply 22 = .ok (.lstore 7, 2) := by decide +kernel
theorem dX6_multiply_24 : decode cX6_multiply 24 = .ok (.aload_n 0, 1) := by decide +kernel
theorem dX6_multiply_25 : decode cX6_multiply 25 = .ok (.lload 5, 2) := by decide +kernel
theorem dX6_multiply_27 : decode cX6_multiply 27 = .ok (.lload 7, 2) := by decide +kernel
theorem dX6_multiply_29 : decode cX6_multiply 29 = .ok (.iconst 0, 1) := by decide +kernel
theorem dX6_multiply_30 : decode cX6_multiply 30 = .ok (.invokestatic 129, 3) := by decide +kernel
theorem dX6_multiply_33 : decode cX6_multiply 33 = .ok (.putfield 39, 3) := by decide +kernel
theorem dX6_multiply_36 : decode cX6_multiply 36 = .ok (.aload_n 0, 1) := by decide +kernel
theorem dX6_multiply_37 : decode cX6_multiply 37 = .ok (.lload 5, 2) := by decide +kernel
theorem dX6_multiply_39 : decode cX6_multiply 39 = .ok (.lload 7, 2) := by decide +kernel
theorem dX6_multiply_41 : decode cX6_multiply 41 = .ok (.iconst 1, 1) := by decide +kernel
theorem dX6_multiply_42 : decode cX6_multiply 42 = .ok (.invokestatic 129, 3) := by decide +kernel
theorem dX6_multiply_45 : decode cX6_multiply 45 = .ok (.putfield 43, 3) := by decide +kernel
theorem dX6_multiply_48 : decode cX6_multiply 48 = .ok (.aload_n 0, 1) := by decide +kernel
theorem dX6_multiply_49 : decode cX6_multiply 49 = .ok (.aload_n 0, 1) := by decide +kernel
theorem dX6_multiply_50 : decode cX6_multiply 50 = .ok (.getfield 43, 3) := by decide +kernel
theorem dX6_multiply_53 : decode cX6_multiply 53 = .ok (.ldc2_w 133, 3) := by decide +kernel
theorem dX6_multiply_56 : decode cX6_multiply 56 = .ok (.lcmp, 1) := by decide +kernel
theorem dX6_multiply_57 : decode cX6_multiply 57 = .ok (.ifCond .le 7, 3) := by decide +kernel
theorem dX6_multiply_60 : decode cX6_multiply 60 = .ok (.iconst 1, 1) := by decide +kernel
theorem dX6_multiply_61 : decode cX6_multiply 61 = .ok (.goto 4, 3) := by decide +kernel
theorem dX6_multiply_64 : decode cX6_multiply 64 = .ok (.iconst 0, 1) := by decide +kernel
theorem dX6_multiply_65 : decode cX6_multiply 65 = .ok (.putfield 46, 3) := by decide +kernel
theorem dX6_multiply_68 : decode cX6_multiply 68 = .ok (.return_, 1) := by decide +kernel
theorem dX6_seekBest_0 : decode cX6_seekBest 0 = .ok (.aload_n 0, 1) := by decide +kernel
theorem dX6_seekBest_1 : decode cX6_seekBest 1 = .ok (.getfield 12, 3) := by decide +kernel
theorem dX6_seekBest_4 : decode cX6_seekBest 4 = .ok (.invokevirtual 25, 3) := by decide +kernel
theorem dX6_seekBest_7 : decode cX6_seekBest 7 = .ok (.aload_n 0, 1) := by decide +kernel
theorem dX6_seekBest_8 : decode cX6_seekBest 8 = .ok (.ldc 28, 2) := by decide +kernel
theorem dX6_seekBest_10 : decode cX6_seekBest 10 = .ok (.putfield 135, 3) := by decide +kernel
theorem dX6_seekBest_13 : decode cX6_seekBest 13 = .ok (.aload_n 0, 1) := by decide +kernel
theorem dX6_seekBest_14 : decode cX6_seekBest 14 = .ok (.iconst 0, 1) := by decide +kernel
theorem dX6_seekBest_15 : decode cX6_seekBest 15 = .ok (.putfield 138, 3) := by decide +kernel
theorem dX6_seekBest_18 : decode cX6_seekBest 18 = .ok (.aload_n 0, 1) := by decide +kernel
theorem dX6_seekBest_19 : decode cX6_seekBest 19 = .ok (.iconst 1, 1) := by decide +kernel
theorem dX6_seekBest_20 : decode cX6_seekBest 20 = .ok (.putfield 141, 3) := by decide +kernel
theorem dX6_seekBest_23 : decode cX6_seekBest 23 = .ok (.aload_n 0, 1) := by decide +kernel
theorem dX6_seekBest_24 : decode cX6_seekBest 24 = .ok (.aload_n 1, 1) := by decide +kernel
theorem dX6_seekBest_25 : decode cX6_seekBest 25 = .ok (.iload_n 2, 1) := by decide +kernel
theorem dX6_seekBest_26 : decode cX6_seekBest 26 = .ok (.invokevirtual 144, 3) := by decide +kernel
theorem dX6_seekBest_29 : decode cX6_seekBest 29 = .ok (.aload_n 1, 1) := by decide +kernel
theorem dX6_seekBest_30 : decode cX6_seekBest 30 = .ok (.getfield 50, 3) := by decide +kernel
theorem dX6_seekBest_33 : decode cX6_seekBest 33 = .ok (.iconst 5, 1) := by decide +kernel
theorem dX6_seekBest_34 : decode cX6_seekBest 34 = .ok (.invokevirtual 58, 3) := by decide +kernel
theorem dX6_seekBest_37 : decode cX6_seekBest 37 = .ok (.istore_n 3, 1) := by decide +kernel
theorem dX6_seekBest_38 : decode cX6_seekBest 38 = .ok (.iconst 0, 1) := by decide +kernel
theorem dX6_seekBest_39 : decode cX6_seekBest 39 = .ok (.istore 4, 2) := by decide +kernel
theorem dX6_seekBest_41 : decode cX6_seekBest 41 = .ok (.iload 4, 2) := by decide +kernel
theorem dX6_seekBest_43 : decode cX6_seekBest 43 = .ok (.iload_n 3, 1) := by decide +kernel
theorem dX6_seekBest_44 : decode cX6_seekBest 44 = .ok (.if_icmp .ge 74, 3) := by decide +kernel
theorem dX6_seekBest_47 : decode cX6_seekBest 47 = .ok (.aload_n 1, 1) := by decide +kernel
theorem dX6_seekBest_48 : decode cX6_seekBest 48 = .ok (.getfield 50, 3) := by decide +kernel
theorem dX6_seekBest_51 : decode cX6_seekBest 51 = .ok (.iload 4, 2) := by decide +kernel
theorem dX6_seekBest_53 : decode cX6_seekBest 53 = .ok (.iconst 1, 1) := by decide +kernel
theorem dX6_seekBest_54 : decode cX6_seekBest 54 = .ok (.invokevirtual 72, 3) := by decide +kernel
theorem dX6_seekBest_57 : decode cX6_seekBest 57 = .ok (.ifCond .eq 61, 3) := by decide +kernel
theorem dX6_seekBest_60 : decode cX6_seekBest 60 = .ok (.aload_n 1, 1) := by decide +kernel
theorem dX6_seekBest_61 : decode cX6_seekBest 61 = .ok (.getfield 50, 3) := by decide +kernel
theorem dX6_seekBest_64 : decode cX6_seekBest 64 = .ok (.iconst 5, 1) := by decide +kernel
theorem dX6_seekBest_65 : decode cX6_seekBest 65 = .ok (.iload 4, 2) := by decide +kernel
theorem dX6_seekBest_67 : decode cX6_seekBest 67 = .ok (.iconst 1, 1) := by decide +kernel
theorem dX6_seekBest_68 : decode cX6_seekBest 68 = .ok (.invokevirtual 76, 3) := by decide +kernel
theorem dX6_seekBest_71 : decode cX6_seekBest 71 = .ok (.istore 5, 2) := by decide +kernel
theorem dX6_seekBest_73 : decode cX6_seekBest 73 = .ok (.iconst 0, 1) := by decide +kernel
theorem dX6_seekBest_74 : decode cX6_seekBest 74 = .ok (.istore 6, 2) := by decide +kernel
theorem dX6_seekBest_76 : decode cX6_seekBest 76 = .ok (.iload 6, 2) := by decide +kernel
theorem dX6_seekBest_78 : decode cX6_seekBest 78 = .ok (.iload 5, 2) := by decide +kernel
theorem dX6_seekBest_80 : decode cX6_seekBest 80 = .ok (.if_icmp .ge 32, 3) := by decide +kernel
theorem dX6_seekBest_83 : decode cX6_seekBest 83 = .ok (.aload_n 0, 1) := by decide +kernel
theorem dX6_seekBest_84 : decode cX6_seekBest 84 = .ok (.getfield 12, 3) := by decide +kernel
theorem dX6_seekBest_87 : decode cX6_seekBest 87 = .ok (.invokevirtual 80, 3) := by decide +kernel
theorem dX6_seekBest_90 : decode cX6_seekBest 90 = .ok (.ifCond .ne 22, 3) := by decide +kernel
theorem dX6_seekBest_93 : decode cX6_seekBest 93 = .ok (.aload_n 0, 1) := by decide +kernel
theorem dX6_seekBest_94 : decode cX6_seekBest 94 = .ok (.aload_n 1, 1) := by decide +kernel
theorem dX6_seekBest_95 : decode cX6_seekBest 95 = .ok (.iload 4, 2) := by decide +kernel
theorem dX6_seekBest_97 : decode cX6_seekBest 97 = .ok (.invokevirtual 84, 3) := by decide +kernel
theorem dX6_seekBest_100 : decode cX6_seekBest 100 = .ok (.aload_n 0, 1) := by decide +kernel
theorem dX6_seekBest_101 : decode cX6_seekBest 101 = .ok (.aload_n 1, 1) := by decide +kernel
theorem dX6_seekBest_102 : decode cX6_seekBest 102 = .ok (.iload_n 2, 1) := by decide +kernel
theorem dX6_seekBest_103 : decode cX6_seekBest 103 = .ok (.invokevirtual 144, 3) := by decide +kernel
theorem dX6_seekBest_106 : decode cX6_seekBest 106 = .ok (.iinc 6 1, 3) := by decide +kernel
theorem dX6_seekBest_109 : decode cX6_seekBest 109 = .ok (.goto (-33), 3) := by decide +kernel
theorem dX6_seekBest_112 : decode cX6_seekBest 112 = .ok (.iinc 4 1, 3) := by decide +kernel
theorem dX6_seekBest_115 : decode cX6_seekBest 115 = .ok (.goto (-74), 3) := by decide +kernel
theorem dX6_seekBest_118 : decode cX6_seekBest 118 = .ok (.return_, 1) := by decide +kernel
theorem dX6_weighBoth_0 : decode cX6_weighBoth 0 = .ok (.iconst 0, 1) := by decide +kernel
theorem dX6_weighBoth_1 : decode cX6_weighBoth 1 = .ok (.istore_n 3, 1) := by decide +kernel
theorem dX6_weighBoth_2 : decode cX6_weighBoth 2 = .ok (.iload_n 3, 1) := by decide +kernel
theorem dX6_weighBoth_3 : decode cX6_weighBoth 3 = .ok (.iconst 1, 1) := by decide +kernel
theorem dX6_weighBoth_4 : decode cX6_weighBoth 4 = .ok (.if_icmp .gt 74, 3) := by decide +kernel
theorem dX6_weighBoth_7 : decode cX6_weighBoth 7 = .ok (.aload_n 0, 1) := by decide +kernel
theorem dX6_weighBoth_8 : decode cX6_weighBoth 8 = .ok (.getfield 21, 3) := by decide +kernel
theorem dX6_weighBoth_11 : decode cX6_weighBoth 11 = .ok (.aload_n 1, 1) := by decide +kernel
theorem dX6_weighBoth_12 : decode cX6_weighBoth 12 = .ok (.aload_n 0, 1) := by decide +kernel
theorem dX6_weighBoth_13 : decode cX6_weighBoth 13 = .ok (.getfield 12, 3) := by decide +kernel
theorem dX6_weighBoth_16 : decode cX6_weighBoth 16 = .ok (.iload_n 3, 1) := by decide +kernel
theorem dX6_weighBoth_17 : decode cX6_weighBoth 17 = .ok (.iload_n 2, 1) := by decide +kernel
theorem dX6_weighBoth_18 : decode cX6_weighBoth 18 = .ok (.invokevirtual 101, 3) := by decide +kernel
theorem dX6_weighBoth_21 : decode cX6_weighBoth 21 = .ok (.aload_n 0, 1) := by decide +kernel
theorem dX6_weighBoth_22 : decode cX6_weighBoth 22 = .ok (.getfield 21, 3) := by decide +kernel
theorem dX6_weighBoth_25 : decode cX6_weighBoth 25 = .ok (.getfield 116, 3) := by decide +kernel
theorem dX6_weighBoth_28 : decode cX6_weighBoth 28 = .ok (.aload_n 0, 1) := by decide +kernel
theorem dX6_weighBoth_29 : decode cX6_weighBoth 29 = .ok (.getfield 138, 3) := by decide +kernel
theorem dX6_weighBoth_32 : decode cX6_weighBoth 32 = .ok (.if_icmp .le 40, 3) := by decide +kernel
theorem dX6_weighBoth_35 : decode cX6_weighBoth 35 = .ok (.aload_n 0, 1) := by decide +kernel
theorem dX6_weighBoth_36 : decode cX6_weighBoth 36 = .ok (.iconst 2, 1) := by decide +kernel
theorem dX6_weighBoth_37 : decode cX6_weighBoth 37 = .ok (.aload_n 0, 1) := by decide +kernel
theorem dX6_weighBoth_38 : decode cX6_weighBoth 38 = .ok (.getfield 12, 3) := by decide +kernel
theorem dX6_weighBoth_41 : decode cX6_weighBoth 41 = .ok (.getfield 106, 3) := by decide +kernel
theorem dX6_weighBoth_44 : decode cX6_weighBoth 44 = .ok (.imul, 1) := by decide +kernel
theorem dX6_weighBoth_45 : decode cX6_weighBoth 45 = .ok (.iload_n 3, 1) := by decide +kernel
theorem dX6_weighBoth_46 : decode cX6_weighBoth 46 = .ok (.iadd, 1) := by decide +kernel
theorem dX6_weighBoth_47 : decode cX6_weighBoth 47 = .ok (.putfield 135, 3) := by decide +kernel
theorem dX6_weighBoth_50 : decode cX6_weighBoth 50 = .ok (.aload_n 0, 1) := by decide +kernel
theorem dX6_weighBoth_51 : decode cX6_weighBoth 51 = .ok (.aload_n 0, 1) := by decide +kernel
theorem dX6_weighBoth_52 : decode cX6_weighBoth 52 = .ok (.getfield 21, 3) := by decide +kernel
theorem dX6_weighBoth_55 : decode cX6_weighBoth 55 = .ok (.getfield 116, 3) := by decide +kernel
theorem dX6_weighBoth_58 : decode cX6_weighBoth 58 = .ok (.putfield 138, 3) := by decide +kernel
theorem dX6_weighBoth_61 : decode cX6_weighBoth 61 = .ok (.aload_n 0, 1) := by decide +kernel
theorem dX6_weighBoth_62 : decode cX6_weighBoth 62 = .ok (.aload_n 0, 1) := by decide +kernel
theorem dX6_weighBoth_63 : decode cX6_weighBoth 63 = .ok (.getfield 21, 3) := by decide +kernel
theorem dX6_weighBoth_66 : decode cX6_weighBoth 66 = .ok (.getfield 119, 3) := by decide +kernel
theorem dX6_weighBoth_69 : decode cX6_weighBoth 69 = .ok (.putfield 141, 3) := by decide +kernel
theorem dX6_weighBoth_72 : decode cX6_weighBoth 72 = .ok (.iinc 3 1, 3) := by decide +kernel
theorem dX6_weighBoth_75 : decode cX6_weighBoth 75 = .ok (.goto (-73), 3) := by decide +kernel
theorem dX6_weighBoth_78 : decode cX6_weighBoth 78 = .ok (.return_, 1) := by decide +kernel
theorem dX7_init_0 : decode cX7_init 0 = .ok (.aload_n 0, 1) := by decide +kernel
theorem dX7_init_1 : decode cX7_init 1 = .ok (.invokespecial 3, 3) := by decide +kernel
theorem dX7_init_4 : decode cX7_init 4 = .ok (.aload_n 0, 1) := by decide +kernel
theorem dX7_init_5 : decode cX7_init 5 = .ok (.new 9, 3) := by decide +kernel
theorem dX7_init_8 : decode cX7_init 8 = .ok (.dup, 1) := by decide +kernel
theorem dX7_init_9 : decode cX7_init 9 = .ok (.invokespecial 11, 3) := by decide +kernel
theorem dX7_init_12 : decode cX7_init 12 = .ok (.putfield 12, 3) := by decide +kernel
theorem dX7_init_15 : decode cX7_init 15 = .ok (.aload_n 0, 1) := by decide +kernel
theorem dX7_init_16 : decode cX7_init 16 = .ok (.new 18, 3) := by decide +kernel
theorem dX7_init_19 : decode cX7_init 19 = .ok (.dup, 1) := by decide +kernel
theorem dX7_init_20 : decode cX7_init 20 = .ok (.invokespecial 20, 3) := by decide +kernel
theorem dX7_init_23 : decode cX7_init 23 = .ok (.putfield 21, 3) := by decide +kernel
theorem dX7_init_26 : decode cX7_init 26 = .ok (.return_, 1) := by decide +kernel
theorem dX7_begin_0 : decode cX7_begin 0 = .ok (.aload_n 0, 1) := by decide +kernel
theorem dX7_begin_1 : decode cX7_begin 1 = .ok (.getfield 12, 3) := by decide +kernel
theorem dX7_begin_4 : decode cX7_begin 4 = .ok (.aload_n 1, 1) := by decide +kernel
theorem dX7_begin_5 : decode cX7_begin 5 = .ok (.invokevirtual 25, 3) := by decide +kernel
theorem dX7_begin_8 : decode cX7_begin 8 = .ok (.aload_n 0, 1) := by decide +kernel
theorem dX7_begin_9 : decode cX7_begin 9 = .ok (.iconst 1, 1) := by decide +kernel
theorem dX7_begin_10 : decode cX7_begin 10 = .ok (.putfield 29, 3) := by decide +kernel
theorem dX7_begin_13 : decode cX7_begin 13 = .ok (.aload_n 0, 1) := by decide +kernel
theorem dX7_begin_14 : decode cX7_begin 14 = .ok (.iconst 0, 1) := by decide +kernel
theorem dX7_begin_15 : decode cX7_begin 15 = .ok (.iconst 0, 1) := by decide +kernel
theorem dX7_begin_16 : decode cX7_begin 16 = .ok (.invokevirtual 33, 3) := by decide +kernel
theorem dX7_begin_19 : decode cX7_begin 19 = .ok (.return_, 1) := by decide +kernel
theorem dX7_takeUp_0 : decode cX7_takeUp 0 = .ok (.aload_n 0, 1) := by decide +kernel
theorem dX7_takeUp_1 : decode cX7_takeUp 1 = .ok (.aload_n 0, 1) := by decide +kernel
theorem dX7_takeUp_2 : decode cX7_takeUp 2 = .ok (.getfield 12, 3) := by decide +kernel
theorem dX7_takeUp_5 : decode cX7_takeUp 5 = .ok (.iconst 0, 1) := by decide +kernel
theorem dX7_takeUp_6 : decode cX7_takeUp 6 = .ok (.iload_n 1, 1) := by decide +kernel
theorem dX7_takeUp_7 : decode cX7_takeUp 7 = .ok (.iconst 0, 1) := by decide +kernel
theorem dX7_takeUp_8 : decode cX7_takeUp 8 = .ok (.invokevirtual 37, 3) := by decide +kernel
theorem dX7_takeUp_11 : decode cX7_takeUp 11 = .ok (.putfield 41, 3) := by decide +kernel
theorem dX7_takeUp_14 : decode cX7_takeUp 14 = .ok (.aload_n 0, 1) := by decide +kernel
theorem dX7_takeUp_15 : decode cX7_takeUp 15 = .ok (.aload_n 0, 1) := by decide +kernel
theorem dX7_takeUp_16 : decode cX7_takeUp 16 = .ok (.getfield 12, 3) := by decide +kernel
theorem dX7_takeUp_19 : decode cX7_takeUp 19 = .ok (.iconst 0, 1) := by decide +kernel
theorem dX7_takeUp_20 : decode cX7_takeUp 20 = .ok (.iload_n 1, 1) := by decide +kernel
theorem dX7_takeUp_21 : decode cX7_takeUp 21 = .ok (.iconst 1, 1) := by decide +kernel
theorem dX7_takeUp_22 : decode cX7_takeUp 22 = .ok (.invokevirtual 37, 3) := by decide +kernel
theorem dX7_takeUp_25 : decode cX7_takeUp 25 = .ok (.putfield 45, 3) := by decide +kernel
theorem dX7_takeUp_28 : decode cX7_takeUp 28 = .ok (.aload_n 0, 1) := by decide +kernel
theorem dX7_takeUp_29 : decode cX7_takeUp 29 = .ok (.aload_n 0, 1) := by decide +kernel
theorem dX7_takeUp_30 : decode cX7_takeUp 30 = .ok (.getfield 12, 3) := by decide +kernel
theorem dX7_takeUp_33 : decode cX7_takeUp 33 = .ok (.iconst 0, 1) := by decide +kernel
theorem dX7_takeUp_34 : decode cX7_takeUp 34 = .ok (.iload_n 1, 1) := by decide +kernel
theorem dX7_takeUp_35 : decode cX7_takeUp 35 = .ok (.iconst 2, 1) := by decide +kernel
theorem dX7_takeUp_36 : decode cX7_takeUp 36 = .ok (.invokevirtual 37, 3) := by decide +kernel
theorem dX7_takeUp_39 : decode cX7_takeUp 39 = .ok (.putfield 48, 3) := by decide +kernel
theorem dX7_takeUp_42 : decode cX7_takeUp 42 = .ok (.aload_n 0, 1) := by decide +kernel
theorem dX7_takeUp_43 : decode cX7_takeUp 43 = .ok (.aload_n 0, 1) := by decide +kernel
theorem dX7_takeUp_44 : decode cX7_takeUp 44 = .ok (.getfield 12, 3) := by decide +kernel
theorem dX7_takeUp_47 : decode cX7_takeUp 47 = .ok (.iconst 1, 1) := by decide +kernel
theorem dX7_takeUp_48 : decode cX7_takeUp 48 = .ok (.iload_n 2, 1) := by decide +kernel
theorem dX7_takeUp_49 : decode cX7_takeUp 49 = .ok (.iconst 0, 1) := by decide +kernel
theorem dX7_takeUp_50 : decode cX7_takeUp 50 = .ok (.invokevirtual 37, 3) := by decide +kernel
theorem dX7_takeUp_53 : decode cX7_takeUp 53 = .ok (.putfield 51, 3) := by decide +kernel
theorem dX7_takeUp_56 : decode cX7_takeUp 56 = .ok (.aload_n 0, 1) := by decide +kernel
theorem dX7_takeUp_57 : decode cX7_takeUp 57 = .ok (.aload_n 0, 1) := by decide +kernel
theorem dX7_takeUp_58 : decode cX7_takeUp 58 = .ok (.getfield 12, 3) := by decide +kernel
theorem dX7_takeUp_61 : decode cX7_takeUp 61 = .ok (.iconst 1, 1) := by decide +kernel
theorem dX7_takeUp_62 : decode cX7_takeUp 62 = .ok (.iload_n 2, 1) := by decide +kernel
theorem dX7_takeUp_63 : decode cX7_takeUp 63 = .ok (.iconst 1, 1) := by decide +kernel
theorem dX7_takeUp_64 : decode cX7_takeUp 64 = .ok (.invokevirtual 37, 3) := by decide +kernel
theorem dX7_takeUp_67 : decode cX7_takeUp 67 = .ok (.putfield 54, 3) := by decide +kernel
theorem dX7_takeUp_70 : decode cX7_takeUp 70 = .ok (.aload_n 0, 1) := by decide +kernel
theorem dX7_takeUp_71 : decode cX7_takeUp 71 = .ok (.aload_n 0, 1) := by decide +kernel
theorem dX7_takeUp_72 : decode cX7_takeUp 72 = .ok (.getfield 12, 3) := by decide +kernel
theorem dX7_takeUp_75 : decode cX7_takeUp 75 = .ok (.iconst 1, 1) := by decide +kernel
theorem dX7_takeUp_76 : decode cX7_takeUp 76 = .ok (.iload_n 2, 1) := by decide +kernel
theorem dX7_takeUp_77 : decode cX7_takeUp 77 = .ok (.iconst 2, 1) := by decide +kernel
theorem dX7_takeUp_78 : decode cX7_takeUp 78 = .ok (.invokevirtual 37, 3) := by decide +kernel
theorem dX7_takeUp_81 : decode cX7_takeUp 81 = .ok (.putfield 57, 3) := by decide +kernel
theorem dX7_takeUp_84 : decode cX7_takeUp 84 = .ok (.aload_n 0, 1) := by decide +kernel
theorem dX7_takeUp_85 : decode cX7_takeUp 85 = .ok (.getfield 21, 3) := by decide +kernel
theorem dX7_takeUp_88 : decode cX7_takeUp 88 = .ok (.invokevirtual 60, 3) := by decide +kernel
theorem dX7_takeUp_91 : decode cX7_takeUp 91 = .ok (.aload_n 0, 1) := by decide +kernel
theorem dX7_takeUp_92 : decode cX7_takeUp 92 = .ok (.dup, 1) := by decide +kernel
theorem dX7_takeUp_93 : decode cX7_takeUp 93 = .ok (.getfield 63, 3) := by decide +kernel
theorem dX7_takeUp_96 : decode cX7_takeUp 96 = .ok (.iconst 1, 1) := by decide +kernel
theorem dX7_takeUp_97 : decode cX7_takeUp 97 = .ok (.iadd, 1) := by decide +kernel
theorem dX7_takeUp_98 : decode cX7_takeUp 98 = .ok (.putfield 63, 3) := by decide +kernel
theorem dX7_takeUp_101 : decode cX7_takeUp 101 = .ok (.return_, 1) := by decide +kernel
theorem dX7_copyFrom_0 : decode cX7_copyFrom 0 = .ok (.aload_n 0, 1) := by decide +kernel
theorem dX7_copyFrom_1 : decode cX7_copyFrom 1 = .ok (.getfield 12, 3) := by decide +kernel
theorem dX7_copyFrom_4 : decode cX7_copyFrom 4 = .ok (.aload_n 1, 1) := by decide +kernel
theorem dX7_copyFrom_5 : decode cX7_copyFrom 5 = .ok (.getfield 12, 3) := by decide +kernel
theorem dX7_copyFrom_8 : decode cX7_copyFrom 8 = .ok (.invokevirtual 25, 3) := by decide +kernel
theorem dX7_copyFrom_11 : decode cX7_copyFrom 11 = .ok (.aload_n 0, 1) := by decide +kernel
theorem dX7_copyFrom_12 : decode cX7_copyFrom 12 = .ok (.getfield 21, 3) := by decide +kernel
theorem dX7_copyFrom_15 : decode cX7_copyFrom 15 = .ok (.aload_n 1, 1) := by decide +kernel
theorem dX7_copyFrom_16 : decode cX7_copyFrom 16 = .ok (.getfield 21, 3) := by decide +kernel
