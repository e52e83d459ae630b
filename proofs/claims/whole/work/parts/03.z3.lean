theorem dX12_keepPath_27 : decode cX12_keepPath 27 = .ok (.goto (-25), 3) := by decide +kernel
theorem dX12_keepPath_30 : decode cX12_keepPath 30 = .ok (.return_, 1) := by decide +kernel
theorem dX12_mayMove_0 : decode cX12_mayMove 0 = .ok (.iload_n 1, 1) := by decide +kernel
theorem dX12_mayMove_1 : decode cX12_mayMove 1 = .ok (.bipush 6, 2) := by decide +kernel
theorem dX12_mayMove_3 : decode cX12_mayMove 3 = .ok (.if_icmp .ge 18, 3) := by decide +kernel
theorem dX12_mayMove_6 : decode cX12_mayMove 6 = .ok (.aload_n 0, 1) := by decide +kernel
theorem dX12_mayMove_7 : decode cX12_mayMove 7 = .ok (.invokevirtual 286, 3) := by decide +kernel
theorem dX12_mayMove_10 : decode cX12_mayMove 10 = .ok (.ifCond .ne 7, 3) := by decide +kernel
theorem dX12_mayMove_13 : decode cX12_mayMove 13 = .ok (.iconst 1, 1) := by decide +kernel
theorem dX12_mayMove_14 : decode cX12_mayMove 14 = .ok (.goto 25, 3) := by decide +kernel
theorem dX12_mayMove_17 : decode cX12_mayMove 17 = .ok (.iconst 0, 1) := by decide +kernel
theorem dX12_mayMove_18 : decode cX12_mayMove 18 = .ok (.goto 21, 3) := by decide +kernel
theorem dX12_mayMove_21 : decode cX12_mayMove 21 = .ok (.iload_n 2, 1) := by decide +kernel
theorem dX12_mayMove_22 : decode cX12_mayMove 22 = .ok (.iload_n 1, 1) := by decide +kernel
theorem dX12_mayMove_23 : decode cX12_mayMove 23 = .ok (.bipush 6, 2) := by decide +kernel
theorem dX12_mayMove_25 : decode cX12_mayMove 25 = .ok (.isub, 1) := by decide +kernel
theorem dX12_mayMove_26 : decode cX12_mayMove 26 = .ok (.iconst 2, 1) := by decide +kernel
theorem dX12_mayMove_27 : decode cX12_mayMove 27 = .ok (.idiv, 1) := by decide +kernel
theorem dX12_mayMove_28 : decode cX12_mayMove 28 = .ok (.ishr, 1) := by decide +kernel
theorem dX12_mayMove_29 : decode cX12_mayMove 29 = .ok (.iconst 1, 1) := by decide +kernel
theorem dX12_mayMove_30 : decode cX12_mayMove 30 = .ok (.iand, 1) := by decide +kernel
theorem dX12_mayMove_31 : decode cX12_mayMove 31 = .ok (.ifCond .ne 7, 3) := by decide +kernel
theorem dX12_mayMove_34 : decode cX12_mayMove 34 = .ok (.iconst 1, 1) := by decide +kernel
theorem dX12_mayMove_35 : decode cX12_mayMove 35 = .ok (.goto 4, 3) := by decide +kernel
theorem dX12_mayMove_38 : decode cX12_mayMove 38 = .ok (.iconst 0, 1) := by decide +kernel
theorem dX12_mayMove_39 : decode cX12_mayMove 39 = .ok (.ireturn, 1) := by decide +kernel
theorem dX12_doMove_0 : decode cX12_doMove 0 = .ok (.aload_n 0, 1) := by decide +kernel
theorem dX12_doMove_1 : decode cX12_doMove 1 = .ok (.getfield 42, 3) := by decide +kernel
theorem dX12_doMove_4 : decode cX12_doMove 4 = .ok (.iload_n 2, 1) := by decide +kernel
theorem dX12_doMove_5 : decode cX12_doMove 5 = .ok (.iconst 1, 1) := by decide +kernel
theorem dX12_doMove_6 : decode cX12_doMove 6 = .ok (.iadd, 1) := by decide +kernel
theorem dX12_doMove_7 : decode cX12_doMove 7 = .ok (.aload_n 0, 1) := by decide +kernel
theorem dX12_doMove_8 : decode cX12_doMove 8 = .ok (.getfield 42, 3) := by decide +kernel
theorem dX12_doMove_11 : decode cX12_doMove 11 = .ok (.iload_n 2, 1) := by decide +kernel
theorem dX12_doMove_12 : decode cX12_doMove 12 = .ok (.iaload, 1) := by decide +kernel
theorem dX12_doMove_13 : decode cX12_doMove 13 = .ok (.iastore, 1) := by decide +kernel
theorem dX12_doMove_14 : decode cX12_doMove 14 = .ok (.aload_n 0, 1) := by decide +kernel
theorem dX12_doMove_15 : decode cX12_doMove 15 = .ok (.getfield 45, 3) := by decide +kernel
theorem dX12_doMove_18 : decode cX12_doMove 18 = .ok (.iload_n 2, 1) := by decide +kernel
theorem dX12_doMove_19 : decode cX12_doMove 19 = .ok (.iconst 1, 1) := by decide +kernel
theorem dX12_doMove_20 : decode cX12_doMove 20 = .ok (.iadd, 1) := by decide +kernel
theorem dX12_doMove_21 : decode cX12_doMove 21 = .ok (.aload_n 0, 1) := by decide +kernel
theorem dX12_doMove_22 : decode cX12_doMove 22 = .ok (.getfield 45, 3) := by decide +kernel
theorem dX12_doMove_25 : decode cX12_doMove 25 = .ok (.iload_n 2, 1) := by decide +kernel
theorem dX12_doMove_26 : decode cX12_doMove 26 = .ok (.iaload, 1) := by decide +kernel
theorem dX12_doMove_27 : decode cX12_doMove 27 = .ok (.iastore, 1) := by decide +kernel
theorem dX12_doMove_28 : decode cX12_doMove 28 = .ok (.iload_n 1, 1) := by decide +kernel
theorem dX12_doMove_29 : decode cX12_doMove 29 = .ok (.bipush 6, 2) := by decide +kernel
theorem dX12_doMove_31 : decode cX12_doMove 31 = .ok (.if_icmp .ge 30, 3) := by decide +kernel
theorem dX12_doMove_34 : decode cX12_doMove 34 = .ok (.aload_n 0, 1) := by decide +kernel
theorem dX12_doMove_35 : decode cX12_doMove 35 = .ok (.iconst 0, 1) := by decide +kernel
theorem dX12_doMove_36 : decode cX12_doMove 36 = .ok (.iload_n 1, 1) := by decide +kernel
theorem dX12_doMove_37 : decode cX12_doMove 37 = .ok (.iconst 2, 1) := by decide +kernel
theorem dX12_doMove_38 : decode cX12_doMove 38 = .ok (.idiv, 1) := by decide +kernel
theorem dX12_doMove_39 : decode cX12_doMove 39 = .ok (.iconst 1, 1) := by decide +kernel
theorem dX12_doMove_40 : decode cX12_doMove 40 = .ok (.iadd, 1) := by decide +kernel
theorem dX12_doMove_41 : decode cX12_doMove 41 = .ok (.iload_n 1, 1) := by decide +kernel
theorem dX12_doMove_42 : decode cX12_doMove 42 = .ok (.iconst 2, 1) := by decide +kernel
theorem dX12_doMove_43 : decode cX12_doMove 43 = .ok (.irem, 1) := by decide +kernel
theorem dX12_doMove_44 : decode cX12_doMove 44 = .ok (.ifCond .ne 7, 3) := by decide +kernel
theorem dX12_doMove_47 : decode cX12_doMove 47 = .ok (.iconst 4, 1) := by decide +kernel
theorem dX12_doMove_48 : decode cX12_doMove 48 = .ok (.goto 5, 3) := by decide +kernel
theorem dX12_doMove_51 : decode cX12_doMove 51 = .ok (.bipush 8, 2) := by decide +kernel
theorem dX12_doMove_53 : decode cX12_doMove 53 = .ok (.ldc 28, 2) := by decide +kernel
theorem dX12_doMove_55 : decode cX12_doMove 55 = .ok (.invokevirtual 328, 3) := by decide +kernel
theorem dX12_doMove_58 : decode cX12_doMove 58 = .ok (.goto 56, 3) := by decide +kernel
theorem dX12_doMove_61 : decode cX12_doMove 61 = .ok (.iload_n 1, 1) := by decide +kernel
theorem dX12_doMove_62 : decode cX12_doMove 62 = .ok (.bipush 6, 2) := by decide +kernel
theorem dX12_doMove_64 : decode cX12_doMove 64 = .ok (.isub, 1) := by decide +kernel
theorem dX12_doMove_65 : decode cX12_doMove 65 = .ok (.iconst 2, 1) := by decide +kernel
theorem dX12_doMove_66 : decode cX12_doMove 66 = .ok (.idiv, 1) := by decide +kernel
theorem dX12_doMove_67 : decode cX12_doMove 67 = .ok (.istore_n 3, 1) := by decide +kernel
theorem dX12_doMove_68 : decode cX12_doMove 68 = .ok (.aload_n 0, 1) := by decide +kernel
theorem dX12_doMove_69 : decode cX12_doMove 69 = .ok (.getfield 42, 3) := by decide +kernel
theorem dX12_doMove_72 : decode cX12_doMove 72 = .ok (.iload_n 2, 1) := by decide +kernel
theorem dX12_doMove_73 : decode cX12_doMove 73 = .ok (.iconst 1, 1) := by decide +kernel
theorem dX12_doMove_74 : decode cX12_doMove 74 = .ok (.iadd, 1) := by decide +kernel
theorem dX12_doMove_75 : decode cX12_doMove 75 = .ok (.dup2, 1) := by decide +kernel
theorem dX12_doMove_76 : decode cX12_doMove 76 = .ok (.iaload, 1) := by decide +kernel
theorem dX12_doMove_77 : decode cX12_doMove 77 = .ok (.iconst 1, 1) := by decide +kernel
theorem dX12_doMove_78 : decode cX12_doMove 78 = .ok (.iload_n 3, 1) := by decide +kernel
theorem dX12_doMove_79 : decode cX12_doMove 79 = .ok (.ishl, 1) := by decide +kernel
theorem dX12_doMove_80 : decode cX12_doMove 80 = .ok (.ior, 1) := by decide +kernel
theorem dX12_doMove_81 : decode cX12_doMove 81 = .ok (.iastore, 1) := by decide +kernel
theorem dX12_doMove_82 : decode cX12_doMove 82 = .ok (.aload_n 0, 1) := by decide +kernel
theorem dX12_doMove_83 : decode cX12_doMove 83 = .ok (.getfield 45, 3) := by decide +kernel
theorem dX12_doMove_86 : decode cX12_doMove 86 = .ok (.iload_n 2, 1) := by decide +kernel
theorem dX12_doMove_87 : decode cX12_doMove 87 = .ok (.iconst 1, 1) := by decide +kernel
theorem dX12_doMove_88 : decode cX12_doMove 88 = .ok (.iadd, 1) := by decide +kernel
theorem dX12_doMove_89 : decode cX12_doMove 89 = .ok (.dup2, 1) := by decide +kernel
theorem dX12_doMove_90 : decode cX12_doMove 90 = .ok (.iaload, 1) := by decide +kernel
theorem dX12_doMove_91 : decode cX12_doMove 91 = .ok (.aload_n 0, 1) := by decide +kernel
theorem dX12_doMove_92 : decode cX12_doMove 92 = .ok (.iload_n 1, 1) := by decide +kernel
theorem dX12_doMove_93 : decode cX12_doMove 93 = .ok (.iconst 2, 1) := by decide +kernel
theorem dX12_doMove_94 : decode cX12_doMove 94 = .ok (.irem, 1) := by decide +kernel
theorem dX12_doMove_95 : decode cX12_doMove 95 = .ok (.iconst 1, 1) := by decide +kernel
theorem dX12_doMove_96 : decode cX12_doMove 96 = .ok (.if_icmp .ne 7, 3) := by decide +kernel
theorem dX12_doMove_99 : decode cX12_doMove 99 = .ok (.iconst 1, 1) := by decide +kernel
theorem dX12_doMove_100 : decode cX12_doMove 100 = .ok (.goto 4, 3) := by decide +kernel
theorem dX12_doMove_103 : decode cX12_doMove 103 = .ok (.iconst 0, 1) := by decide +kernel
theorem dX12_doMove_104 : decode cX12_doMove 104 = .ok (.iload_n 3, 1) := by decide +kernel
theorem dX12_doMove_105 : decode cX12_doMove 105 = .ok (.invokevirtual 368, 3) := by decide +kernel
theorem dX12_doMove_108 : decode cX12_doMove 108 = .ok (.iadd, 1) := by decide +kernel
theorem dX12_doMove_109 : decode cX12_doMove 109 = .ok (.iastore, 1) := by decide +kernel
theorem dX12_doMove_110 : decode cX12_doMove 110 = .ok (.aload_n 0, 1) := by decide +kernel
theorem dX12_doMove_111 : decode cX12_doMove 111 = .ok (.invokevirtual 283, 3) := by decide +kernel
theorem dX12_doMove_114 : decode cX12_doMove 114 = .ok (.aload_n 0, 1) := by decide +kernel
theorem dX12_doMove_115 : decode cX12_doMove 115 = .ok (.iload_n 2, 1) := by decide +kernel
theorem dX12_doMove_116 : decode cX12_doMove 116 = .ok (.iconst 1, 1) := by decide +kernel
theorem dX12_doMove_117 : decode cX12_doMove 117 = .ok (.iadd, 1) := by decide +kernel
theorem dX12_doMove_118 : decode cX12_doMove 118 = .ok (.invokevirtual 380, 3) := by decide +kernel
theorem dX12_doMove_121 : decode cX12_doMove 121 = .ok (.return_, 1) := by decide +kernel
theorem dX12_lookRow_0 : decode cX12_lookRow 0 = .ok (.aload_n 0, 1) := by decide +kernel
theorem dX12_lookRow_1 : decode cX12_lookRow 1 = .ok (.getfield 383, 3) := by decide +kernel
theorem dX12_lookRow_4 : decode cX12_lookRow 4 = .ok (.ldc 28, 2) := by decide +kernel
theorem dX12_lookRow_6 : decode cX12_lookRow 6 = .ok (.if_icmp .eq 16, 3) := by decide +kernel
theorem dX12_lookRow_9 : decode cX12_lookRow 9 = .ok (.aload_n 0, 1) := by decide +kernel
theorem dX12_lookRow_10 : decode cX12_lookRow 10 = .ok (.getfield 45, 3) := by decide +kernel
theorem dX12_lookRow_13 : decode cX12_lookRow 13 = .ok (.iload_n 1, 1) := by decide +kernel
theorem dX12_lookRow_14 : decode cX12_lookRow 14 = .ok (.iaload, 1) := by decide +kernel
theorem dX12_lookRow_15 : decode cX12_lookRow 15 = .ok (.aload_n 0, 1) := by decide +kernel
theorem dX12_lookRow_16 : decode cX12_lookRow 16 = .ok (.getfield 386, 3) := by decide +kernel
theorem dX12_lookRow_19 : decode cX12_lookRow 19 = .ok (.if_icmp .le 43, 3) := by decide +kernel
theorem dX12_lookRow_22 : decode cX12_lookRow 22 = .ok (.aload_n 0, 1) := by decide +kernel
theorem dX12_lookRow_23 : decode cX12_lookRow 23 = .ok (.iload_n 1, 1) := by decide +kernel
theorem dX12_lookRow_24 : decode cX12_lookRow 24 = .ok (.putfield 383, 3) := by decide +kernel
theorem dX12_lookRow_27 : decode cX12_lookRow 27 = .ok (.aload_n 0, 1) := by decide +kernel
theorem dX12_lookRow_28 : decode cX12_lookRow 28 = .ok (.aload_n 0, 1) := by decide +kernel
theorem dX12_lookRow_29 : decode cX12_lookRow 29 = .ok (.getfield 45, 3) := by decide +kernel
theorem dX12_lookRow_32 : decode cX12_lookRow 32 = .ok (.iload_n 1, 1) := by decide +kernel
theorem dX12_lookRow_33 : decode cX12_lookRow 33 = .ok (.iaload, 1) := by decide +kernel
theorem dX12_lookRow_34 : decode cX12_lookRow 34 = .ok (.putfield 386, 3) := by decide +kernel
theorem dX12_lookRow_37 : decode cX12_lookRow 37 = .ok (.iconst 0, 1) := by decide +kernel
theorem dX12_lookRow_38 : decode cX12_lookRow 38 = .ok (.istore_n 2, 1) := by decide +kernel
theorem dX12_lookRow_39 : decode cX12_lookRow 39 = .ok (.iload_n 2, 1) := by decide +kernel
theorem dX12_lookRow_40 : decode cX12_lookRow 40 = .ok (.iload_n 1, 1) := by decide +kernel
theorem dX12_lookRow_41 : decode cX12_lookRow 41 = .ok (.if_icmp .ge 21, 3) := by decide +kernel
theorem dX12_lookRow_44 : decode cX12_lookRow 44 = .ok (.aload_n 0, 1) := by decide +kernel
theorem dX12_lookRow_45 : decode cX12_lookRow 45 = .ok (.getfield 48, 3) := by decide +kernel
theorem dX12_lookRow_48 : decode cX12_lookRow 48 = .ok (.iload_n 2, 1) := by decide +kernel
theorem dX12_lookRow_49 : decode cX12_lookRow 49 = .ok (.aload_n 0, 1) := by decide +kernel
theorem dX12_lookRow_50 : decode cX12_lookRow 50 = .ok (.getfield 39, 3) := by decide +kernel
theorem dX12_lookRow_53 : decode cX12_lookRow 53 = .ok (.iload_n 2, 1) := by decide +kernel
theorem dX12_lookRow_54 : decode cX12_lookRow 54 = .ok (.iaload, 1) := by decide +kernel
theorem dX12_lookRow_55 : decode cX12_lookRow 55 = .ok (.iastore, 1) := by decide +kernel
theorem dX12_lookRow_56 : decode cX12_lookRow 56 = .ok (.iinc 2 1, 3) := by decide +kernel
theorem dX12_lookRow_59 : decode cX12_lookRow 59 = .ok (.goto (-20), 3) := by decide +kernel
theorem dX12_lookRow_62 : decode cX12_lookRow 62 = .ok (.return_, 1) := by decide +kernel
theorem dX12_seekRows_0 : decode cX12_seekRows 0 = .ok (.bipush 6, 2) := by decide +kernel
theorem dX12_seekRows_2 : decode cX12_seekRows 2 = .ok (.iconst 2, 1) := by decide +kernel
theorem dX12_seekRows_3 : decode cX12_seekRows 3 = .ok (.aload_n 0, 1) := by decide +kernel
theorem dX12_seekRows_4 : decode cX12_seekRows 4 = .ok (.getfield 19, 3) := by decide +kernel
theorem dX12_seekRows_7 : decode cX12_seekRows 7 = .ok (.iconst 2, 1) := by decide +kernel
theorem dX12_seekRows_8 : decode cX12_seekRows 8 = .ok (.iaload, 1) := by decide +kernel
theorem dX12_seekRows_9 : decode cX12_seekRows 9 = .ok (.imul, 1) := by decide +kernel
theorem dX12_seekRows_10 : decode cX12_seekRows 10 = .ok (.iadd, 1) := by decide +kernel
theorem dX12_seekRows_11 : decode cX12_seekRows 11 = .ok (.istore_n 2, 1) := by decide +kernel
theorem dX12_seekRows_12 : decode cX12_seekRows 12 = .ok (.iconst 0, 1) := by decide +kernel
theorem dX12_seekRows_13 : decode cX12_seekRows 13 = .ok (.istore_n 3, 1) := by decide +kernel
theorem dX12_seekRows_14 : decode cX12_seekRows 14 = .ok (.aload_n 0, 1) := by decide +kernel
theorem dX12_seekRows_15 : decode cX12_seekRows 15 = .ok (.ldc 28, 2) := by decide +kernel
theorem dX12_seekRows_17 : decode cX12_seekRows 17 = .ok (.putfield 383, 3) := by decide +kernel
theorem dX12_seekRows_20 : decode cX12_seekRows 20 = .ok (.aload_n 0, 1) := by decide +kernel
theorem dX12_seekRows_21 : decode cX12_seekRows 21 = .ok (.invokevirtual 323, 3) := by decide +kernel
theorem dX12_seekRows_24 : decode cX12_seekRows 24 = .ok (.aload_n 0, 1) := by decide +kernel
theorem dX12_seekRows_25 : decode cX12_seekRows 25 = .ok (.iconst 0, 1) := by decide +kernel
theorem dX12_seekRows_26 : decode cX12_seekRows 26 = .ok (.invokevirtual 380, 3) := by decide +kernel
theorem dX12_seekRows_29 : decode cX12_seekRows 29 = .ok (.aload_n 0, 1) := by decide +kernel
theorem dX12_seekRows_30 : decode cX12_seekRows 30 = .ok (.getfield 42, 3) := by decide +kernel
theorem dX12_seekRows_33 : decode cX12_seekRows 33 = .ok (.iconst 0, 1) := by decide +kernel
theorem dX12_seekRows_34 : decode cX12_seekRows 34 = .ok (.iconst 0, 1) := by decide +kernel
theorem dX12_seekRows_35 : decode cX12_seekRows 35 = .ok (.iastore, 1) := by decide +kernel
theorem dX12_seekRows_36 : decode cX12_seekRows 36 = .ok (.aload_n 0, 1) := by decide +kernel
theorem dX12_seekRows_37 : decode cX12_seekRows 37 = .ok (.getfield 45, 3) := by decide +kernel
theorem dX12_seekRows_40 : decode cX12_seekRows 40 = .ok (.iconst 0, 1) := by decide +kernel
theorem dX12_seekRows_41 : decode cX12_seekRows 41 = .ok (.iconst 0, 1) := by decide +kernel
theorem dX12_seekRows_42 : decode cX12_seekRows 42 = .ok (.iastore, 1) := by decide +kernel
theorem dX12_seekRows_43 : decode cX12_seekRows 43 = .ok (.aload_n 0, 1) := by decide +kernel
theorem dX12_seekRows_44 : decode cX12_seekRows 44 = .ok (.getfield 39, 3) := by decide +kernel
theorem dX12_seekRows_47 : decode cX12_seekRows 47 = .ok (.iconst 0, 1) := by decide +kernel
theorem dX12_seekRows_48 : decode cX12_seekRows 48 = .ok (.iconst (-1), 1) := by decide +kernel
theorem dX12_seekRows_49 : decode cX12_seekRows 49 = .ok (.iastore, 1) := by decide +kernel
theorem dX12_seekRows_50 : decode cX12_seekRows 50 = .ok (.iload_n 3, 1) := by decide +kernel
theorem dX12_seekRows_51 : decode cX12_seekRows 51 = .ok (.ifCond .lt 120, 3) := by decide +kernel
theorem dX12_seekRows_54 : decode cX12_seekRows 54 = .ok (.aload_n 0, 1) := by decide +kernel
theorem dX12_seekRows_55 : decode cX12_seekRows 55 = .ok (.iload_n 3, 1) := by decide +kernel
theorem dX12_seekRows_56 : decode cX12_seekRows 56 = .ok (.invokevirtual 389, 3) := by decide +kernel
theorem dX12_seekRows_59 : decode cX12_seekRows 59 = .ok (.aload_n 0, 1) := by decide +kernel
theorem dX12_seekRows_60 : decode cX12_seekRows 60 = .ok (.getfield 39, 3) := by decide +kernel
theorem dX12_seekRows_63 : decode cX12_seekRows 63 = .ok (.iload_n 3, 1) := by decide +kernel
theorem dX12_seekRows_64 : decode cX12_seekRows 64 = .ok (.iaload, 1) := by decide +kernel
theorem dX12_seekRows_65 : decode cX12_seekRows 65 = .ok (.ifCond .lt 7, 3) := by decide +kernel
theorem dX12_seekRows_68 : decode cX12_seekRows 68 = .ok (.iconst 1, 1) := by decide +kernel
theorem dX12_seekRows_69 : decode cX12_seekRows 69 = .ok (.goto 4, 3) := by decide +kernel
theorem dX12_seekRows_72 : decode cX12_seekRows 72 = .ok (.iconst 0, 1) := by decide +kernel
theorem dX12_seekRows_73 : decode cX12_seekRows 73 = .ok (.istore 4, 2) := by decide +kernel
theorem dX12_seekRows_75 : decode cX12_seekRows 75 = .ok (.iload_n 3, 1) := by decide +kernel
theorem dX12_seekRows_76 : decode cX12_seekRows 76 = .ok (.iload_n 1, 1) := by decide +kernel
theorem dX12_seekRows_77 : decode cX12_seekRows 77 = .ok (.if_icmp .ne 7, 3) := by decide +kernel
theorem dX12_seekRows_80 : decode cX12_seekRows 80 = .ok (.iload_n 2, 1) := by decide +kernel
theorem dX12_seekRows_81 : decode cX12_seekRows 81 = .ok (.goto 11, 3) := by decide +kernel
theorem dX12_seekRows_84 : decode cX12_seekRows 84 = .ok (.aload_n 0, 1) := by decide +kernel
theorem dX12_seekRows_85 : decode cX12_seekRows 85 = .ok (.getfield 39, 3) := by decide +kernel
theorem dX12_seekRows_88 : decode cX12_seekRows 88 = .ok (.iload_n 3, 1) := by decide +kernel
theorem dX12_seekRows_89 : decode cX12_seekRows 89 = .ok (.iaload, 1) := by decide +kernel
theorem dX12_seekRows_90 : decode cX12_seekRows 90 = .ok (.iconst 1, 1) := by decide +kernel
theorem dX12_seekRows_91 : decode cX12_seekRows 91 = .ok (.iadd, 1) := by decide +kernel
theorem dX12_seekRows_92 : decode cX12_seekRows 92 = .ok (.istore 5, 2) := by decide +kernel
theorem dX12_seekRows_94 : decode cX12_seekRows 94 = .ok (.iload 5, 2) := by decide +kernel
theorem dX12_seekRows_96 : decode cX12_seekRows 96 = .ok (.iload_n 2, 1) := by decide +kernel
theorem dX12_seekRows_97 : decode cX12_seekRows 97 = .ok (.if_icmp .ge 24, 3) := by decide +kernel
theorem dX12_seekRows_100 : decode cX12_seekRows 100 = .ok (.aload_n 0, 1) := by decide +kernel
theorem dX12_seekRows_101 : decode cX12_seekRows 101 = .ok (.iload 5, 2) := by decide +kernel
theorem dX12_seekRows_103 : decode cX12_seekRows 103 = .ok (.aload_n 0, 1) := by decide +kernel
theorem dX12_seekRows_104 : decode cX12_seekRows 104 = .ok (.getfield 42, 3) := by decide +kernel
theorem dX12_seekRows_107 : decode cX12_seekRows 107 = .ok (.iload_n 3, 1) := by decide +kernel
theorem dX12_seekRows_108 : decode cX12_seekRows 108 = .ok (.iaload, 1) := by decide +kernel
theorem dX12_seekRows_109 : decode cX12_seekRows 109 = .ok (.invokevirtual 392, 3) := by decide +kernel
theorem dX12_seekRows_112 : decode cX12_seekRows 112 = .ok (.ifCond .ne 9, 3) := by decide +kernel
theorem dX12_seekRows_115 : decode cX12_seekRows 115 = .ok (.iinc 5 1, 3) := by decide +kernel
theorem dX12_seekRows_118 : decode cX12_seekRows 118 = .ok (.goto (-24), 3) := by decide +kernel
theorem dX12_seekRows_121 : decode cX12_seekRows 121 = .ok (.iload 5, 2) := by decide +kernel
theorem dX12_seekRows_123 : decode cX12_seekRows 123 = .ok (.iload_n 2, 1) := by decide +kernel
theorem dX12_seekRows_124 : decode cX12_seekRows 124 = .ok (.if_icmp .ge 31, 3) := by decide +kernel
theorem dX12_seekRows_127 : decode cX12_seekRows 127 = .ok (.aload_n 0, 1) := by decide +kernel
theorem dX12_seekRows_128 : decode cX12_seekRows 128 = .ok (.getfield 39, 3) := by decide +kernel
theorem dX12_seekRows_131 : decode cX12_seekRows 131 = .ok (.iload_n 3, 1) := by decide +kernel
theorem dX12_seekRows_132 : decode cX12_seekRows 132 = .ok (.iload 5, 2) := by decide +kernel
theorem dX12_seekRows_134 : decode cX12_seekRows 134 = .ok (.iastore, 1) := by decide +kernel
theorem dX12_seekRows_135 : decode cX12_seekRows 135 = .ok (.aload_n 0, 1) := by decide +kernel
theorem dX12_seekRows_136 : decode cX12_seekRows 136 = .ok (.iload 5, 2) := by decide +kernel
theorem dX12_seekRows_138 : decode cX12_seekRows 138 = .ok (.iload_n 3, 1) := by decide +kernel
theorem dX12_seekRows_139 : decode cX12_seekRows 139 = .ok (.invokevirtual 396, 3) := by decide +kernel
theorem dX12_seekRows_142 : decode cX12_seekRows 142 = .ok (.iinc 3 1, 3) := by decide +kernel
theorem dX12_seekRows_145 : decode cX12_seekRows 145 = .ok (.aload_n 0, 1) := by decide +kernel
theorem dX12_seekRows_146 : decode cX12_seekRows 146 = .ok (.getfield 39, 3) := by decide +kernel
theorem dX12_seekRows_149 : decode cX12_seekRows 149 = .ok (.iload_n 3, 1) := by decide +kernel
theorem dX12_seekRows_150 : decode cX12_seekRows 150 = .ok (.iconst (-1), 1) := by decide +kernel
theorem dX12_seekRows_151 : decode cX12_seekRows 151 = .ok (.iastore, 1) := by decide +kernel
theorem dX12_seekRows_152 : decode cX12_seekRows 152 = .ok (.goto 16, 3) := by decide +kernel
theorem dX12_seekRows_155 : decode cX12_seekRows 155 = .ok (.iload 4, 2) := by decide +kernel
theorem dX12_seekRows_157 : decode cX12_seekRows 157 = .ok (.ifCond .ne 8, 3) := by decide +kernel
theorem dX12_seekRows_160 : decode cX12_seekRows 160 = .ok (.aload_n 0, 1) := by decide +kernel
theorem dX12_seekRows_161 : decode cX12_seekRows 161 = .ok (.iload_n 3, 1) := by decide +kernel
theorem dX12_seekRows_162 : decode cX12_seekRows 162 = .ok (.invokevirtual 400, 3) := by decide +kernel
theorem dX12_seekRows_165 : decode cX12_seekRows 165 = .ok (.iinc 3 (-1), 3) := by decide +kernel
theorem dX12_seekRows_168 : decode cX12_seekRows 168 = .ok (.goto (-118), 3) := by decide +kernel
theorem dX12_seekRows_171 : decode cX12_seekRows 171 = .ok (.return_, 1) := by decide +kernel
theorem dX12_moves_0 : decode cX12_moves 0 = .ok (.aload_n 0, 1) := by decide +kernel
theorem dX12_moves_1 : decode cX12_moves 1 = .ok (.iconst 0, 1) := by decide +kernel
theorem dX12_moves_2 : decode cX12_moves 2 = .ok (.putfield 86, 3) := by decide +kernel
theorem dX12_moves_5 : decode cX12_moves 5 = .ok (.iload_n 1, 1) := by decide +kernel
theorem dX12_moves_6 : decode cX12_moves 6 = .ok (.i2l, 1) := by decide +kernel
theorem dX12_moves_7 : decode cX12_moves 7 = .ok (.lconst 1, 1) := by decide +kernel
theorem dX12_moves_8 : decode cX12_moves 8 = .ok (.ldc2_w 403, 3) := by decide +kernel
theorem dX12_moves_11 : decode cX12_moves 11 = .ok (.invokestatic 96, 3) := by decide +kernel
theorem dX12_moves_14 : decode cX12_moves 14 = .ok (.ifCond .eq 8, 3) := by decide +kernel
theorem dX12_moves_17 : decode cX12_moves 17 = .ok (.iload_n 2, 1) := by decide +kernel
theorem dX12_moves_18 : decode cX12_moves 18 = .ok (.iconst (-1), 1) := by decide +kernel
theorem dX12_moves_19 : decode cX12_moves 19 = .ok (.if_icmp .ge 7, 3) := by decide +kernel
theorem dX12_moves_22 : decode cX12_moves 22 = .ok (.ldc2_w 106, 3) := by decide +kernel
theorem dX12_moves_25 : decode cX12_moves 25 = .ok (.lreturn, 1) := by decide +kernel
theorem dX12_moves_26 : decode cX12_moves 26 = .ok (.aload_n 0, 1) := by decide +kernel
theorem dX12_moves_27 : decode cX12_moves 27 = .ok (.getfield 225, 3) := by decide +kernel
theorem dX12_moves_30 : decode cX12_moves 30 = .ok (.ifCond .ne 7, 3) := by decide +kernel
theorem dX12_moves_33 : decode cX12_moves 33 = .ok (.ldc2_w 326, 3) := by decide +kernel
theorem dX12_moves_36 : decode cX12_moves 36 = .ok (.lreturn, 1) := by decide +kernel
theorem dX12_moves_37 : decode cX12_moves 37 = .ok (.aload_n 0, 1) := by decide +kernel
theorem dX12_moves_38 : decode cX12_moves 38 = .ok (.iload_n 1, 1) := by decide +kernel
theorem dX12_moves_39 : decode cX12_moves 39 = .ok (.invokevirtual 405, 3) := by decide +kernel
theorem dX12_moves_42 : decode cX12_moves 42 = .ok (.iload_n 2, 1) := by decide +kernel
theorem dX12_moves_43 : decode cX12_moves 43 = .ok (.iconst (-1), 1) := by decide +kernel
theorem dX12_moves_44 : decode cX12_moves 44 = .ok (.if_icmp .ne 11, 3) := by decide +kernel
theorem dX12_moves_47 : decode cX12_moves 47 = .ok (.aload_n 0, 1) := by decide +kernel
theorem dX12_moves_48 : decode cX12_moves 48 = .ok (.getfield 386, 3) := by decide +kernel
theorem dX12_moves_51 : decode cX12_moves 51 = .ok (.i2l, 1) := by decide +kernel
theorem dX12_moves_52 : decode cX12_moves 52 = .ok (.goto 24, 3) := by decide +kernel
theorem dX12_moves_55 : decode cX12_moves 55 = .ok (.iload_n 2, 1) := by decide +kernel
theorem dX12_moves_56 : decode cX12_moves 56 = .ok (.aload_n 0, 1) := by decide +kernel
theorem dX12_moves_57 : decode cX12_moves 57 = .ok (.getfield 383, 3) := by decide +kernel
theorem dX12_moves_60 : decode cX12_moves 60 = .ok (.if_icmp .ge 13, 3) := by decide +kernel
theorem dX12_moves_63 : decode cX12_moves 63 = .ok (.aload_n 0, 1) := by decide +kernel
theorem dX12_moves_64 : decode cX12_moves 64 = .ok (.getfield 48, 3) := by decide +kernel
theorem dX12_moves_67 : decode cX12_moves 67 = .ok (.iload_n 2, 1) := by decide +kernel
theorem dX12_moves_68 : decode cX12_moves 68 = .ok (.iaload, 1) := by decide +kernel
theorem dX12_moves_69 : decode cX12_moves 69 = .ok (.i2l, 1) := by decide +kernel
theorem dX12_moves_70 : decode cX12_moves 70 = .ok (.goto 6, 3) := by decide +kernel
theorem dX12_moves_73 : decode cX12_moves 73 = .ok (.ldc2_w 346, 3) := by decide +kernel
theorem dX12_moves_76 : decode cX12_moves 76 = .ok (.lreturn, 1) := by decide +kernel
theorem dX12_placeOf_0 : decode cX12_placeOf 0 = .ok (.bipush 16, 2) := by decide +kernel
theorem dX12_placeOf_2 : decode cX12_placeOf 2 = .ok (.iload_n 0, 1) := by decide +kernel
theorem dX12_placeOf_3 : decode cX12_placeOf 3 = .ok (.imul, 1) := by decide +kernel
theorem dX12_placeOf_4 : decode cX12_placeOf 4 = .ok (.iload_n 1, 1) := by decide +kernel
theorem dX12_placeOf_5 : decode cX12_placeOf 5 = .ok (.iadd, 1) := by decide +kernel
theorem dX12_placeOf_6 : decode cX12_placeOf 6 = .ok (.sipush 201, 3) := by decide +kernel
theorem dX12_placeOf_9 : decode cX12_placeOf 9 = .ok (.imul, 1) := by decide +kernel
theorem dX12_placeOf_10 : decode cX12_placeOf 10 = .ok (.iload_n 2, 1) := by decide +kernel
theorem dX12_placeOf_11 : decode cX12_placeOf 11 = .ok (.iadd, 1) := by decide +kernel
theorem dX12_placeOf_12 : decode cX12_placeOf 12 = .ok (.ireturn, 1) := by decide +kernel
theorem dX12_goOn_0 : decode cX12_goOn 0 = .ok (.aload_n 0, 1) := by decide +kernel
theorem dX12_goOn_1 : decode cX12_goOn 1 = .ok (.getfield 33, 3) := by decide +kernel
theorem dX12_goOn_4 : decode cX12_goOn 4 = .ok (.iconst 3, 1) := by decide +kernel
theorem dX12_goOn_5 : decode cX12_goOn 5 = .ok (.iaload, 1) := by decide +kernel
theorem dX12_goOn_6 : decode cX12_goOn 6 = .ok (.istore_n 2, 1) := by decide +kernel
theorem dX12_goOn_7 : decode cX12_goOn 7 = .ok (.iconst 0, 1) := by decide +kernel
theorem dX12_goOn_8 : decode cX12_goOn 8 = .ok (.istore_n 3, 1) := by decide +kernel
theorem dX12_goOn_9 : decode cX12_goOn 9 = .ok (.iconst 0, 1) := by decide +kernel
theorem dX12_goOn_10 : decode cX12_goOn 10 = .ok (.istore 4, 2) := by decide +kernel
theorem dX12_goOn_12 : decode cX12_goOn 12 = .ok (.iload 4, 2) := by decide +kernel
theorem dX12_goOn_14 : decode cX12_goOn 14 = .ok (.ldc 51, 2) := by decide +kernel
theorem dX12_goOn_16 : decode cX12_goOn 16 = .ok (.if_icmp .ge 17, 3) := by decide +kernel
theorem dX12_goOn_19 : decode cX12_goOn 19 = .ok (.aload_n 0, 1) := by decide +kernel
theorem dX12_goOn_20 : decode cX12_goOn 20 = .ok (.getfield 56, 3) := by decide +kernel
theorem dX12_goOn_23 : decode cX12_goOn 23 = .ok (.iload 4, 2) := by decide +kernel
theorem dX12_goOn_25 : decode cX12_goOn 25 = .ok (.iconst 0, 1) := by decide +kernel
theorem dX12_goOn_26 : decode cX12_goOn 26 = .ok (.bastore, 1) := by decide +kernel
theorem dX12_goOn_27 : decode cX12_goOn 27 = .ok (.iinc 4 1, 3) := by decide +kernel
theorem dX12_goOn_30 : decode cX12_goOn 30 = .ok (.goto (-18), 3) := by decide +kernel
theorem dX12_goOn_33 : decode cX12_goOn 33 = .ok (.iconst 0, 1) := by decide +kernel
theorem dX12_goOn_34 : decode cX12_goOn 34 = .ok (.istore 4, 2) := by decide +kernel
theorem dX12_goOn_36 : decode cX12_goOn 36 = .ok (.iload 4, 2) := by decide +kernel
theorem dX12_goOn_38 : decode cX12_goOn 38 = .ok (.bipush 15, 2) := by decide +kernel
theorem dX12_goOn_40 : decode cX12_goOn 40 = .ok (.iload_n 1, 1) := by decide +kernel
theorem dX12_goOn_41 : decode cX12_goOn 41 = .ok (.imul, 1) := by decide +kernel
theorem dX12_goOn_42 : decode cX12_goOn 42 = .ok (.if_icmp .gt 166, 3) := by decide +kernel
theorem dX12_goOn_45 : decode cX12_goOn 45 = .ok (.iconst 0, 1) := by decide +kernel
theorem dX12_goOn_46 : decode cX12_goOn 46 = .ok (.istore 5, 2) := by decide +kernel
theorem dX12_goOn_48 : decode cX12_goOn 48 = .ok (.iload 5, 2) := by decide +kernel
theorem dX12_goOn_50 : decode cX12_goOn 50 = .ok (.bipush 16, 2) := by decide +kernel
theorem dX12_goOn_52 : decode cX12_goOn 52 = .ok (.if_icmp .ge 150, 3) := by decide +kernel
theorem dX12_goOn_55 : decode cX12_goOn 55 = .ok (.iconst 1, 1) := by decide +kernel
theorem dX12_goOn_56 : decode cX12_goOn 56 = .ok (.istore 6, 2) := by decide +kernel
theorem dX12_goOn_58 : decode cX12_goOn 58 = .ok (.iload 6, 2) := by decide +kernel
theorem dX12_goOn_60 : decode cX12_goOn 60 = .ok (.sipush 201, 3) := by decide +kernel
theorem dX12_goOn_63 : decode cX12_goOn 63 = .ok (.if_icmp .ge 133, 3) := by decide +kernel
theorem dX12_goOn_66 : decode cX12_goOn 66 = .ok (.aload_n 0, 1) := by decide +kernel
theorem dX12_goOn_67 : decode cX12_goOn 67 = .ok (.getfield 52, 3) := by decide +kernel
theorem dX12_goOn_70 : decode cX12_goOn 70 = .ok (.iload 4, 2) := by decide +kernel
theorem dX12_goOn_72 : decode cX12_goOn 72 = .ok (.iload 5, 2) := by decide +kernel
theorem dX12_goOn_74 : decode cX12_goOn 74 = .ok (.iload 6, 2) := by decide +kernel
theorem dX12_goOn_76 : decode cX12_goOn 76 = .ok (.invokestatic 408, 3) := by decide +kernel
theorem dX12_goOn_79 : decode cX12_goOn 79 = .ok (.baload, 1) := by decide +kernel
theorem dX12_goOn_80 : decode cX12_goOn 80 = .ok (.ifCond .eq 110, 3) := by decide +kernel
theorem dX12_goOn_83 : decode cX12_goOn 83 = .ok (.iconst 0, 1) := by decide +kernel
theorem dX12_goOn_84 : decode cX12_goOn 84 = .ok (.istore 7, 2) := by decide +kernel
theorem dX12_goOn_86 : decode cX12_goOn 86 = .ok (.iload 7, 2) := by decide +kernel
theorem dX12_goOn_88 : decode cX12_goOn 88 = .ok (.bipush 6, 2) := by decide +kernel
theorem dX12_goOn_90 : decode cX12_goOn 90 = .ok (.if_icmp .ge 100, 3) := by decide +kernel
theorem dX12_goOn_93 : decode cX12_goOn 93 = .ok (.aload_n 0, 1) := by decide +kernel
theorem dX12_goOn_94 : decode cX12_goOn 94 = .ok (.iload 6, 2) := by decide +kernel
theorem dX12_goOn_96 : decode cX12_goOn 96 = .ok (.putfield 247, 3) := by decide +kernel
theorem dX12_goOn_99 : decode cX12_goOn 99 = .ok (.aload_n 0, 1) := by decide +kernel
theorem dX12_goOn_100 : decode cX12_goOn 100 = .ok (.iload 5, 2) := by decide +kernel
theorem dX12_goOn_102 : decode cX12_goOn 102 = .ok (.putfield 250, 3) := by decide +kernel
theorem dX12_goOn_105 : decode cX12_goOn 105 = .ok (.aload_n 0, 1) := by decide +kernel
theorem dX12_goOn_106 : decode cX12_goOn 106 = .ok (.iload_n 2, 1) := by decide +kernel
theorem dX12_goOn_107 : decode cX12_goOn 107 = .ok (.iload 4, 2) := by decide +kernel
theorem dX12_goOn_109 : decode cX12_goOn 109 = .ok (.iadd, 1) := by decide +kernel
theorem dX12_goOn_110 : decode cX12_goOn 110 = .ok (.putfield 256, 3) := by decide +kernel
theorem dX12_goOn_113 : decode cX12_goOn 113 = .ok (.aload_n 0, 1) := by decide +kernel
theorem dX12_goOn_114 : decode cX12_goOn 114 = .ok (.iconst 0, 1) := by decide +kernel
theorem dX12_goOn_115 : decode cX12_goOn 115 = .ok (.putfield 253, 3) := by decide +kernel
theorem dX12_goOn_118 : decode cX12_goOn 118 = .ok (.aload_n 0, 1) := by decide +kernel
theorem dX12_goOn_119 : decode cX12_goOn 119 = .ok (.iconst 0, 1) := by decide +kernel
theorem dX12_goOn_120 : decode cX12_goOn 120 = .ok (.iload 7, 2) := by decide +kernel
theorem dX12_goOn_122 : decode cX12_goOn 122 = .ok (.iconst 2, 1) := by decide +kernel
theorem dX12_goOn_123 : decode cX12_goOn 123 = .ok (.idiv, 1) := by decide +kernel
theorem dX12_goOn_124 : decode cX12_goOn 124 = .ok (.iconst 1, 1) := by decide +kernel
theorem dX12_goOn_125 : decode cX12_goOn 125 = .ok (.iadd, 1) := by decide +kernel
theorem dX12_goOn_126 : decode cX12_goOn 126 = .ok (.iload 7, 2) := by decide +kernel
theorem dX12_goOn_128 : decode cX12_goOn 128 = .ok (.iconst 2, 1) := by decide +kernel
theorem dX12_goOn_129 : decode cX12_goOn 129 = .ok (.irem, 1) := by decide +kernel
theorem dX12_goOn_130 : decode cX12_goOn 130 = .ok (.ifCond .ne 7, 3) := by decide +kernel
theorem dX12_goOn_133 : decode cX12_goOn 133 = .ok (.iconst 4, 1) := by decide +kernel
theorem dX12_goOn_134 : decode cX12_goOn 134 = .ok (.goto 5, 3) := by decide +kernel
theorem dX12_goOn_137 : decode cX12_goOn 137 = .ok (.bipush 8, 2) := by decide +kernel
theorem dX12_goOn_139 : decode cX12_goOn 139 = .ok (.ldc 28, 2) := by decide +kernel
theorem dX12_goOn_141 : decode cX12_goOn 141 = .ok (.invokevirtual 328, 3) := by decide +kernel
theorem dX12_goOn_144 : decode cX12_goOn 144 = .ok (.aload_n 0, 1) := by decide +kernel
theorem dX12_goOn_145 : decode cX12_goOn 145 = .ok (.getfield 56, 3) := by decide +kernel
theorem dX12_goOn_148 : decode cX12_goOn 148 = .ok (.aload_n 0, 1) := by decide +kernel
theorem dX12_goOn_149 : decode cX12_goOn 149 = .ok (.getfield 256, 3) := by decide +kernel
theorem dX12_goOn_152 : decode cX12_goOn 152 = .ok (.iload_n 2, 1) := by decide +kernel
theorem dX12_goOn_153 : decode cX12_goOn 153 = .ok (.isub, 1) := by decide +kernel
theorem dX12_goOn_154 : decode cX12_goOn 154 = .ok (.aload_n 0, 1) := by decide +kernel
theorem dX12_goOn_155 : decode cX12_goOn 155 = .ok (.getfield 250, 3) := by decide +kernel
theorem dX12_goOn_158 : decode cX12_goOn 158 = .ok (.aload_n 0, 1) := by decide +kernel
theorem dX12_goOn_159 : decode cX12_goOn 159 = .ok (.getfield 247, 3) := by decide +kernel
theorem dX12_goOn_162 : decode cX12_goOn 162 = .ok (.invokestatic 408, 3) := by decide +kernel
theorem dX12_goOn_165 : decode cX12_goOn 165 = .ok (.iconst 1, 1) := by decide +kernel
theorem dX12_goOn_166 : decode cX12_goOn 166 = .ok (.bastore, 1) := by decide +kernel
theorem dX12_goOn_167 : decode cX12_goOn 167 = .ok (.aload_n 0, 1) := by decide +kernel
theorem dX12_goOn_168 : decode cX12_goOn 168 = .ok (.getfield 247, 3) := by decide +kernel
theorem dX12_goOn_171 : decode cX12_goOn 171 = .ok (.iload_n 3, 1) := by decide +kernel
theorem dX12_goOn_172 : decode cX12_goOn 172 = .ok (.if_icmp .le 10, 3) := by decide +kernel
theorem dX12_goOn_175 : decode cX12_goOn 175 = .ok (.aload_n 0, 1) := by decide +kernel
theorem dX12_goOn_176 : decode cX12_goOn 176 = .ok (.getfield 247, 3) := by decide +kernel
theorem dX12_goOn_179 : decode cX12_goOn 179 = .ok (.goto 4, 3) := by decide +kernel
theorem dX12_goOn_182 : decode cX12_goOn 182 = .ok (.iload_n 3, 1) := by decide +kernel
theorem dX12_goOn_183 : decode cX12_goOn 183 = .ok (.istore_n 3, 1) := by decide +kernel
theorem dX12_goOn_184 : decode cX12_goOn 184 = .ok (.iinc 7 1, 3) := by decide +kernel
theorem dX12_goOn_187 : decode cX12_goOn 187 = .ok (.goto (-101), 3) := by decide +kernel
theorem dX12_goOn_190 : decode cX12_goOn 190 = .ok (.iinc 6 1, 3) := by decide +kernel
theorem dX12_goOn_193 : decode cX12_goOn 193 = .ok (.goto (-135), 3) := by decide +kernel
theorem dX12_goOn_196 : decode cX12_goOn 196 = .ok (.iinc 5 1, 3) := by decide +kernel
theorem dX12_goOn_199 : decode cX12_goOn 199 = .ok (.goto (-151), 3) := by decide +kernel
theorem dX12_goOn_202 : decode cX12_goOn 202 = .ok (.iinc 4 1, 3) := by decide +kernel
theorem dX12_goOn_205 : decode cX12_goOn 205 = .ok (.goto (-169), 3) := by decide +kernel
theorem dX12_goOn_208 : decode cX12_goOn 208 = .ok (.iconst 0, 1) := by decide +kernel
theorem dX12_goOn_209 : decode cX12_goOn 209 = .ok (.istore 4, 2) := by decide +kernel
theorem dX12_goOn_211 : decode cX12_goOn 211 = .ok (.iload 4, 2) := by decide +kernel
theorem dX12_goOn_213 : decode cX12_goOn 213 = .ok (.ldc 51, 2) := by decide +kernel
theorem dX12_goOn_215 : decode cX12_goOn 215 = .ok (.if_icmp .ge 23, 3) := by decide +kernel
theorem dX12_goOn_218 : decode cX12_goOn 218 = .ok (.aload_n 0, 1) := by decide +kernel
theorem dX12_goOn_219 : decode cX12_goOn 219 = .ok (.getfield 52, 3) := by decide +kernel
theorem dX12_goOn_222 : decode cX12_goOn 222 = .ok (.iload 4, 2) := by decide +kernel
theorem dX12_goOn_224 : decode cX12_goOn 224 = .ok (.aload_n 0, 1) := by decide +kernel
theorem dX12_goOn_225 : decode cX12_goOn 225 = .ok (.getfield 56, 3) := by decide +kernel
theorem dX12_goOn_228 : decode cX12_goOn 228 = .ok (.iload 4, 2) := by decide +kernel
theorem dX12_goOn_230 : decode cX12_goOn 230 = .ok (.baload, 1) := by decide +kernel
theorem dX12_goOn_231 : decode cX12_goOn 231 = .ok (.bastore, 1) := by decide +kernel
theorem dX12_goOn_232 : decode cX12_goOn 232 = .ok (.iinc 4 1, 3) := by decide +kernel
theorem dX12_goOn_235 : decode cX12_goOn 235 = .ok (.goto (-24), 3) := by decide +kernel
theorem dX12_goOn_238 : decode cX12_goOn 238 = .ok (.iload_n 3, 1) := by decide +kernel
theorem dX12_goOn_239 : decode cX12_goOn 239 = .ok (.ireturn, 1) := by decide +kernel
theorem dX12_fewest_0 : decode cX12_fewest 0 = .ok (.aload_n 0, 1) := by decide +kernel
theorem dX12_fewest_1 : decode cX12_fewest 1 = .ok (.iconst 0, 1) := by decide +kernel
theorem dX12_fewest_2 : decode cX12_fewest 2 = .ok (.putfield 86, 3) := by decide +kernel
theorem dX12_fewest_5 : decode cX12_fewest 5 = .ok (.iload_n 1, 1) := by decide +kernel
theorem dX12_fewest_6 : decode cX12_fewest 6 = .ok (.i2l, 1) := by decide +kernel
theorem dX12_fewest_7 : decode cX12_fewest 7 = .ok (.lconst 1, 1) := by decide +kernel
theorem dX12_fewest_8 : decode cX12_fewest 8 = .ok (.ldc2_w 344, 3) := by decide +kernel
theorem dX12_fewest_11 : decode cX12_fewest 11 = .ok (.invokestatic 96, 3) := by decide +kernel
theorem dX12_fewest_14 : decode cX12_fewest 14 = .ok (.ifCond .eq 15, 3) := by decide +kernel
theorem dX12_fewest_17 : decode cX12_fewest 17 = .ok (.iload_n 2, 1) := by decide +kernel
theorem dX12_fewest_18 : decode cX12_fewest 18 = .ok (.i2l, 1) := by decide +kernel
theorem dX12_fewest_19 : decode cX12_fewest 19 = .ok (.lconst 0, 1) := by decide +kernel
theorem dX12_fewest_20 : decode cX12_fewest 20 = .ok (.ldc2_w 412, 3) := by decide +kernel
theorem dX12_fewest_23 : decode cX12_fewest 23 = .ok (.invokestatic 96, 3) := by decide +kernel
theorem dX12_fewest_26 : decode cX12_fewest 26 = .ok (.ifCond .ne 7, 3) := by decide +kernel
theorem dX12_fewest_29 : decode cX12_fewest 29 = .ok (.ldc2_w 106, 3) := by decide +kernel
theorem dX12_fewest_32 : decode cX12_fewest 32 = .ok (.lreturn, 1) := by decide +kernel
theorem dX12_fewest_33 : decode cX12_fewest 33 = .ok (.aload_n 0, 1) := by decide +kernel
theorem dX12_fewest_34 : decode cX12_fewest 34 = .ok (.getfield 225, 3) := by decide +kernel
theorem dX12_fewest_37 : decode cX12_fewest 37 = .ok (.ifCond .ne 7, 3) := by decide +kernel
theorem dX12_fewest_40 : decode cX12_fewest 40 = .ok (.ldc2_w 326, 3) := by decide +kernel
theorem dX12_fewest_43 : decode cX12_fewest 43 = .ok (.lreturn, 1) := by decide +kernel
theorem dX12_fewest_44 : decode cX12_fewest 44 = .ok (.aload_n 0, 1) := by decide +kernel
theorem dX12_fewest_45 : decode cX12_fewest 45 = .ok (.getfield 33, 3) := by decide +kernel
theorem dX12_fewest_48 : decode cX12_fewest 48 = .ok (.iconst 0, 1) := by decide +kernel
theorem dX12_fewest_49 : decode cX12_fewest 49 = .ok (.iaload, 1) := by decide +kernel
theorem dX12_fewest_50 : decode cX12_fewest 50 = .ok (.iload_n 1, 1) := by decide +kernel
theorem dX12_fewest_51 : decode cX12_fewest 51 = .ok (.if_icmp .lt 5, 3) := by decide +kernel
theorem dX12_fewest_54 : decode cX12_fewest 54 = .ok (.lconst 0, 1) := by decide +kernel
theorem dX12_fewest_55 : decode cX12_fewest 55 = .ok (.lreturn, 1) := by decide +kernel
theorem dX12_fewest_56 : decode cX12_fewest 56 = .ok (.aload_n 0, 1) := by decide +kernel
theorem dX12_fewest_57 : decode cX12_fewest 57 = .ok (.getfield 33, 3) := by decide +kernel
theorem dX12_fewest_60 : decode cX12_fewest 60 = .ok (.iconst 5, 1) := by decide +kernel
theorem dX12_fewest_61 : decode cX12_fewest 61 = .ok (.iaload, 1) := by decide +kernel
theorem dX12_fewest_62 : decode cX12_fewest 62 = .ok (.iconst 1, 1) := by decide +kernel
theorem dX12_fewest_63 : decode cX12_fewest 63 = .ok (.if_icmp .eq 12, 3) := by decide +kernel
theorem dX12_fewest_66 : decode cX12_fewest 66 = .ok (.aload_n 0, 1) := by decide +kernel
theorem dX12_fewest_67 : decode cX12_fewest 67 = .ok (.getfield 33, 3) := by decide +kernel
theorem dX12_fewest_70 : decode cX12_fewest 70 = .ok (.iconst 0, 1) := by decide +kernel
theorem dX12_fewest_71 : decode cX12_fewest 71 = .ok (.iaload, 1) := by decide +kernel
theorem dX12_fewest_72 : decode cX12_fewest 72 = .ok (.ifCond .ne 7, 3) := by decide +kernel
theorem dX12_fewest_75 : decode cX12_fewest 75 = .ok (.ldc2_w 346, 3) := by decide +kernel
theorem dX12_fewest_78 : decode cX12_fewest 78 = .ok (.lreturn, 1) := by decide +kernel
theorem dX12_fewest_79 : decode cX12_fewest 79 = .ok (.iconst 0, 1) := by decide +kernel
theorem dX12_fewest_80 : decode cX12_fewest 80 = .ok (.istore_n 3, 1) := by decide +kernel
theorem dX12_fewest_81 : decode cX12_fewest 81 = .ok (.iload_n 3, 1) := by decide +kernel
theorem dX12_fewest_82 : decode cX12_fewest 82 = .ok (.ldc 51, 2) := by decide +kernel
theorem dX12_fewest_84 : decode cX12_fewest 84 = .ok (.if_icmp .ge 16, 3) := by decide +kernel
theorem dX12_fewest_87 : decode cX12_fewest 87 = .ok (.aload_n 0, 1) := by decide +kernel
theorem dX12_fewest_88 : decode cX12_fewest 88 = .ok (.getfield 52, 3) := by decide +kernel
theorem dX12_fewest_91 : decode cX12_fewest 91 = .ok (.iload_n 3, 1) := by decide +kernel
theorem dX12_fewest_92 : decode cX12_fewest 92 = .ok (.iconst 0, 1) := by decide +kernel
theorem dX12_fewest_93 : decode cX12_fewest 93 = .ok (.bastore, 1) := by decide +kernel
theorem dX12_fewest_94 : decode cX12_fewest 94 = .ok (.iinc 3 1, 3) := by decide +kernel
theorem dX12_fewest_97 : decode cX12_fewest 97 = .ok (.goto (-16), 3) := by decide +kernel
theorem dX12_fewest_100 : decode cX12_fewest 100 = .ok (.aload_n 0, 1) := by decide +kernel
theorem dX12_fewest_101 : decode cX12_fewest 101 = .ok (.getfield 52, 3) := by decide +kernel
theorem dX12_fewest_104 : decode cX12_fewest 104 = .ok (.iconst 0, 1) := by decide +kernel
theorem dX12_fewest_105 : decode cX12_fewest 105 = .ok (.aload_n 0, 1) := by decide +kernel
theorem dX12_fewest_106 : decode cX12_fewest 106 = .ok (.getfield 33, 3) := by decide +kernel
theorem dX12_fewest_109 : decode cX12_fewest 109 = .ok (.iconst 1, 1) := by decide +kernel
theorem dX12_fewest_110 : decode cX12_fewest 110 = .ok (.iaload, 1) := by decide +kernel
theorem dX12_fewest_111 : decode cX12_fewest 111 = .ok (.aload_n 0, 1) := by decide +kernel
theorem dX12_fewest_112 : decode cX12_fewest 112 = .ok (.getfield 33, 3) := by decide +kernel
theorem dX12_fewest_115 : decode cX12_fewest 115 = .ok (.iconst 0, 1) := by decide +kernel
theorem dX12_fewest_116 : decode cX12_fewest 116 = .ok (.iaload, 1) := by decide +kernel
theorem dX12_fewest_117 : decode cX12_fewest 117 = .ok (.invokestatic 408, 3) := by decide +kernel
theorem dX12_fewest_120 : decode cX12_fewest 120 = .ok (.iconst 1, 1) := by decide +kernel
theorem dX12_fewest_121 : decode cX12_fewest 121 = .ok (.bastore, 1) := by decide +kernel
theorem dX12_fewest_122 : decode cX12_fewest 122 = .ok (.iconst 0, 1) := by decide +kernel
theorem dX12_fewest_123 : decode cX12_fewest 123 = .ok (.istore_n 3, 1) := by decide +kernel
theorem dX12_fewest_124 : decode cX12_fewest 124 = .ok (.iload_n 3, 1) := by decide +kernel
theorem dX12_fewest_125 : decode cX12_fewest 125 = .ok (.iload_n 2, 1) := by decide +kernel
theorem dX12_fewest_126 : decode cX12_fewest 126 = .ok (.if_icmp .ge 23, 3) := by decide +kernel
theorem dX12_fewest_129 : decode cX12_fewest 129 = .ok (.aload_n 0, 1) := by decide +kernel
theorem dX12_fewest_130 : decode cX12_fewest 130 = .ok (.iload_n 3, 1) := by decide +kernel
theorem dX12_fewest_131 : decode cX12_fewest 131 = .ok (.invokevirtual 414, 3) := by decide +kernel
theorem dX12_fewest_134 : decode cX12_fewest 134 = .ok (.iload_n 1, 1) := by decide +kernel
theorem dX12_fewest_135 : decode cX12_fewest 135 = .ok (.if_icmp .lt 8, 3) := by decide +kernel
theorem dX12_fewest_138 : decode cX12_fewest 138 = .ok (.iload_n 3, 1) := by decide +kernel
theorem dX12_fewest_139 : decode cX12_fewest 139 = .ok (.iconst 1, 1) := by decide +kernel
theorem dX12_fewest_140 : decode cX12_fewest 140 = .ok (.iadd, 1) := by decide +kernel
theorem dX12_fewest_141 : decode cX12_fewest 141 = .ok (.i2l, 1) := by decide +kernel
theorem dX12_fewest_142 : decode cX12_fewest 142 = .ok (.lreturn, 1) := by decide +kernel
theorem dX12_fewest_143 : decode cX12_fewest 143 = .ok (.iinc 3 1, 3) := by decide +kernel
theorem dX12_fewest_146 : decode cX12_fewest 146 = .ok (.goto (-22), 3) := by decide +kernel
theorem dX12_fewest_149 : decode cX12_fewest 149 = .ok (.ldc2_w 346, 3) := by decide +kernel
theorem dX12_fewest_152 : decode cX12_fewest 152 = .ok (.lreturn, 1) := by decide +kernel
theorem dX12_formOf_0 : decode cX12_formOf 0 = .ok (.aload_n 0, 1) := by decide +kernel
theorem dX12_formOf_1 : decode cX12_formOf 1 = .ok (.getfield 19, 3) := by decide +kernel
theorem dX12_formOf_4 : decode cX12_formOf 4 = .ok (.bipush 44, 2) := by decide +kernel
theorem dX12_formOf_6 : decode cX12_formOf 6 = .ok (.iconst 4, 1) := by decide +kernel
theorem dX12_formOf_7 : decode cX12_formOf 7 = .ok (.iload_n 1, 1) := by decide +kernel
theorem dX12_formOf_8 : decode cX12_formOf 8 = .ok (.imul, 1) := by decide +kernel
theorem dX12_formOf_9 : decode cX12_formOf 9 = .ok (.iadd, 1) := by decide +kernel
theorem dX12_formOf_10 : decode cX12_formOf 10 = .ok (.iload_n 2, 1) := by decide +kernel
theorem dX12_formOf_11 : decode cX12_formOf 11 = .ok (.iadd, 1) := by decide +kernel
theorem dX12_formOf_12 : decode cX12_formOf 12 = .ok (.iaload, 1) := by decide +kernel
theorem dX12_formOf_13 : decode cX12_formOf 13 = .ok (.ireturn, 1) := by decide +kernel
theorem dX12_areNear_0 : decode cX12_areNear 0 = .ok (.iload_n 0, 1) := by decide +kernel
theorem dX12_areNear_1 : decode cX12_areNear 1 = .ok (.iload_n 3, 1) := by decide +kernel
theorem dX12_areNear_2 : decode cX12_areNear 2 = .ok (.isub, 1) := by decide +kernel
theorem dX12_areNear_3 : decode cX12_areNear 3 = .ok (.iload 4, 2) := by decide +kernel
theorem dX12_areNear_5 : decode cX12_areNear 5 = .ok (.if_icmp .gt 15, 3) := by decide +kernel
theorem dX12_areNear_8 : decode cX12_areNear 8 = .ok (.iload_n 2, 1) := by decide +kernel
theorem dX12_areNear_9 : decode cX12_areNear 9 = .ok (.iload_n 1, 1) := by decide +kernel
theorem dX12_areNear_10 : decode cX12_areNear 10 = .ok (.isub, 1) := by decide +kernel
theorem dX12_areNear_11 : decode cX12_areNear 11 = .ok (.iload 4, 2) := by decide +kernel
theorem dX12_areNear_13 : decode cX12_areNear 13 = .ok (.if_icmp .gt 7, 3) := by decide +kernel
theorem dX12_areNear_16 : decode cX12_areNear 16 = .ok (.iconst 1, 1) := by decide +kernel
theorem dX12_areNear_17 : decode cX12_areNear 17 = .ok (.goto 4, 3) := by decide +kernel
theorem dX12_areNear_20 : decode cX12_areNear 20 = .ok (.iconst 0, 1) := by decide +kernel
theorem dX12_areNear_21 : decode cX12_areNear 21 = .ok (.ireturn, 1) := by decide +kernel
theorem dX12_goes_0 : decode cX12_goes 0 = .ok (.aload_n 0, 1) := by decide +kernel
theorem dX12_goes_1 : decode cX12_goes 1 = .ok (.iload_n 1, 1) := by decide +kernel
theorem dX12_goes_2 : decode cX12_goes 2 = .ok (.iconst 0, 1) := by decide +kernel
theorem dX12_goes_3 : decode cX12_goes 3 = .ok (.invokevirtual 417, 3) := by decide +kernel
theorem dX12_goes_6 : decode cX12_goes 6 = .ok (.aload_n 0, 1) := by decide +kernel
theorem dX12_goes_7 : decode cX12_goes 7 = .ok (.iload_n 1, 1) := by decide +kernel
theorem dX12_goes_8 : decode cX12_goes 8 = .ok (.iconst 1, 1) := by decide +kernel
theorem dX12_goes_9 : decode cX12_goes 9 = .ok (.invokevirtual 417, 3) := by decide +kernel
theorem dX12_goes_12 : decode cX12_goes 12 = .ok (.aload_n 0, 1) := by decide +kernel
theorem dX12_goes_13 : decode cX12_goes 13 = .ok (.iload_n 2, 1) := by decide +kernel
theorem dX12_goes_14 : decode cX12_goes 14 = .ok (.iconst 0, 1) := by decide +kernel
theorem dX12_goes_15 : decode cX12_goes 15 = .ok (.invokevirtual 417, 3) := by decide +kernel
theorem dX12_goes_18 : decode cX12_goes 18 = .ok (.aload_n 0, 1) := by decide +kernel
theorem dX12_goes_19 : decode cX12_goes 19 = .ok (.iload_n 2, 1) := by decide +kernel
theorem dX12_goes_20 : decode cX12_goes 20 = .ok (.iconst 1, 1) := by decide +kernel
theorem dX12_goes_21 : decode cX12_goes 21 = .ok (.invokevirtual 417, 3) := by decide +kernel
theorem dX12_goes_24 : decode cX12_goes 24 = .ok (.iconst 2, 1) := by decide +kernel
theorem dX12_goes_25 : decode cX12_goes 25 = .ok (.invokestatic 420, 3) := by decide +kernel
theorem dX12_goes_28 : decode cX12_goes 28 = .ok (.ifCond .eq 39, 3) := by decide +kernel
theorem dX12_goes_31 : decode cX12_goes 31 = .ok (.aload_n 0, 1) := by decide +kernel
theorem dX12_goes_32 : decode cX12_goes 32 = .ok (.iload_n 1, 1) := by decide +kernel
theorem dX12_goes_33 : decode cX12_goes 33 = .ok (.iconst 2, 1) := by decide +kernel
theorem dX12_goes_34 : decode cX12_goes 34 = .ok (.invokevirtual 417, 3) := by decide +kernel
theorem dX12_goes_37 : decode cX12_goes 37 = .ok (.aload_n 0, 1) := by decide +kernel
theorem dX12_goes_38 : decode cX12_goes 38 = .ok (.iload_n 1, 1) := by decide +kernel
theorem dX12_goes_39 : decode cX12_goes 39 = .ok (.iconst 3, 1) := by decide +kernel
theorem dX12_goes_40 : decode cX12_goes 40 = .ok (.invokevirtual 417, 3) := by decide +kernel
theorem dX12_goes_43 : decode cX12_goes 43 = .ok (.aload_n 0, 1) := by decide +kernel
theorem dX12_goes_44 : decode cX12_goes 44 = .ok (.iload_n 2, 1) := by decide +kernel
theorem dX12_goes_45 : decode cX12_goes 45 = .ok (.iconst 2, 1) := by decide +kernel
theorem dX12_goes_46 : decode cX12_goes 46 = .ok (.invokevirtual 417, 3) := by decide +kernel
theorem dX12_goes_49 : decode cX12_goes 49 = .ok (.aload_n 0, 1) := by decide +kernel
theorem dX12_goes_50 : decode cX12_goes 50 = .ok (.iload_n 2, 1) := by decide +kernel
theorem dX12_goes_51 : decode cX12_goes 51 = .ok (.iconst 3, 1) := by decide +kernel
theorem dX12_goes_52 : decode cX12_goes 52 = .ok (.invokevirtual 417, 3) := by decide +kernel
theorem dX12_goes_55 : decode cX12_goes 55 = .ok (.bipush 20, 2) := by decide +kernel
theorem dX12_goes_57 : decode cX12_goes 57 = .ok (.invokestatic 420, 3) := by decide +kernel
theorem dX12_goes_60 : decode cX12_goes 60 = .ok (.ifCond .eq 7, 3) := by decide +kernel
theorem dX12_goes_63 : decode cX12_goes 63 = .ok (.iconst 1, 1) := by decide +kernel
theorem dX12_goes_64 : decode cX12_goes 64 = .ok (.goto 4, 3) := by decide +kernel
theorem dX12_goes_67 : decode cX12_goes 67 = .ok (.iconst 0, 1) := by decide +kernel
theorem dX12_goes_68 : decode cX12_goes 68 = .ok (.ireturn, 1) := by decide +kernel
theorem dX12_seekShows_0 : decode cX12_seekShows 0 = .ok (.aload_n 0, 1) := by decide +kernel
theorem dX12_seekShows_1 : decode cX12_seekShows 1 = .ok (.getfield 19, 3) := by decide +kernel
theorem dX12_seekShows_4 : decode cX12_seekShows 4 = .ok (.iconst 3, 1) := by decide +kernel
theorem dX12_seekShows_5 : decode cX12_seekShows 5 = .ok (.iaload, 1) := by decide +kernel
theorem dX12_seekShows_6 : decode cX12_seekShows 6 = .ok (.istore_n 1, 1) := by decide +kernel
theorem dX12_seekShows_7 : decode cX12_seekShows 7 = .ok (.iconst 0, 1) := by decide +kernel
theorem dX12_seekShows_8 : decode cX12_seekShows 8 = .ok (.istore_n 2, 1) := by decide +kernel
theorem dX12_seekShows_9 : decode cX12_seekShows 9 = .ok (.iconst 0, 1) := by decide +kernel
theorem dX12_seekShows_10 : decode cX12_seekShows 10 = .ok (.istore_n 3, 1) := by decide +kernel
theorem dX12_seekShows_11 : decode cX12_seekShows 11 = .ok (.iconst 0, 1) := by decide +kernel
theorem dX12_seekShows_12 : decode cX12_seekShows 12 = .ok (.istore 4, 2) := by decide +kernel
theorem dX12_seekShows_14 : decode cX12_seekShows 14 = .ok (.aload_n 0, 1) := by decide +kernel
theorem dX12_seekShows_15 : decode cX12_seekShows 15 = .ok (.getfield 59, 3) := by decide +kernel
theorem dX12_seekShows_18 : decode cX12_seekShows 18 = .ok (.iconst 0, 1) := by decide +kernel
theorem dX12_seekShows_19 : decode cX12_seekShows 19 = .ok (.iconst (-1), 1) := by decide +kernel
theorem dX12_seekShows_20 : decode cX12_seekShows 20 = .ok (.iastore, 1) := by decide +kernel
theorem dX12_seekShows_21 : decode cX12_seekShows 21 = .ok (.iload_n 3, 1) := by decide +kernel
theorem dX12_seekShows_22 : decode cX12_seekShows 22 = .ok (.ifCond .lt 156, 3) := by decide +kernel
theorem dX12_seekShows_25 : decode cX12_seekShows 25 = .ok (.aload_n 0, 1) := by decide +kernel
theorem dX12_seekShows_26 : decode cX12_seekShows 26 = .ok (.getfield 59, 3) := by decide +kernel
theorem dX12_seekShows_29 : decode cX12_seekShows 29 = .ok (.iload_n 3, 1) := by decide +kernel
theorem dX12_seekShows_30 : decode cX12_seekShows 30 = .ok (.iaload, 1) := by decide +kernel
theorem dX12_seekShows_31 : decode cX12_seekShows 31 = .ok (.istore 5, 2) := by decide +kernel
theorem dX12_seekShows_33 : decode cX12_seekShows 33 = .ok (.iload 4, 2) := by decide +kernel
theorem dX12_seekShows_35 : decode cX12_seekShows 35 = .ok (.iload 5, 2) := by decide +kernel
theorem dX12_seekShows_37 : decode cX12_seekShows 37 = .ok (.ifCond .ge 7, 3) := by decide +kernel
theorem dX12_seekShows_40 : decode cX12_seekShows 40 = .ok (.iconst (-1), 1) := by decide +kernel
theorem dX12_seekShows_41 : decode cX12_seekShows 41 = .ok (.goto 9, 3) := by decide +kernel
theorem dX12_seekShows_44 : decode cX12_seekShows 44 = .ok (.iconst 1, 1) := by decide +kernel
theorem dX12_seekShows_45 : decode cX12_seekShows 45 = .ok (.iload 5, 2) := by decide +kernel
theorem dX12_seekShows_47 : decode cX12_seekShows 47 = .ok (.ishl, 1) := by decide +kernel
theorem dX12_seekShows_48 : decode cX12_seekShows 48 = .ok (.iconst (-1), 1) := by decide +kernel
theorem dX12_seekShows_49 : decode cX12_seekShows 49 = .ok (.ixor, 1) := by decide +kernel
theorem dX12_seekShows_50 : decode cX12_seekShows 50 = .ok (.iand, 1) := by decide +kernel
theorem dX12_seekShows_51 : decode cX12_seekShows 51 = .ok (.istore 4, 2) := by decide +kernel
theorem dX12_seekShows_53 : decode cX12_seekShows 53 = .ok (.iinc 5 1, 3) := by decide +kernel
theorem dX12_seekShows_56 : decode cX12_seekShows 56 = .ok (.iload 5, 2) := by decide +kernel
theorem dX12_seekShows_58 : decode cX12_seekShows 58 = .ok (.iload_n 1, 1) := by decide +kernel
theorem dX12_seekShows_59 : decode cX12_seekShows 59 = .ok (.if_icmp .ge 41, 3) := by decide +kernel
theorem dX12_seekShows_62 : decode cX12_seekShows 62 = .ok (.iload 4, 2) := by decide +kernel
theorem dX12_seekShows_64 : decode cX12_seekShows 64 = .ok (.iload 5, 2) := by decide +kernel
theorem dX12_seekShows_66 : decode cX12_seekShows 66 = .ok (.ishr, 1) := by decide +kernel
theorem dX12_seekShows_67 : decode cX12_seekShows 67 = .ok (.iconst 1, 1) := by decide +kernel
theorem dX12_seekShows_68 : decode cX12_seekShows 68 = .ok (.iand, 1) := by decide +kernel
theorem dX12_seekShows_69 : decode cX12_seekShows 69 = .ok (.iconst 1, 1) := by decide +kernel
theorem dX12_seekShows_70 : decode cX12_seekShows 70 = .ok (.if_icmp .eq 24, 3) := by decide +kernel
theorem dX12_seekShows_73 : decode cX12_seekShows 73 = .ok (.iload_n 3, 1) := by decide +kernel
theorem dX12_seekShows_74 : decode cX12_seekShows 74 = .ok (.ifCond .le 26, 3) := by decide +kernel
theorem dX12_seekShows_77 : decode cX12_seekShows 77 = .ok (.aload_n 0, 1) := by decide +kernel
theorem dX12_seekShows_78 : decode cX12_seekShows 78 = .ok (.aload_n 0, 1) := by decide +kernel
theorem dX12_seekShows_79 : decode cX12_seekShows 79 = .ok (.getfield 59, 3) := by decide +kernel
theorem dX12_seekShows_82 : decode cX12_seekShows 82 = .ok (.iload_n 3, 1) := by decide +kernel
theorem dX12_seekShows_83 : decode cX12_seekShows 83 = .ok (.iconst 1, 1) := by decide +kernel
theorem dX12_seekShows_84 : decode cX12_seekShows 84 = .ok (.isub, 1) := by decide +kernel
theorem dX12_seekShows_85 : decode cX12_seekShows 85 = .ok (.iaload, 1) := by decide +kernel
theorem dX12_seekShows_86 : decode cX12_seekShows 86 = .ok (.iload 5, 2) := by decide +kernel
theorem dX12_seekShows_88 : decode cX12_seekShows 88 = .ok (.invokevirtual 424, 3) := by decide +kernel
theorem dX12_seekShows_91 : decode cX12_seekShows 91 = .ok (.ifCond .ne 9, 3) := by decide +kernel
theorem dX12_seekShows_94 : decode cX12_seekShows 94 = .ok (.iinc 5 1, 3) := by decide +kernel
theorem dX12_seekShows_97 : decode cX12_seekShows 97 = .ok (.goto (-41), 3) := by decide +kernel
theorem dX12_seekShows_100 : decode cX12_seekShows 100 = .ok (.iload 5, 2) := by decide +kernel
theorem dX12_seekShows_102 : decode cX12_seekShows 102 = .ok (.iload_n 1, 1) := by decide +kernel
theorem dX12_seekShows_103 : decode cX12_seekShows 103 = .ok (.if_icmp .ge 69, 3) := by decide +kernel
theorem dX12_seekShows_106 : decode cX12_seekShows 106 = .ok (.aload_n 0, 1) := by decide +kernel
theorem dX12_seekShows_107 : decode cX12_seekShows 107 = .ok (.getfield 59, 3) := by decide +kernel
theorem dX12_seekShows_110 : decode cX12_seekShows 110 = .ok (.iload_n 3, 1) := by decide +kernel
theorem dX12_seekShows_111 : decode cX12_seekShows 111 = .ok (.iload 5, 2) := by decide +kernel
theorem dX12_seekShows_113 : decode cX12_seekShows 113 = .ok (.iastore, 1) := by decide +kernel
theorem dX12_seekShows_114 : decode cX12_seekShows 114 = .ok (.iload 4, 2) := by decide +kernel
theorem dX12_seekShows_116 : decode cX12_seekShows 116 = .ok (.iconst 1, 1) := by decide +kernel
theorem dX12_seekShows_117 : decode cX12_seekShows 117 = .ok (.iload 5, 2) := by decide +kernel
theorem dX12_seekShows_119 : decode cX12_seekShows 119 = .ok (.ishl, 1) := by decide +kernel
theorem dX12_seekShows_120 : decode cX12_seekShows 120 = .ok (.ior, 1) := by decide +kernel
theorem dX12_seekShows_121 : decode cX12_seekShows 121 = .ok (.istore 4, 2) := by decide +kernel
theorem dX12_seekShows_123 : decode cX12_seekShows 123 = .ok (.iinc 3 1, 3) := by decide +kernel
theorem dX12_seekShows_126 : decode cX12_seekShows 126 = .ok (.aload_n 0, 1) := by decide +kernel
theorem dX12_seekShows_127 : decode cX12_seekShows 127 = .ok (.getfield 59, 3) := by decide +kernel
theorem dX12_seekShows_130 : decode cX12_seekShows 130 = .ok (.iload_n 3, 1) := by decide +kernel
theorem dX12_seekShows_131 : decode cX12_seekShows 131 = .ok (.iconst (-1), 1) := by decide +kernel
theorem dX12_seekShows_132 : decode cX12_seekShows 132 = .ok (.iastore, 1) := by decide +kernel
theorem dX12_seekShows_133 : decode cX12_seekShows 133 = .ok (.iload_n 3, 1) := by decide +kernel
theorem dX12_seekShows_134 : decode cX12_seekShows 134 = .ok (.iload_n 2, 1) := by decide +kernel
theorem dX12_seekShows_135 : decode cX12_seekShows 135 = .ok (.if_icmp .le 40, 3) := by decide +kernel
theorem dX12_seekShows_138 : decode cX12_seekShows 138 = .ok (.iload_n 3, 1) := by decide +kernel
theorem dX12_seekShows_139 : decode cX12_seekShows 139 = .ok (.istore_n 2, 1) := by decide +kernel
theorem dX12_seekShows_140 : decode cX12_seekShows 140 = .ok (.iconst 0, 1) := by decide +kernel
theorem dX12_seekShows_141 : decode cX12_seekShows 141 = .ok (.istore 6, 2) := by decide +kernel
theorem dX12_seekShows_143 : decode cX12_seekShows 143 = .ok (.iload 6, 2) := by decide +kernel
theorem dX12_seekShows_145 : decode cX12_seekShows 145 = .ok (.iload_n 3, 1) := by decide +kernel
theorem dX12_seekShows_146 : decode cX12_seekShows 146 = .ok (.if_icmp .ge 23, 3) := by decide +kernel
theorem dX12_seekShows_149 : decode cX12_seekShows 149 = .ok (.aload_n 0, 1) := by decide +kernel
theorem dX12_seekShows_150 : decode cX12_seekShows 150 = .ok (.getfield 62, 3) := by decide +kernel
theorem dX12_seekShows_153 : decode cX12_seekShows 153 = .ok (.iload 6, 2) := by decide +kernel
theorem dX12_seekShows_155 : decode cX12_seekShows 155 = .ok (.aload_n 0, 1) := by decide +kernel
theorem dX12_seekShows_156 : decode cX12_seekShows 156 = .ok (.getfield 59, 3) := by decide +kernel
theorem dX12_seekShows_159 : decode cX12_seekShows 159 = .ok (.iload 6, 2) := by decide +kernel
theorem dX12_seekShows_161 : decode cX12_seekShows 161 = .ok (.iaload, 1) := by decide +kernel
theorem dX12_seekShows_162 : decode cX12_seekShows 162 = .ok (.iastore, 1) := by decide +kernel
theorem dX12_seekShows_163 : decode cX12_seekShows 163 = .ok (.iinc 6 1, 3) := by decide +kernel
theorem dX12_seekShows_166 : decode cX12_seekShows 166 = .ok (.goto (-23), 3) := by decide +kernel
theorem dX12_seekShows_169 : decode cX12_seekShows 169 = .ok (.goto 6, 3) := by decide +kernel
theorem dX12_seekShows_172 : decode cX12_seekShows 172 = .ok (.iinc 3 (-1), 3) := by decide +kernel
theorem dX12_seekShows_175 : decode cX12_seekShows 175 = .ok (.goto (-154), 3) := by decide +kernel
theorem dX12_seekShows_178 : decode cX12_seekShows 178 = .ok (.iload_n 2, 1) := by decide +kernel
theorem dX12_seekShows_179 : decode cX12_seekShows 179 = .ok (.ireturn, 1) := by decide +kernel
theorem dX12_show_0 : decode cX12_show 0 = .ok (.aload_n 0, 1) := by decide +kernel
theorem dX12_show_1 : decode cX12_show 1 = .ok (.iconst 0, 1) := by decide +kernel
theorem dX12_show_2 : decode cX12_show 2 = .ok (.putfield 86, 3) := by decide +kernel
theorem dX12_show_5 : decode cX12_show 5 = .ok (.iload_n 1, 1) := by decide +kernel
theorem dX12_show_6 : decode cX12_show 6 = .ok (.iconst (-1), 1) := by decide +kernel
theorem dX12_show_7 : decode cX12_show 7 = .ok (.if_icmp .ge 7, 3) := by decide +kernel
theorem dX12_show_10 : decode cX12_show 10 = .ok (.ldc2_w 106, 3) := by decide +kernel
theorem dX12_show_13 : decode cX12_show 13 = .ok (.lreturn, 1) := by decide +kernel
theorem dX12_show_14 : decode cX12_show 14 = .ok (.aload_n 0, 1) := by decide +kernel
theorem dX12_show_15 : decode cX12_show 15 = .ok (.getfield 225, 3) := by decide +kernel
theorem dX12_show_18 : decode cX12_show 18 = .ok (.ifCond .ne 7, 3) := by decide +kernel
theorem dX12_show_21 : decode cX12_show 21 = .ok (.ldc2_w 326, 3) := by decide +kernel
theorem dX12_show_24 : decode cX12_show 24 = .ok (.lreturn, 1) := by decide +kernel
theorem dX12_show_25 : decode cX12_show 25 = .ok (.aload_n 0, 1) := by decide +kernel
theorem dX12_show_26 : decode cX12_show 26 = .ok (.invokevirtual 427, 3) := by decide +kernel
theorem dX12_show_29 : decode cX12_show 29 = .ok (.istore_n 2, 1) := by decide +kernel
theorem dX12_show_30 : decode cX12_show 30 = .ok (.iload_n 1, 1) := by decide +kernel
theorem dX12_show_31 : decode cX12_show 31 = .ok (.iconst (-1), 1) := by decide +kernel
theorem dX12_show_32 : decode cX12_show 32 = .ok (.if_icmp .ne 8, 3) := by decide +kernel
theorem dX12_show_35 : decode cX12_show 35 = .ok (.iload_n 2, 1) := by decide +kernel
theorem dX12_show_36 : decode cX12_show 36 = .ok (.i2l, 1) := by decide +kernel
theorem dX12_show_37 : decode cX12_show 37 = .ok (.goto 21, 3) := by decide +kernel
theorem dX12_show_40 : decode cX12_show 40 = .ok (.iload_n 1, 1) := by decide +kernel
theorem dX12_show_41 : decode cX12_show 41 = .ok (.iload_n 2, 1) := by decide +kernel
theorem dX12_show_42 : decode cX12_show 42 = .ok (.if_icmp .ge 13, 3) := by decide +kernel
theorem dX12_show_45 : decode cX12_show 45 = .ok (.aload_n 0, 1) := by decide +kernel
theorem dX12_show_46 : decode cX12_show 46 = .ok (.getfield 62, 3) := by decide +kernel
theorem dX12_show_49 : decode cX12_show 49 = .ok (.iload_n 1, 1) := by decide +kernel
theorem dX12_show_50 : decode cX12_show 50 = .ok (.iaload, 1) := by decide +kernel
theorem dX12_show_51 : decode cX12_show 51 = .ok (.i2l, 1) := by decide +kernel
theorem dX12_show_52 : decode cX12_show 52 = .ok (.goto 6, 3) := by decide +kernel
theorem dX12_show_55 : decode cX12_show 55 = .ok (.ldc2_w 346, 3) := by decide +kernel
theorem dX12_show_58 : decode cX12_show 58 = .ok (.lreturn, 1) := by decide +kernel
theorem dX12_skillBy_0 : decode cX12_skillBy 0 = .ok (.iload_n 1, 1) := by decide +kernel
theorem dX12_skillBy_1 : decode cX12_skillBy 1 = .ok (.bipush 10, 2) := by decide +kernel
theorem dX12_skillBy_3 : decode cX12_skillBy 3 = .ok (.idiv, 1) := by decide +kernel
theorem dX12_skillBy_4 : decode cX12_skillBy 4 = .ok (.aload_n 0, 1) := by decide +kernel
theorem dX12_skillBy_5 : decode cX12_skillBy 5 = .ok (.getfield 19, 3) := by decide +kernel
theorem dX12_skillBy_8 : decode cX12_skillBy 8 = .ok (.bipush 6, 2) := by decide +kernel
theorem dX12_skillBy_10 : decode cX12_skillBy 10 = .ok (.iconst 3, 1) := by decide +kernel
theorem dX12_skillBy_11 : decode cX12_skillBy 11 = .ok (.iload_n 2, 1) := by decide +kernel
theorem dX12_skillBy_12 : decode cX12_skillBy 12 = .ok (.imul, 1) := by decide +kernel
theorem dX12_skillBy_13 : decode cX12_skillBy 13 = .ok (.iadd, 1) := by decide +kernel
theorem dX12_skillBy_14 : decode cX12_skillBy 14 = .ok (.iconst 1, 1) := by decide +kernel
theorem dX12_skillBy_15 : decode cX12_skillBy 15 = .ok (.iadd, 1) := by decide +kernel
theorem dX12_skillBy_16 : decode cX12_skillBy 16 = .ok (.iaload, 1) := by decide +kernel
theorem dX12_skillBy_17 : decode cX12_skillBy 17 = .ok (.isub, 1) := by decide +kernel
theorem dX12_skillBy_18 : decode cX12_skillBy 18 = .ok (.aload_n 0, 1) := by decide +kernel
theorem dX12_skillBy_19 : decode cX12_skillBy 19 = .ok (.getfield 19, 3) := by decide +kernel
theorem dX12_skillBy_22 : decode cX12_skillBy 22 = .ok (.bipush 6, 2) := by decide +kernel
theorem dX12_skillBy_24 : decode cX12_skillBy 24 = .ok (.iconst 3, 1) := by decide +kernel
theorem dX12_skillBy_25 : decode cX12_skillBy 25 = .ok (.iload_n 2, 1) := by decide +kernel
theorem dX12_skillBy_26 : decode cX12_skillBy 26 = .ok (.imul, 1) := by decide +kernel
theorem dX12_skillBy_27 : decode cX12_skillBy 27 = .ok (.iadd, 1) := by decide +kernel
theorem dX12_skillBy_28 : decode cX12_skillBy 28 = .ok (.iaload, 1) := by decide +kernel
theorem dX12_skillBy_29 : decode cX12_skillBy 29 = .ok (.bipush 50, 2) := by decide +kernel
theorem dX12_skillBy_31 : decode cX12_skillBy 31 = .ok (.idiv, 1) := by decide +kernel
theorem dX12_skillBy_32 : decode cX12_skillBy 32 = .ok (.isub, 1) := by decide +kernel
theorem dX12_skillBy_33 : decode cX12_skillBy 33 = .ok (.istore_n 3, 1) := by decide +kernel
theorem dX12_skillBy_34 : decode cX12_skillBy 34 = .ok (.iload_n 3, 1) := by decide +kernel
theorem dX12_skillBy_35 : decode cX12_skillBy 35 = .ok (.ifCond .ge 8, 3) := by decide +kernel
theorem dX12_skillBy_38 : decode cX12_skillBy 38 = .ok (.iload_n 3, 1) := by decide +kernel
theorem dX12_skillBy_39 : decode cX12_skillBy 39 = .ok (.ineg, 1) := by decide +kernel
theorem dX12_skillBy_40 : decode cX12_skillBy 40 = .ok (.goto 4, 3) := by decide +kernel
theorem dX12_skillBy_43 : decode cX12_skillBy 43 = .ok (.iload_n 3, 1) := by decide +kernel
theorem dX12_skillBy_44 : decode cX12_skillBy 44 = .ok (.istore_n 3, 1) := by decide +kernel
theorem dX12_skillBy_45 : decode cX12_skillBy 45 = .ok (.iload_n 1, 1) := by decide +kernel
theorem dX12_skillBy_46 : decode cX12_skillBy 46 = .ok (.iload_n 3, 1) := by decide +kernel
theorem dX12_skillBy_47 : decode cX12_skillBy 47 = .ok (.bipush 10, 2) := by decide +kernel
theorem dX12_skillBy_49 : decode cX12_skillBy 49 = .ok (.if_icmp .ge 10, 3) := by decide +kernel
theorem dX12_skillBy_52 : decode cX12_skillBy 52 = .ok (.bipush 10, 2) := by decide +kernel
theorem dX12_skillBy_54 : decode cX12_skillBy 54 = .ok (.iload_n 3, 1) := by decide +kernel
theorem dX12_skillBy_55 : decode cX12_skillBy 55 = .ok (.isub, 1) := by decide +kernel
theorem dX12_skillBy_56 : decode cX12_skillBy 56 = .ok (.goto 4, 3) := by decide +kernel
theorem dX12_skillBy_59 : decode cX12_skillBy 59 = .ok (.iconst 0, 1) := by decide +kernel
theorem dX12_skillBy_60 : decode cX12_skillBy 60 = .ok (.iadd, 1) := by decide +kernel
theorem dX12_skillBy_61 : decode cX12_skillBy 61 = .ok (.istore 4, 2) := by decide +kernel
theorem dX12_skillBy_63 : decode cX12_skillBy 63 = .ok (.iload 4, 2) := by decide +kernel
theorem dX12_skillBy_65 : decode cX12_skillBy 65 = .ok (.bipush 100, 2) := by decide +kernel
theorem dX12_skillBy_67 : decode cX12_skillBy 67 = .ok (.if_icmp .le 8, 3) := by decide +kernel
theorem dX12_skillBy_70 : decode cX12_skillBy 70 = .ok (.bipush 100, 2) := by decide +kernel
theorem dX12_skillBy_72 : decode cX12_skillBy 72 = .ok (.goto 5, 3) := by decide +kernel
theorem dX12_skillBy_75 : decode cX12_skillBy 75 = .ok (.iload 4, 2) := by decide +kernel
theorem dX12_skillBy_77 : decode cX12_skillBy 77 = .ok (.ireturn, 1) := by decide +kernel
theorem dX12_learn_0 : decode cX12_learn 0 = .ok (.aload_n 0, 1) := by decide +kernel
theorem dX12_learn_1 : decode cX12_learn 1 = .ok (.iconst 0, 1) := by decide +kernel
theorem dX12_learn_2 : decode cX12_learn 2 = .ok (.putfield 86, 3) := by decide +kernel
theorem dX12_learn_5 : decode cX12_learn 5 = .ok (.iload_n 1, 1) := by decide +kernel
theorem dX12_learn_6 : decode cX12_learn 6 = .ok (.i2l, 1) := by decide +kernel
theorem dX12_learn_7 : decode cX12_learn 7 = .ok (.lconst 0, 1) := by decide +kernel
theorem dX12_learn_8 : decode cX12_learn 8 = .ok (.ldc2_w 430, 3) := by decide +kernel
theorem dX12_learn_11 : decode cX12_learn 11 = .ok (.invokestatic 96, 3) := by decide +kernel
theorem dX12_learn_14 : decode cX12_learn 14 = .ok (.ifCond .eq 25, 3) := by decide +kernel
theorem dX12_learn_17 : decode cX12_learn 17 = .ok (.iload_n 2, 1) := by decide +kernel
theorem dX12_learn_18 : decode cX12_learn 18 = .ok (.i2l, 1) := by decide +kernel
theorem dX12_learn_19 : decode cX12_learn 19 = .ok (.lconst 0, 1) := by decide +kernel
theorem dX12_learn_20 : decode cX12_learn 20 = .ok (.ldc2_w 430, 3) := by decide +kernel
theorem dX12_learn_23 : decode cX12_learn 23 = .ok (.invokestatic 96, 3) := by decide +kernel
theorem dX12_learn_26 : decode cX12_learn 26 = .ok (.ifCond .eq 13, 3) := by decide +kernel
theorem dX12_learn_29 : decode cX12_learn 29 = .ok (.iload_n 3, 1) := by decide +kernel
theorem dX12_learn_30 : decode cX12_learn 30 = .ok (.i2l, 1) := by decide +kernel
theorem dX12_learn_31 : decode cX12_learn 31 = .ok (.lconst 0, 1) := by decide +kernel
theorem dX12_learn_32 : decode cX12_learn 32 = .ok (.lconst 1, 1) := by decide +kernel
theorem dX12_learn_33 : decode cX12_learn 33 = .ok (.invokestatic 96, 3) := by decide +kernel
theorem dX12_learn_36 : decode cX12_learn 36 = .ok (.ifCond .ne 7, 3) := by decide +kernel
theorem dX12_learn_39 : decode cX12_learn 39 = .ok (.ldc2_w 106, 3) := by decide +kernel
theorem dX12_learn_42 : decode cX12_learn 42 = .ok (.lreturn, 1) := by decide +kernel
theorem dX12_learn_43 : decode cX12_learn 43 = .ok (.aload_n 0, 1) := by decide +kernel
theorem dX12_learn_44 : decode cX12_learn 44 = .ok (.getfield 225, 3) := by decide +kernel
theorem dX12_learn_47 : decode cX12_learn 47 = .ok (.ifCond .ne 7, 3) := by decide +kernel
theorem dX12_learn_50 : decode cX12_learn 50 = .ok (.ldc2_w 326, 3) := by decide +kernel
theorem dX12_learn_53 : decode cX12_learn 53 = .ok (.lreturn, 1) := by decide +kernel
theorem dX12_learn_54 : decode cX12_learn 54 = .ok (.bipush 100, 2) := by decide +kernel
theorem dX12_learn_56 : decode cX12_learn 56 = .ok (.istore 4, 2) := by decide +kernel
theorem dX12_learn_58 : decode cX12_learn 58 = .ok (.iload 4, 2) := by decide +kernel
theorem dX12_learn_60 : decode cX12_learn 60 = .ok (.ifCond .lt 117, 3) := by decide +kernel
theorem dX12_learn_63 : decode cX12_learn 63 = .ok (.aload_n 0, 1) := by decide +kernel
theorem dX12_learn_64 : decode cX12_learn 64 = .ok (.getfield 65, 3) := by decide +kernel
theorem dX12_learn_67 : decode cX12_learn 67 = .ok (.iload 4, 2) := by decide +kernel
theorem dX12_learn_69 : decode cX12_learn 69 = .ok (.iload 4, 2) := by decide +kernel
theorem dX12_learn_71 : decode cX12_learn 71 = .ok (.iload_n 2, 1) := by decide +kernel
theorem dX12_learn_72 : decode cX12_learn 72 = .ok (.if_icmp .lt 7, 3) := by decide +kernel
theorem dX12_learn_75 : decode cX12_learn 75 = .ok (.iconst 0, 1) := by decide +kernel
theorem dX12_learn_76 : decode cX12_learn 76 = .ok (.goto 6, 3) := by decide +kernel
theorem dX12_learn_79 : decode cX12_learn 79 = .ok (.sipush 1000, 3) := by decide +kernel
theorem dX12_learn_82 : decode cX12_learn 82 = .ok (.iastore, 1) := by decide +kernel
theorem dX12_learn_83 : decode cX12_learn 83 = .ok (.iconst 0, 1) := by decide +kernel
theorem dX12_learn_84 : decode cX12_learn 84 = .ok (.istore 5, 2) := by decide +kernel
theorem dX12_learn_86 : decode cX12_learn 86 = .ok (.iload 5, 2) := by decide +kernel
theorem dX12_learn_88 : decode cX12_learn 88 = .ok (.aload_n 0, 1) := by decide +kernel
theorem dX12_learn_89 : decode cX12_learn 89 = .ok (.getfield 19, 3) := by decide +kernel
theorem dX12_learn_92 : decode cX12_learn 92 = .ok (.iconst 0, 1) := by decide +kernel
theorem dX12_learn_93 : decode cX12_learn 93 = .ok (.iaload, 1) := by decide +kernel
theorem dX12_learn_94 : decode cX12_learn 94 = .ok (.if_icmp .ge 77, 3) := by decide +kernel
theorem dX12_learn_97 : decode cX12_learn 97 = .ok (.iload 4, 2) := by decide +kernel
theorem dX12_learn_99 : decode cX12_learn 99 = .ok (.iload_n 2, 1) := by decide +kernel
theorem dX12_learn_100 : decode cX12_learn 100 = .ok (.if_icmp .ge 71, 3) := by decide +kernel
theorem dX12_learn_103 : decode cX12_learn 103 = .ok (.aload_n 0, 1) := by decide +kernel
theorem dX12_learn_104 : decode cX12_learn 104 = .ok (.iload 4, 2) := by decide +kernel
theorem dX12_learn_106 : decode cX12_learn 106 = .ok (.iload 5, 2) := by decide +kernel
theorem dX12_learn_108 : decode cX12_learn 108 = .ok (.invokevirtual 432, 3) := by decide +kernel
theorem dX12_learn_111 : decode cX12_learn 111 = .ok (.istore 6, 2) := by decide +kernel
theorem dX12_learn_113 : decode cX12_learn 113 = .ok (.aload_n 0, 1) := by decide +kernel
theorem dX12_learn_114 : decode cX12_learn 114 = .ok (.getfield 65, 3) := by decide +kernel
theorem dX12_learn_117 : decode cX12_learn 117 = .ok (.iload 4, 2) := by decide +kernel
theorem dX12_learn_119 : decode cX12_learn 119 = .ok (.iload 6, 2) := by decide +kernel
theorem dX12_learn_121 : decode cX12_learn 121 = .ok (.iload 4, 2) := by decide +kernel
theorem dX12_learn_123 : decode cX12_learn 123 = .ok (.if_icmp .le 34, 3) := by decide +kernel
theorem dX12_learn_126 : decode cX12_learn 126 = .ok (.aload_n 0, 1) := by decide +kernel
theorem dX12_learn_127 : decode cX12_learn 127 = .ok (.getfield 65, 3) := by decide +kernel
theorem dX12_learn_130 : decode cX12_learn 130 = .ok (.iload 6, 2) := by decide +kernel
theorem dX12_learn_132 : decode cX12_learn 132 = .ok (.iaload, 1) := by decide +kernel
theorem dX12_learn_133 : decode cX12_learn 133 = .ok (.iconst 1, 1) := by decide +kernel
theorem dX12_learn_134 : decode cX12_learn 134 = .ok (.iadd, 1) := by decide +kernel
theorem dX12_learn_135 : decode cX12_learn 135 = .ok (.aload_n 0, 1) := by decide +kernel
theorem dX12_learn_136 : decode cX12_learn 136 = .ok (.getfield 65, 3) := by decide +kernel
theorem dX12_learn_139 : decode cX12_learn 139 = .ok (.iload 4, 2) := by decide +kernel
theorem dX12_learn_141 : decode cX12_learn 141 = .ok (.iaload, 1) := by decide +kernel
theorem dX12_learn_142 : decode cX12_learn 142 = .ok (.if_icmp .ge 15, 3) := by decide +kernel
theorem dX12_learn_145 : decode cX12_learn 145 = .ok (.aload_n 0, 1) := by decide +kernel
theorem dX12_learn_146 : decode cX12_learn 146 = .ok (.getfield 65, 3) := by decide +kernel
theorem dX12_learn_149 : decode cX12_learn 149 = .ok (.iload 6, 2) := by decide +kernel
theorem dX12_learn_151 : decode cX12_learn 151 = .ok (.iaload, 1) := by decide +kernel
theorem dX12_learn_152 : decode cX12_learn 152 = .ok (.iconst 1, 1) := by decide +kernel
theorem dX12_learn_153 : decode cX12_learn 153 = .ok (.iadd, 1) := by decide +kernel
theorem dX12_learn_154 : decode cX12_learn 154 = .ok (.goto 10, 3) := by decide +kernel
theorem dX12_learn_157 : decode cX12_learn 157 = .ok (.aload_n 0, 1) := by decide +kernel
theorem dX12_learn_158 : decode cX12_learn 158 = .ok (.getfield 65, 3) := by decide +kernel
theorem dX12_learn_161 : decode cX12_learn 161 = .ok (.iload 4, 2) := by decide +kernel
theorem dX12_learn_163 : decode cX12_learn 163 = .ok (.iaload, 1) := by decide +kernel
theorem dX12_learn_164 : decode cX12_learn 164 = .ok (.iastore, 1) := by decide +kernel
theorem dX12_learn_165 : decode cX12_learn 165 = .ok (.iinc 5 1, 3) := by decide +kernel
theorem dX12_learn_168 : decode cX12_learn 168 = .ok (.goto (-82), 3) := by decide +kernel
theorem dX12_learn_171 : decode cX12_learn 171 = .ok (.iinc 4 (-1), 3) := by decide +kernel
theorem dX12_learn_174 : decode cX12_learn 174 = .ok (.goto (-116), 3) := by decide +kernel
theorem dX12_learn_177 : decode cX12_learn 177 = .ok (.aload_n 0, 1) := by decide +kernel
theorem dX12_learn_178 : decode cX12_learn 178 = .ok (.getfield 65, 3) := by decide +kernel
theorem dX12_learn_181 : decode cX12_learn 181 = .ok (.iload_n 1, 1) := by decide +kernel
theorem dX12_learn_182 : decode cX12_learn 182 = .ok (.iaload, 1) := by decide +kernel
theorem dX12_learn_183 : decode cX12_learn 183 = .ok (.istore 4, 2) := by decide +kernel
theorem dX12_learn_185 : decode cX12_learn 185 = .ok (.iload 4, 2) := by decide +kernel
theorem dX12_learn_187 : decode cX12_learn 187 = .ok (.bipush 30, 2) := by decide +kernel
theorem dX12_learn_189 : decode cX12_learn 189 = .ok (.if_icmp .le 7, 3) := by decide +kernel
theorem dX12_learn_192 : decode cX12_learn 192 = .ok (.ldc2_w 346, 3) := by decide +kernel
theorem dX12_learn_195 : decode cX12_learn 195 = .ok (.lreturn, 1) := by decide +kernel
theorem dX12_learn_196 : decode cX12_learn 196 = .ok (.iload_n 3, 1) := by decide +kernel
theorem dX12_learn_197 : decode cX12_learn 197 = .ok (.ifCond .ne 7, 3) := by decide +kernel
theorem dX12_learn_200 : decode cX12_learn 200 = .ok (.iload 4, 2) := by decide +kernel
theorem dX12_learn_202 : decode cX12_learn 202 = .ok (.i2l, 1) := by decide +kernel
theorem dX12_learn_203 : decode cX12_learn 203 = .ok (.lreturn, 1) := by decide +kernel
theorem dX12_learn_204 : decode cX12_learn 204 = .ok (.iconst 0, 1) := by decide +kernel
theorem dX12_learn_205 : decode cX12_learn 205 = .ok (.istore 5, 2) := by decide +kernel
theorem dX12_learn_207 : decode cX12_learn 207 = .ok (.iload 5, 2) := by decide +kernel
theorem dX12_learn_209 : decode cX12_learn 209 = .ok (.aload_n 0, 1) := by decide +kernel
theorem dX12_learn_210 : decode cX12_learn 210 = .ok (.getfield 19, 3) := by decide +kernel
theorem dX12_learn_213 : decode cX12_learn 213 = .ok (.iconst 0, 1) := by decide +kernel
theorem dX12_learn_214 : decode cX12_learn 214 = .ok (.iaload, 1) := by decide +kernel
theorem dX12_learn_215 : decode cX12_learn 215 = .ok (.if_icmp .ge 47, 3) := by decide +kernel
theorem dX12_learn_218 : decode cX12_learn 218 = .ok (.iload 4, 2) := by decide +kernel
theorem dX12_learn_220 : decode cX12_learn 220 = .ok (.ifCond .le 42, 3) := by decide +kernel
theorem dX12_learn_223 : decode cX12_learn 223 = .ok (.aload_n 0, 1) := by decide +kernel
theorem dX12_learn_224 : decode cX12_learn 224 = .ok (.iload_n 1, 1) := by decide +kernel
theorem dX12_learn_225 : decode cX12_learn 225 = .ok (.iload 5, 2) := by decide +kernel
theorem dX12_learn_227 : decode cX12_learn 227 = .ok (.invokevirtual 432, 3) := by decide +kernel
theorem dX12_learn_230 : decode cX12_learn 230 = .ok (.istore 6, 2) := by decide +kernel
theorem dX12_learn_232 : decode cX12_learn 232 = .ok (.iload 6, 2) := by decide +kernel
theorem dX12_learn_234 : decode cX12_learn 234 = .ok (.iload_n 1, 1) := by decide +kernel
theorem dX12_learn_235 : decode cX12_learn 235 = .ok (.if_icmp .le 21, 3) := by decide +kernel
theorem dX12_learn_238 : decode cX12_learn 238 = .ok (.aload_n 0, 1) := by decide +kernel
theorem dX12_learn_239 : decode cX12_learn 239 = .ok (.getfield 65, 3) := by decide +kernel
theorem dX12_learn_242 : decode cX12_learn 242 = .ok (.iload 6, 2) := by decide +kernel
theorem dX12_learn_244 : decode cX12_learn 244 = .ok (.iaload, 1) := by decide +kernel
theorem dX12_learn_245 : decode cX12_learn 245 = .ok (.iconst 1, 1) := by decide +kernel
theorem dX12_learn_246 : decode cX12_learn 246 = .ok (.iadd, 1) := by decide +kernel
theorem dX12_learn_247 : decode cX12_learn 247 = .ok (.iload 4, 2) := by decide +kernel
theorem dX12_learn_249 : decode cX12_learn 249 = .ok (.if_icmp .ne 7, 3) := by decide +kernel
theorem dX12_learn_252 : decode cX12_learn 252 = .ok (.iload 5, 2) := by decide +kernel
theorem dX12_learn_254 : decode cX12_learn 254 = .ok (.i2l, 1) := by decide +kernel
theorem dX12_learn_255 : decode cX12_learn 255 = .ok (.lreturn, 1) := by decide +kernel
theorem dX12_learn_256 : decode cX12_learn 256 = .ok (.iinc 5 1, 3) := by decide +kernel
theorem dX12_learn_259 : decode cX12_learn 259 = .ok (.goto (-52), 3) := by decide +kernel
theorem dX12_learn_262 : decode cX12_learn 262 = .ok (.ldc2_w 346, 3) := by decide +kernel
theorem dX12_learn_265 : decode cX12_learn 265 = .ok (.lreturn, 1) := by decide +kernel
theorem dX12_film_0 : decode cX12_film 0 = .ok (.aload_n 0, 1) := by decide +kernel
theorem dX12_film_1 : decode cX12_film 1 = .ok (.iconst 0, 1) := by decide +kernel
theorem dX12_film_2 : decode cX12_film 2 = .ok (.putfield 86, 3) := by decide +kernel
theorem dX12_film_5 : decode cX12_film 5 = .ok (.iload_n 1, 1) := by decide +kernel
theorem dX12_film_6 : decode cX12_film 6 = .ok (.invokestatic 100, 3) := by decide +kernel
theorem dX12_film_9 : decode cX12_film 9 = .ok (.ifCond .eq 15, 3) := by decide +kernel
theorem dX12_film_12 : decode cX12_film 12 = .ok (.iload_n 3, 1) := by decide +kernel
theorem dX12_film_13 : decode cX12_film 13 = .ok (.i2l, 1) := by decide +kernel
theorem dX12_film_14 : decode cX12_film 14 = .ok (.lconst 1, 1) := by decide +kernel
theorem dX12_film_15 : decode cX12_film 15 = .ok (.ldc2_w 435, 3) := by decide +kernel
theorem dX12_film_18 : decode cX12_film 18 = .ok (.invokestatic 96, 3) := by decide +kernel
theorem dX12_film_21 : decode cX12_film 21 = .ok (.ifCond .ne 7, 3) := by decide +kernel
theorem dX12_film_24 : decode cX12_film 24 = .ok (.ldc2_w 106, 3) := by decide +kernel
theorem dX12_film_27 : decode cX12_film 27 = .ok (.lreturn, 1) := by decide +kernel
theorem dX12_film_28 : decode cX12_film 28 = .ok (.aload_n 0, 1) := by decide +kernel
theorem dX12_film_29 : decode cX12_film 29 = .ok (.getfield 225, 3) := by decide +kernel
theorem dX12_film_32 : decode cX12_film 32 = .ok (.ifCond .ne 7, 3) := by decide +kernel
theorem dX12_film_35 : decode cX12_film 35 = .ok (.ldc2_w 326, 3) := by decide +kernel
theorem dX12_film_38 : decode cX12_film 38 = .ok (.lreturn, 1) := by decide +kernel
theorem dX12_film_39 : decode cX12_film 39 = .ok (.aload_n 0, 1) := by decide +kernel
theorem dX12_film_40 : decode cX12_film 40 = .ok (.getfield 9, 3) := by decide +kernel
theorem dX12_film_43 : decode cX12_film 43 = .ok (.iload_n 1, 1) := by decide +kernel
theorem dX12_film_44 : decode cX12_film 44 = .ok (.iaload, 1) := by decide +kernel
theorem dX12_film_45 : decode cX12_film 45 = .ok (.ifCond .ge 9, 3) := by decide +kernel
theorem dX12_film_48 : decode cX12_film 48 = .ok (.aload_n 0, 1) := by decide +kernel
theorem dX12_film_49 : decode cX12_film 49 = .ok (.iconst 1, 1) := by decide +kernel
theorem dX12_film_50 : decode cX12_film 50 = .ok (.invokevirtual 108, 3) := by decide +kernel
theorem dX12_film_53 : decode cX12_film 53 = .ok (.lreturn, 1) := by decide +kernel
theorem dX12_film_54 : decode cX12_film 54 = .ok (.iload_n 2, 1) := by decide +kernel
theorem dX12_film_55 : decode cX12_film 55 = .ok (.ifCond .lt 19, 3) := by decide +kernel
theorem dX12_film_58 : decode cX12_film 58 = .ok (.iload_n 2, 1) := by decide +kernel
theorem dX12_film_59 : decode cX12_film 59 = .ok (.i2l, 1) := by decide +kernel
theorem dX12_film_60 : decode cX12_film 60 = .ok (.iload_n 3, 1) := by decide +kernel
theorem dX12_film_61 : decode cX12_film 61 = .ok (.i2l, 1) := by decide +kernel
theorem dX12_film_62 : decode cX12_film 62 = .ok (.ladd, 1) := by decide +kernel
theorem dX12_film_63 : decode cX12_film 63 = .ok (.aload_n 0, 1) := by decide +kernel
theorem dX12_film_64 : decode cX12_film 64 = .ok (.getfield 13, 3) := by decide +kernel
theorem dX12_film_67 : decode cX12_film 67 = .ok (.iload_n 1, 1) := by decide +kernel
theorem dX12_film_68 : decode cX12_film 68 = .ok (.iaload, 1) := by decide +kernel
theorem dX12_film_69 : decode cX12_film 69 = .ok (.i2l, 1) := by decide +kernel
theorem dX12_film_70 : decode cX12_film 70 = .ok (.lcmp, 1) := by decide +kernel
theorem dX12_film_71 : decode cX12_film 71 = .ok (.ifCond .le 9, 3) := by decide +kernel
theorem dX12_film_74 : decode cX12_film 74 = .ok (.aload_n 0, 1) := by decide +kernel
theorem dX12_film_75 : decode cX12_film 75 = .ok (.iconst 2, 1) := by decide +kernel
theorem dX12_film_76 : decode cX12_film 76 = .ok (.invokevirtual 108, 3) := by decide +kernel
theorem dX12_film_79 : decode cX12_film 79 = .ok (.lreturn, 1) := by decide +kernel
theorem dX12_film_80 : decode cX12_film 80 = .ok (.aload_n 0, 1) := by decide +kernel
theorem dX12_film_81 : decode cX12_film 81 = .ok (.iconst 0, 1) := by decide +kernel
theorem dX12_film_82 : decode cX12_film 82 = .ok (.putfield 89, 3) := by decide +kernel
theorem dX12_film_85 : decode cX12_film 85 = .ok (.iconst 0, 1) := by decide +kernel
theorem dX12_film_86 : decode cX12_film 86 = .ok (.istore 4, 2) := by decide +kernel
theorem dX12_film_88 : decode cX12_film 88 = .ok (.iconst 0, 1) := by decide +kernel
theorem dX12_film_89 : decode cX12_film 89 = .ok (.istore 5, 2) := by decide +kernel
theorem dX12_film_91 : decode cX12_film 91 = .ok (.iload 5, 2) := by decide +kernel
theorem dX12_film_93 : decode cX12_film 93 = .ok (.bipush 9, 2) := by decide +kernel
theorem dX12_film_95 : decode cX12_film 95 = .ok (.if_icmp .ge 108, 3) := by decide +kernel
theorem dX12_film_98 : decode cX12_film 98 = .ok (.aload_n 0, 1) := by decide +kernel
theorem dX12_film_99 : decode cX12_film 99 = .ok (.invokevirtual 232, 3) := by decide +kernel
theorem dX12_film_102 : decode cX12_film 102 = .ok (.iconst 1, 1) := by decide +kernel
theorem dX12_film_103 : decode cX12_film 103 = .ok (.istore 6, 2) := by decide +kernel
theorem dX12_film_105 : decode cX12_film 105 = .ok (.iconst 0, 1) := by decide +kernel
theorem dX12_film_106 : decode cX12_film 106 = .ok (.istore 7, 2) := by decide +kernel
theorem dX12_film_108 : decode cX12_film 108 = .ok (.iload 7, 2) := by decide +kernel
theorem dX12_film_110 : decode cX12_film 110 = .ok (.iload_n 3, 1) := by decide +kernel
theorem dX12_film_111 : decode cX12_film 111 = .ok (.if_icmp .ge 68, 3) := by decide +kernel
theorem dX12_film_114 : decode cX12_film 114 = .ok (.iload 6, 2) := by decide +kernel
theorem dX12_film_116 : decode cX12_film 116 = .ok (.ifCond .eq 63, 3) := by decide +kernel
theorem dX12_film_119 : decode cX12_film 119 = .ok (.aload_n 0, 1) := by decide +kernel
theorem dX12_film_120 : decode cX12_film 120 = .ok (.invokevirtual 286, 3) := by decide +kernel
theorem dX12_film_123 : decode cX12_film 123 = .ok (.ifCond .ne 22, 3) := by decide +kernel
theorem dX12_film_126 : decode cX12_film 126 = .ok (.aload_n 0, 1) := by decide +kernel
theorem dX12_film_127 : decode cX12_film 127 = .ok (.iconst 0, 1) := by decide +kernel
theorem dX12_film_128 : decode cX12_film 128 = .ok (.iload 5, 2) := by decide +kernel
theorem dX12_film_130 : decode cX12_film 130 = .ok (.iconst 3, 1) := by decide +kernel
theorem dX12_film_131 : decode cX12_film 131 = .ok (.idiv, 1) := by decide +kernel
theorem dX12_film_132 : decode cX12_film 132 = .ok (.iconst 1, 1) := by decide +kernel
theorem dX12_film_133 : decode cX12_film 133 = .ok (.iadd, 1) := by decide +kernel
theorem dX12_film_134 : decode cX12_film 134 = .ok (.iconst 4, 1) := by decide +kernel
theorem dX12_film_135 : decode cX12_film 135 = .ok (.iload 5, 2) := by decide +kernel
theorem dX12_film_137 : decode cX12_film 137 = .ok (.iconst 3, 1) := by decide +kernel
theorem dX12_film_138 : decode cX12_film 138 = .ok (.irem, 1) := by decide +kernel
theorem dX12_film_139 : decode cX12_film 139 = .ok (.imul, 1) := by decide +kernel
theorem dX12_film_140 : decode cX12_film 140 = .ok (.ldc 28, 2) := by decide +kernel
theorem dX12_film_142 : decode cX12_film 142 = .ok (.invokevirtual 328, 3) := by decide +kernel
theorem dX12_film_145 : decode cX12_film 145 = .ok (.aload_n 0, 1) := by decide +kernel
theorem dX12_film_146 : decode cX12_film 146 = .ok (.getfield 247, 3) := by decide +kernel
theorem dX12_film_149 : decode cX12_film 149 = .ok (.aload_n 0, 1) := by decide +kernel
theorem dX12_film_150 : decode cX12_film 150 = .ok (.getfield 16, 3) := by decide +kernel
theorem dX12_film_153 : decode cX12_film 153 = .ok (.bipush 40, 2) := by decide +kernel
theorem dX12_film_155 : decode cX12_film 155 = .ok (.iload_n 1, 1) := by decide +kernel
theorem dX12_film_156 : decode cX12_film 156 = .ok (.imul, 1) := by decide +kernel
theorem dX12_film_157 : decode cX12_film 157 = .ok (.iload_n 2, 1) := by decide +kernel
theorem dX12_film_158 : decode cX12_film 158 = .ok (.iadd, 1) := by decide +kernel
theorem dX12_film_159 : decode cX12_film 159 = .ok (.iload 7, 2) := by decide +kernel
theorem dX12_film_161 : decode cX12_film 161 = .ok (.iadd, 1) := by decide +kernel
theorem dX12_film_162 : decode cX12_film 162 = .ok (.iaload, 1) := by decide +kernel
theorem dX12_film_163 : decode cX12_film 163 = .ok (.if_icmp .ne 7, 3) := by decide +kernel
theorem dX12_film_166 : decode cX12_film 166 = .ok (.iconst 1, 1) := by decide +kernel
theorem dX12_film_167 : decode cX12_film 167 = .ok (.goto 4, 3) := by decide +kernel
theorem dX12_film_170 : decode cX12_film 170 = .ok (.iconst 0, 1) := by decide +kernel
theorem dX12_film_171 : decode cX12_film 171 = .ok (.istore 6, 2) := by decide +kernel
theorem dX12_film_173 : decode cX12_film 173 = .ok (.iinc 7 1, 3) := by decide +kernel
theorem dX12_film_176 : decode cX12_film 176 = .ok (.goto (-68), 3) := by decide +kernel
theorem dX12_film_179 : decode cX12_film 179 = .ok (.iload 4, 2) := by decide +kernel
theorem dX12_film_181 : decode cX12_film 181 = .ok (.iload 6, 2) := by decide +kernel
theorem dX12_film_183 : decode cX12_film 183 = .ok (.ifCond .eq 10, 3) := by decide +kernel
theorem dX12_film_186 : decode cX12_film 186 = .ok (.iconst 1, 1) := by decide +kernel
theorem dX12_film_187 : decode cX12_film 187 = .ok (.iload 5, 2) := by decide +kernel
theorem dX12_film_189 : decode cX12_film 189 = .ok (.ishl, 1) := by decide +kernel
theorem dX12_film_190 : decode cX12_film 190 = .ok (.goto 4, 3) := by decide +kernel
theorem dX12_film_193 : decode cX12_film 193 = .ok (.iconst 0, 1) := by decide +kernel
theorem dX12_film_194 : decode cX12_film 194 = .ok (.ior, 1) := by decide +kernel
theorem dX12_film_195 : decode cX12_film 195 = .ok (.istore 4, 2) := by decide +kernel
theorem dX12_film_197 : decode cX12_film 197 = .ok (.iinc 5 1, 3) := by decide +kernel
theorem dX12_film_200 : decode cX12_film 200 = .ok (.goto (-109), 3) := by decide +kernel
theorem dX12_film_203 : decode cX12_film 203 = .ok (.iload 4, 2) := by decide +kernel
theorem dX12_film_205 : decode cX12_film 205 = .ok (.i2l, 1) := by decide +kernel
theorem dX12_film_206 : decode cX12_film 206 = .ok (.lreturn, 1) := by decide +kernel
theorem dX12_image_0 : decode cX12_image 0 = .ok (.aload_n 0, 1) := by decide +kernel
theorem dX12_image_1 : decode cX12_image 1 = .ok (.iconst 0, 1) := by decide +kernel
theorem dX12_image_2 : decode cX12_image 2 = .ok (.putfield 86, 3) := by decide +kernel
theorem dX12_image_5 : decode cX12_image 5 = .ok (.iload_n 1, 1) := by decide +kernel
theorem dX12_image_6 : decode cX12_image 6 = .ok (.i2l, 1) := by decide +kernel
theorem dX12_image_7 : decode cX12_image 7 = .ok (.lconst 0, 1) := by decide +kernel
theorem dX12_image_8 : decode cX12_image 8 = .ok (.lconst 1, 1) := by decide +kernel
theorem dX12_image_9 : decode cX12_image 9 = .ok (.invokestatic 96, 3) := by decide +kernel
theorem dX12_image_12 : decode cX12_image 12 = .ok (.ifCond .ne 7, 3) := by decide +kernel
theorem dX12_image_15 : decode cX12_image 15 = .ok (.ldc2_w 106, 3) := by decide +kernel
theorem dX12_image_18 : decode cX12_image 18 = .ok (.lreturn, 1) := by decide +kernel
theorem dX12_image_19 : decode cX12_image 19 = .ok (.aload_n 0, 1) := by decide +kernel
theorem dX12_image_20 : decode cX12_image 20 = .ok (.getfield 225, 3) := by decide +kernel
theorem dX12_image_23 : decode cX12_image 23 = .ok (.ifCond .ne 7, 3) := by decide +kernel
theorem dX12_image_26 : decode cX12_image 26 = .ok (.ldc2_w 326, 3) := by decide +kernel
theorem dX12_image_29 : decode cX12_image 29 = .ok (.lreturn, 1) := by decide +kernel
theorem dX12_image_30 : decode cX12_image 30 = .ok (.iconst 0, 1) := by decide +kernel
theorem dX12_image_31 : decode cX12_image 31 = .ok (.istore_n 2, 1) := by decide +kernel
theorem dX12_image_32 : decode cX12_image 32 = .ok (.iload_n 2, 1) := by decide +kernel
theorem dX12_image_33 : decode cX12_image 33 = .ok (.sipush 172, 3) := by decide +kernel
theorem dX12_image_36 : decode cX12_image 36 = .ok (.if_icmp .ge 27, 3) := by decide +kernel
theorem dX12_image_39 : decode cX12_image 39 = .ok (.aload_n 0, 1) := by decide +kernel
theorem dX12_image_40 : decode cX12_image 40 = .ok (.getfield 71, 3) := by decide +kernel
theorem dX12_image_43 : decode cX12_image 43 = .ok (.sipush 172, 3) := by decide +kernel
theorem dX12_image_46 : decode cX12_image 46 = .ok (.iload_n 1, 1) := by decide +kernel
theorem dX12_image_47 : decode cX12_image 47 = .ok (.imul, 1) := by decide +kernel
theorem dX12_image_48 : decode cX12_image 48 = .ok (.iload_n 2, 1) := by decide +kernel
theorem dX12_image_49 : decode cX12_image 49 = .ok (.iadd, 1) := by decide +kernel
theorem dX12_image_50 : decode cX12_image 50 = .ok (.aload_n 0, 1) := by decide +kernel
theorem dX12_image_51 : decode cX12_image 51 = .ok (.getfield 19, 3) := by decide +kernel
theorem dX12_image_54 : decode cX12_image 54 = .ok (.iload_n 2, 1) := by decide +kernel
theorem dX12_image_55 : decode cX12_image 55 = .ok (.iaload, 1) := by decide +kernel
theorem dX12_image_56 : decode cX12_image 56 = .ok (.iastore, 1) := by decide +kernel
theorem dX12_image_57 : decode cX12_image 57 = .ok (.iinc 2 1, 3) := by decide +kernel
theorem dX12_image_60 : decode cX12_image 60 = .ok (.goto (-28), 3) := by decide +kernel
theorem dX12_image_63 : decode cX12_image 63 = .ok (.iconst 0, 1) := by decide +kernel
theorem dX12_image_64 : decode cX12_image 64 = .ok (.istore_n 2, 1) := by decide +kernel
theorem dX12_image_65 : decode cX12_image 65 = .ok (.iload_n 2, 1) := by decide +kernel
theorem dX12_image_66 : decode cX12_image 66 = .ok (.bipush 7, 2) := by decide +kernel
theorem dX12_image_68 : decode cX12_image 68 = .ok (.if_icmp .ge 26, 3) := by decide +kernel
theorem dX12_image_71 : decode cX12_image 71 = .ok (.aload_n 0, 1) := by decide +kernel
theorem dX12_image_72 : decode cX12_image 72 = .ok (.getfield 74, 3) := by decide +kernel
theorem dX12_image_75 : decode cX12_image 75 = .ok (.bipush 7, 2) := by decide +kernel
theorem dX12_image_77 : decode cX12_image 77 = .ok (.iload_n 1, 1) := by decide +kernel
theorem dX12_image_78 : decode cX12_image 78 = .ok (.imul, 1) := by decide +kernel
theorem dX12_image_79 : decode cX12_image 79 = .ok (.iload_n 2, 1) := by decide +kernel
theorem dX12_image_80 : decode cX12_image 80 = .ok (.iadd, 1) := by decide +kernel
theorem dX12_image_81 : decode cX12_image 81 = .ok (.aload_n 0, 1) := by decide +kernel
theorem dX12_image_82 : decode cX12_image 82 = .ok (.getfield 33, 3) := by decide +kernel
theorem dX12_image_85 : decode cX12_image 85 = .ok (.iload_n 2, 1) := by decide +kernel
theorem dX12_image_86 : decode cX12_image 86 = .ok (.iaload, 1) := by decide +kernel
theorem dX12_image_87 : decode cX12_image 87 = .ok (.iastore, 1) := by decide +kernel
theorem dX12_image_88 : decode cX12_image 88 = .ok (.iinc 2 1, 3) := by decide +kernel
theorem dX12_image_91 : decode cX12_image 91 = .ok (.goto (-26), 3) := by decide +kernel
theorem dX12_image_94 : decode cX12_image 94 = .ok (.aload_n 0, 1) := by decide +kernel
theorem dX12_image_95 : decode cX12_image 95 = .ok (.getfield 77, 3) := by decide +kernel
theorem dX12_image_98 : decode cX12_image 98 = .ok (.iload_n 1, 1) := by decide +kernel
theorem dX12_image_99 : decode cX12_image 99 = .ok (.aload_n 0, 1) := by decide +kernel
theorem dX12_image_100 : decode cX12_image 100 = .ok (.getfield 229, 3) := by decide +kernel
theorem dX12_image_103 : decode cX12_image 103 = .ok (.iastore, 1) := by decide +kernel
theorem dX12_image_104 : decode cX12_image 104 = .ok (.aload_n 0, 1) := by decide +kernel
theorem dX12_image_105 : decode cX12_image 105 = .ok (.getfield 80, 3) := by decide +kernel
theorem dX12_image_108 : decode cX12_image 108 = .ok (.iload_n 1, 1) := by decide +kernel
theorem dX12_image_109 : decode cX12_image 109 = .ok (.aload_n 0, 1) := by decide +kernel
theorem dX12_image_110 : decode cX12_image 110 = .ok (.getfield 29, 3) := by decide +kernel
theorem dX12_image_113 : decode cX12_image 113 = .ok (.iastore, 1) := by decide +kernel
theorem dX12_image_114 : decode cX12_image 114 = .ok (.aload_n 0, 1) := by decide +kernel
theorem dX12_image_115 : decode cX12_image 115 = .ok (.getfield 68, 3) := by decide +kernel
theorem dX12_image_118 : decode cX12_image 118 = .ok (.iload_n 1, 1) := by decide +kernel
theorem dX12_image_119 : decode cX12_image 119 = .ok (.iconst 1, 1) := by decide +kernel
theorem dX12_image_120 : decode cX12_image 120 = .ok (.bastore, 1) := by decide +kernel
theorem dX12_image_121 : decode cX12_image 121 = .ok (.lconst 1, 1) := by decide +kernel
theorem dX12_image_122 : decode cX12_image 122 = .ok (.lreturn, 1) := by decide +kernel
theorem dX12_restore_0 : decode cX12_restore 0 = .ok (.aload_n 0, 1) := by decide +kernel
theorem dX12_restore_1 : decode cX12_restore 1 = .ok (.iconst 0, 1) := by decide +kernel
theorem dX12_restore_2 : decode cX12_restore 2 = .ok (.putfield 86, 3) := by decide +kernel
theorem dX12_restore_5 : decode cX12_restore 5 = .ok (.iload_n 1, 1) := by decide +kernel
theorem dX12_restore_6 : decode cX12_restore 6 = .ok (.i2l, 1) := by decide +kernel
theorem dX12_restore_7 : decode cX12_restore 7 = .ok (.lconst 0, 1) := by decide +kernel
theorem dX12_restore_8 : decode cX12_restore 8 = .ok (.lconst 1, 1) := by decide +kernel
theorem dX12_restore_9 : decode cX12_restore 9 = .ok (.invokestatic 96, 3) := by decide +kernel
theorem dX12_restore_12 : decode cX12_restore 12 = .ok (.ifCond .ne 7, 3) := by decide +kernel
theorem dX12_restore_15 : decode cX12_restore 15 = .ok (.ldc2_w 106, 3) := by decide +kernel
theorem dX12_restore_18 : decode cX12_restore 18 = .ok (.lreturn, 1) := by decide +kernel
theorem dX12_restore_19 : decode cX12_restore 19 = .ok (.aload_n 0, 1) := by decide +kernel
theorem dX12_restore_20 : decode cX12_restore 20 = .ok (.getfield 68, 3) := by decide +kernel
theorem dX12_restore_23 : decode cX12_restore 23 = .ok (.iload_n 1, 1) := by decide +kernel
theorem dX12_restore_24 : decode cX12_restore 24 = .ok (.baload, 1) := by decide +kernel
theorem dX12_restore_25 : decode cX12_restore 25 = .ok (.ifCond .ne 7, 3) := by decide +kernel
theorem dX12_restore_28 : decode cX12_restore 28 = .ok (.ldc2_w 326, 3) := by decide +kernel
theorem dX12_restore_31 : decode cX12_restore 31 = .ok (.lreturn, 1) := by decide +kernel
theorem dX12_restore_32 : decode cX12_restore 32 = .ok (.iconst 0, 1) := by decide +kernel
theorem dX12_restore_33 : decode cX12_restore 33 = .ok (.istore_n 2, 1) := by decide +kernel
theorem dX12_restore_34 : decode cX12_restore 34 = .ok (.iload_n 2, 1) := by decide +kernel
theorem dX12_restore_35 : decode cX12_restore 35 = .ok (.sipush 172, 3) := by decide +kernel
theorem dX12_restore_38 : decode cX12_restore 38 = .ok (.if_icmp .ge 27, 3) := by decide +kernel
theorem dX12_restore_41 : decode cX12_restore 41 = .ok (.aload_n 0, 1) := by decide +kernel
theorem dX12_restore_42 : decode cX12_restore 42 = .ok (.getfield 19, 3) := by decide +kernel
theorem dX12_restore_45 : decode cX12_restore 45 = .ok (.iload_n 2, 1) := by decide +kernel
theorem dX12_restore_46 : decode cX12_restore 46 = .ok (.aload_n 0, 1) := by decide +kernel
theorem dX12_restore_47 : decode cX12_restore 47 = .ok (.getfield 71, 3) := by decide +kernel
theorem dX12_restore_50 : decode cX12_restore 50 = .ok (.sipush 172, 3) := by decide +kernel
theorem dX12_restore_53 : decode cX12_restore 53 = .ok (.iload_n 1, 1) := by decide +kernel
theorem dX12_restore_54 : decode cX12_restore 54 = .ok (.imul, 1) := by decide +kernel
theorem dX12_restore_55 : decode cX12_restore 55 = .ok (.iload_n 2, 1) := by decide +kernel
theorem dX12_restore_56 : decode cX12_restore 56 = .ok (.iadd, 1) := by decide +kernel
theorem dX12_restore_57 : decode cX12_restore 57 = .ok (.iaload, 1) := by decide +kernel
theorem dX12_restore_58 : decode cX12_restore 58 = .ok (.iastore, 1) := by decide +kernel
theorem dX12_restore_59 : decode cX12_restore 59 = .ok (.iinc 2 1, 3) := by decide +kernel
theorem dX12_restore_62 : decode cX12_restore 62 = .ok (.goto (-28), 3) := by decide +kernel
theorem dX12_restore_65 : decode cX12_restore 65 = .ok (.iconst 0, 1) := by decide +kernel
theorem dX12_restore_66 : decode cX12_restore 66 = .ok (.istore_n 2, 1) := by decide +kernel
theorem dX12_restore_67 : decode cX12_restore 67 = .ok (.iload_n 2, 1) := by decide +kernel
theorem dX12_restore_68 : decode cX12_restore 68 = .ok (.bipush 7, 2) := by decide +kernel
theorem dX12_restore_70 : decode cX12_restore 70 = .ok (.if_icmp .ge 26, 3) := by decide +kernel
theorem dX12_restore_73 : decode cX12_restore 73 = .ok (.aload_n 0, 1) := by decide +kernel
theorem dX12_restore_74 : decode cX12_restore 74 = .ok (.getfield 33, 3) := by decide +kernel
theorem dX12_restore_77 : decode cX12_restore 77 = .ok (.iload_n 2, 1) := by decide +kernel
theorem dX12_restore_78 : decode cX12_restore 78 = .ok (.aload_n 0, 1) := by decide +kernel
theorem dX12_restore_79 : decode cX12_restore 79 = .ok (.getfield 74, 3) := by decide +kernel
theorem dX12_restore_82 : decode cX12_restore 82 = .ok (.bipush 7, 2) := by decide +kernel
theorem dX12_restore_84 : decode cX12_restore 84 = .ok (.iload_n 1, 1) := by decide +kernel
theorem dX12_restore_85 : decode cX12_restore 85 = .ok (.imul, 1) := by decide +kernel
theorem dX12_restore_86 : decode cX12_restore 86 = .ok (.iload_n 2, 1) := by decide +kernel
theorem dX12_restore_87 : decode cX12_restore 87 = .ok (.iadd, 1) := by decide +kernel
theorem dX12_restore_88 : decode cX12_restore 88 = .ok (.iaload, 1) := by decide +kernel
theorem dX12_restore_89 : decode cX12_restore 89 = .ok (.iastore, 1) := by decide +kernel
theorem dX12_restore_90 : decode cX12_restore 90 = .ok (.iinc 2 1, 3) := by decide +kernel
theorem dX12_restore_93 : decode cX12_restore 93 = .ok (.goto (-26), 3) := by decide +kernel
theorem dX12_restore_96 : decode cX12_restore 96 = .ok (.aload_n 0, 1) := by decide +kernel
theorem dX12_restore_97 : decode cX12_restore 97 = .ok (.aload_n 0, 1) := by decide +kernel
theorem dX12_restore_98 : decode cX12_restore 98 = .ok (.getfield 77, 3) := by decide +kernel
theorem dX12_restore_101 : decode cX12_restore 101 = .ok (.iload_n 1, 1) := by decide +kernel
theorem dX12_restore_102 : decode cX12_restore 102 = .ok (.iaload, 1) := by decide +kernel
theorem dX12_restore_103 : decode cX12_restore 103 = .ok (.putfield 229, 3) := by decide +kernel
theorem dX12_restore_106 : decode cX12_restore 106 = .ok (.aload_n 0, 1) := by decide +kernel
theorem dX12_restore_107 : decode cX12_restore 107 = .ok (.aload_n 0, 1) := by decide +kernel
theorem dX12_restore_108 : decode cX12_restore 108 = .ok (.getfield 80, 3) := by decide +kernel
theorem dX12_restore_111 : decode cX12_restore 111 = .ok (.iload_n 1, 1) := by decide +kernel
theorem dX12_restore_112 : decode cX12_restore 112 = .ok (.iaload, 1) := by decide +kernel
theorem dX12_restore_113 : decode cX12_restore 113 = .ok (.putfield 29, 3) := by decide +kernel
theorem dX12_restore_116 : decode cX12_restore 116 = .ok (.lconst 1, 1) := by decide +kernel
theorem dX12_restore_117 : decode cX12_restore 117 = .ok (.lreturn, 1) := by decide +kernel
theorem dX12_isOf_0 : decode cX12_isOf 0 = .ok (.iload_n 1, 1) := by decide +kernel
theorem dX12_isOf_1 : decode cX12_isOf 1 = .ok (.ifCond .eq 33, 3) := by decide +kernel
theorem dX12_isOf_4 : decode cX12_isOf 4 = .ok (.iload_n 0, 1) := by decide +kernel
theorem dX12_isOf_5 : decode cX12_isOf 5 = .ok (.iload_n 1, 1) := by decide +kernel
theorem dX12_isOf_6 : decode cX12_isOf 6 = .ok (.if_icmp .eq 28, 3) := by decide +kernel
theorem dX12_isOf_9 : decode cX12_isOf 9 = .ok (.iload_n 1, 1) := by decide +kernel
theorem dX12_isOf_10 : decode cX12_isOf 10 = .ok (.iconst 1, 1) := by decide +kernel
theorem dX12_isOf_11 : decode cX12_isOf 11 = .ok (.if_icmp .ne 13, 3) := by decide +kernel
theorem dX12_isOf_14 : decode cX12_isOf 14 = .ok (.iload_n 0, 1) := by decide +kernel
theorem dX12_isOf_15 : decode cX12_isOf 15 = .ok (.iconst 2, 1) := by decide +kernel
theorem dX12_isOf_16 : decode cX12_isOf 16 = .ok (.if_icmp .eq 18, 3) := by decide +kernel
theorem dX12_isOf_19 : decode cX12_isOf 19 = .ok (.iload_n 0, 1) := by decide +kernel
theorem dX12_isOf_20 : decode cX12_isOf 20 = .ok (.iconst 3, 1) := by decide +kernel
theorem dX12_isOf_21 : decode cX12_isOf 21 = .ok (.if_icmp .eq 13, 3) := by decide +kernel
theorem dX12_isOf_24 : decode cX12_isOf 24 = .ok (.iload_n 1, 1) := by decide +kernel
theorem dX12_isOf_25 : decode cX12_isOf 25 = .ok (.iconst 4, 1) := by decide +kernel
theorem dX12_isOf_26 : decode cX12_isOf 26 = .ok (.if_icmp .ne 12, 3) := by decide +kernel
theorem dX12_isOf_29 : decode cX12_isOf 29 = .ok (.iload_n 0, 1) := by decide +kernel
theorem dX12_isOf_30 : decode cX12_isOf 30 = .ok (.iconst 5, 1) := by decide +kernel
theorem dX12_isOf_31 : decode cX12_isOf 31 = .ok (.if_icmp .ne 7, 3) := by decide +kernel
theorem dX12_isOf_34 : decode cX12_isOf 34 = .ok (.iconst 1, 1) := by decide +kernel
theorem dX12_isOf_35 : decode cX12_isOf 35 = .ok (.goto 4, 3) := by decide +kernel
theorem dX12_isOf_38 : decode cX12_isOf 38 = .ok (.iconst 0, 1) := by decide +kernel
theorem dX12_isOf_39 : decode cX12_isOf 39 = .ok (.ireturn, 1) := by decide +kernel
theorem dX12_kind_0 : decode cX12_kind 0 = .ok (.aload_n 0, 1) := by decide +kernel
theorem dX12_kind_1 : decode cX12_kind 1 = .ok (.iconst 0, 1) := by decide +kernel
theorem dX12_kind_2 : decode cX12_kind 2 = .ok (.putfield 86, 3) := by decide +kernel
theorem dX12_kind_5 : decode cX12_kind 5 = .ok (.aload_n 0, 1) := by decide +kernel
theorem dX12_kind_6 : decode cX12_kind 6 = .ok (.iload_n 1, 1) := by decide +kernel
theorem dX12_kind_7 : decode cX12_kind 7 = .ok (.invokevirtual 238, 3) := by decide +kernel
theorem dX12_kind_10 : decode cX12_kind 10 = .ok (.ifCond .eq 13, 3) := by decide +kernel
theorem dX12_kind_13 : decode cX12_kind 13 = .ok (.aload_n 0, 1) := by decide +kernel
theorem dX12_kind_14 : decode cX12_kind 14 = .ok (.iload_n 1, 1) := by decide +kernel
theorem dX12_kind_15 : decode cX12_kind 15 = .ok (.iconst 0, 1) := by decide +kernel
theorem dX12_kind_16 : decode cX12_kind 16 = .ok (.invokevirtual 243, 3) := by decide +kernel
theorem dX12_kind_19 : decode cX12_kind 19 = .ok (.i2l, 1) := by decide +kernel
theorem dX12_kind_20 : decode cX12_kind 20 = .ok (.goto 6, 3) := by decide +kernel
theorem dX12_kind_23 : decode cX12_kind 23 = .ok (.ldc2_w 106, 3) := by decide +kernel
theorem dX12_kind_26 : decode cX12_kind 26 = .ok (.lreturn, 1) := by decide +kernel
theorem dX12_as_0 : decode cX12_as 0 = .ok (.aload_n 0, 1) := by decide +kernel
theorem dX12_as_1 : decode cX12_as 1 = .ok (.iconst 0, 1) := by decide +kernel
theorem dX12_as_2 : decode cX12_as 2 = .ok (.putfield 86, 3) := by decide +kernel
theorem dX12_as_5 : decode cX12_as 5 = .ok (.aload_n 0, 1) := by decide +kernel
theorem dX12_as_6 : decode cX12_as 6 = .ok (.iload_n 1, 1) := by decide +kernel
theorem dX12_as_7 : decode cX12_as 7 = .ok (.invokevirtual 238, 3) := by decide +kernel
theorem dX12_as_10 : decode cX12_as 10 = .ok (.ifCond .eq 15, 3) := by decide +kernel
theorem dX12_as_13 : decode cX12_as 13 = .ok (.iload_n 2, 1) := by decide +kernel
theorem dX12_as_14 : decode cX12_as 14 = .ok (.i2l, 1) := by decide +kernel
theorem dX12_as_15 : decode cX12_as 15 = .ok (.lconst 0, 1) := by decide +kernel
theorem dX12_as_16 : decode cX12_as 16 = .ok (.ldc2_w 338, 3) := by decide +kernel
theorem dX12_as_19 : decode cX12_as 19 = .ok (.invokestatic 96, 3) := by decide +kernel
theorem dX12_as_22 : decode cX12_as 22 = .ok (.ifCond .ne 7, 3) := by decide +kernel
theorem dX12_as_25 : decode cX12_as 25 = .ok (.ldc2_w 106, 3) := by decide +kernel
theorem dX12_as_28 : decode cX12_as 28 = .ok (.lreturn, 1) := by decide +kernel
theorem dX12_as_29 : decode cX12_as 29 = .ok (.aload_n 0, 1) := by decide +kernel
theorem dX12_as_30 : decode cX12_as 30 = .ok (.iconst 0, 1) := by decide +kernel
theorem dX12_as_31 : decode cX12_as 31 = .ok (.putfield 89, 3) := by decide +kernel
theorem dX12_as_34 : decode cX12_as 34 = .ok (.aload_n 0, 1) := by decide +kernel
theorem dX12_as_35 : decode cX12_as 35 = .ok (.iload_n 1, 1) := by decide +kernel
theorem dX12_as_36 : decode cX12_as 36 = .ok (.iconst 0, 1) := by decide +kernel
theorem dX12_as_37 : decode cX12_as 37 = .ok (.invokevirtual 243, 3) := by decide +kernel
theorem dX12_as_40 : decode cX12_as 40 = .ok (.iload_n 2, 1) := by decide +kernel
theorem dX12_as_41 : decode cX12_as 41 = .ok (.invokestatic 437, 3) := by decide +kernel
theorem dX12_as_44 : decode cX12_as 44 = .ok (.ifCond .eq 8, 3) := by decide +kernel
theorem dX12_as_47 : decode cX12_as 47 = .ok (.iload_n 1, 1) := by decide +kernel
theorem dX12_as_48 : decode cX12_as 48 = .ok (.i2l, 1) := by decide +kernel
theorem dX12_as_49 : decode cX12_as 49 = .ok (.goto 8, 3) := by decide +kernel
theorem dX12_as_52 : decode cX12_as 52 = .ok (.aload_n 0, 1) := by decide +kernel
theorem dX12_as_53 : decode cX12_as 53 = .ok (.iconst 3, 1) := by decide +kernel
theorem dX12_as_54 : decode cX12_as 54 = .ok (.invokevirtual 108, 3) := by decide +kernel
theorem dX12_as_57 : decode cX12_as 57 = .ok (.lreturn, 1) := by decide +kernel
theorem dX12_began_0 : decode cX12_began 0 = .ok (.aload_n 0, 1) := by decide +kernel
theorem dX12_began_1 : decode cX12_began 1 = .ok (.getfield 440, 3) := by decide +kernel
theorem dX12_began_4 : decode cX12_began 4 = .ok (.bipush 16, 2) := by decide +kernel
theorem dX12_began_6 : decode cX12_began 6 = .ok (.if_icmp .ge 23, 3) := by decide +kernel
theorem dX12_began_9 : decode cX12_began 9 = .ok (.aload_n 0, 1) := by decide +kernel
theorem dX12_began_10 : decode cX12_began 10 = .ok (.getfield 83, 3) := by decide +kernel
theorem dX12_began_13 : decode cX12_began 13 = .ok (.aload_n 0, 1) := by decide +kernel
theorem dX12_began_14 : decode cX12_began 14 = .ok (.getfield 440, 3) := by decide +kernel
theorem dX12_began_17 : decode cX12_began 17 = .ok (.iload_n 1, 1) := by decide +kernel
theorem dX12_began_18 : decode cX12_began 18 = .ok (.iastore, 1) := by decide +kernel
theorem dX12_began_19 : decode cX12_began 19 = .ok (.aload_n 0, 1) := by decide +kernel
theorem dX12_began_20 : decode cX12_began 20 = .ok (.dup, 1) := by decide +kernel
theorem dX12_began_21 : decode cX12_began 21 = .ok (.getfield 440, 3) := by decide +kernel
theorem dX12_began_24 : decode cX12_began 24 = .ok (.iconst 1, 1) := by decide +kernel
theorem dX12_began_25 : decode cX12_began 25 = .ok (.iadd, 1) := by decide +kernel
theorem dX12_began_26 : decode cX12_began 26 = .ok (.putfield 440, 3) := by decide +kernel
theorem dX12_began_29 : decode cX12_began 29 = .ok (.return_, 1) := by decide +kernel
theorem dX12_edgedMark_0 : decode cX12_edgedMark 0 = .ok (.aload_n 0, 1) := by decide +kernel
theorem dX12_edgedMark_1 : decode cX12_edgedMark 1 = .ok (.bipush 24, 2) := by decide +kernel
theorem dX12_edgedMark_3 : decode cX12_edgedMark 3 = .ok (.invokevirtual 443, 3) := by decide +kernel
theorem dX12_edgedMark_6 : decode cX12_edgedMark 6 = .ok (.aload_n 0, 1) := by decide +kernel
theorem dX12_edgedMark_7 : decode cX12_edgedMark 7 = .ok (.bipush 20, 2) := by decide +kernel
theorem dX12_edgedMark_9 : decode cX12_edgedMark 9 = .ok (.invokevirtual 443, 3) := by decide +kernel
theorem dX12_edgedMark_12 : decode cX12_edgedMark 12 = .ok (.iload_n 1, 1) := by decide +kernel
theorem dX12_edgedMark_13 : decode cX12_edgedMark 13 = .ok (.bipush 50, 2) := by decide +kernel
theorem dX12_edgedMark_15 : decode cX12_edgedMark 15 = .ok (.iadd, 1) := by decide +kernel
theorem dX12_edgedMark_16 : decode cX12_edgedMark 16 = .ok (.ireturn, 1) := by decide +kernel
theorem dX12_sizeAsked_0 : decode cX12_sizeAsked 0 = .ok (.iload_n 2, 1) := by decide +kernel
theorem dX12_sizeAsked_1 : decode cX12_sizeAsked 1 = .ok (.iconst 3, 1) := by decide +kernel
theorem dX12_sizeAsked_2 : decode cX12_sizeAsked 2 = .ok (.if_icmp .eq 8, 3) := by decide +kernel
theorem dX12_sizeAsked_5 : decode cX12_sizeAsked 5 = .ok (.iload_n 2, 1) := by decide +kernel
theorem dX12_sizeAsked_6 : decode cX12_sizeAsked 6 = .ok (.iconst 5, 1) := by decide +kernel
theorem dX12_sizeAsked_7 : decode cX12_sizeAsked 7 = .ok (.if_icmp .ne 19, 3) := by decide +kernel
theorem dX12_sizeAsked_10 : decode cX12_sizeAsked 10 = .ok (.aload_n 0, 1) := by decide +kernel
theorem dX12_sizeAsked_11 : decode cX12_sizeAsked 11 = .ok (.iload_n 2, 1) := by decide +kernel
theorem dX12_sizeAsked_12 : decode cX12_sizeAsked 12 = .ok (.iconst 3, 1) := by decide +kernel
theorem dX12_sizeAsked_13 : decode cX12_sizeAsked 13 = .ok (.if_icmp .ne 8, 3) := by decide +kernel
theorem dX12_sizeAsked_16 : decode cX12_sizeAsked 16 = .ok (.bipush 12, 2) := by decide +kernel
theorem dX12_sizeAsked_18 : decode cX12_sizeAsked 18 = .ok (.goto 5, 3) := by decide +kernel
theorem dX12_sizeAsked_21 : decode cX12_sizeAsked 21 = .ok (.bipush 14, 2) := by decide +kernel
theorem dX12_sizeAsked_23 : decode cX12_sizeAsked 23 = .ok (.invokevirtual 443, 3) := by decide +kernel
theorem dX12_sizeAsked_26 : decode cX12_sizeAsked 26 = .ok (.iload_n 2, 1) := by decide +kernel
theorem dX12_sizeAsked_27 : decode cX12_sizeAsked 27 = .ok (.iconst 1, 1) := by decide +kernel
theorem dX12_sizeAsked_28 : decode cX12_sizeAsked 28 = .ok (.invokestatic 437, 3) := by decide +kernel
theorem dX12_sizeAsked_31 : decode cX12_sizeAsked 31 = .ok (.istore_n 3, 1) := by decide +kernel
theorem dX12_sizeAsked_32 : decode cX12_sizeAsked 32 = .ok (.iload_n 2, 1) := by decide +kernel
theorem dX12_sizeAsked_33 : decode cX12_sizeAsked 33 = .ok (.iconst 4, 1) := by decide +kernel
theorem dX12_sizeAsked_34 : decode cX12_sizeAsked 34 = .ok (.invokestatic 437, 3) := by decide +kernel
theorem dX12_sizeAsked_37 : decode cX12_sizeAsked 37 = .ok (.istore 4, 2) := by decide +kernel
theorem dX12_sizeAsked_39 : decode cX12_sizeAsked 39 = .ok (.iload_n 3, 1) := by decide +kernel
theorem dX12_sizeAsked_40 : decode cX12_sizeAsked 40 = .ok (.ifCond .ne 8, 3) := by decide +kernel
theorem dX12_sizeAsked_43 : decode cX12_sizeAsked 43 = .ok (.iload 4, 2) := by decide +kernel
theorem dX12_sizeAsked_45 : decode cX12_sizeAsked 45 = .ok (.ifCond .eq 18, 3) := by decide +kernel
theorem dX12_sizeAsked_48 : decode cX12_sizeAsked 48 = .ok (.aload_n 0, 1) := by decide +kernel
theorem dX12_sizeAsked_49 : decode cX12_sizeAsked 49 = .ok (.iload_n 3, 1) := by decide +kernel
theorem dX12_sizeAsked_50 : decode cX12_sizeAsked 50 = .ok (.ifCond .eq 8, 3) := by decide +kernel
theorem dX12_sizeAsked_53 : decode cX12_sizeAsked 53 = .ok (.bipush 11, 2) := by decide +kernel
theorem dX12_sizeAsked_55 : decode cX12_sizeAsked 55 = .ok (.goto 5, 3) := by decide +kernel
theorem dX12_sizeAsked_58 : decode cX12_sizeAsked 58 = .ok (.bipush 13, 2) := by decide +kernel
theorem dX12_sizeAsked_60 : decode cX12_sizeAsked 60 = .ok (.invokevirtual 443, 3) := by decide +kernel
theorem dX12_sizeAsked_63 : decode cX12_sizeAsked 63 = .ok (.aload_n 0, 1) := by decide +kernel
theorem dX12_sizeAsked_64 : decode cX12_sizeAsked 64 = .ok (.bipush 10, 2) := by decide +kernel
theorem dX12_sizeAsked_66 : decode cX12_sizeAsked 66 = .ok (.invokevirtual 443, 3) := by decide +kernel
theorem dX12_sizeAsked_69 : decode cX12_sizeAsked 69 = .ok (.iconst 1, 1) := by decide +kernel
theorem dX12_sizeAsked_70 : decode cX12_sizeAsked 70 = .ok (.iload_n 3, 1) := by decide +kernel
theorem dX12_sizeAsked_71 : decode cX12_sizeAsked 71 = .ok (.ifCond .eq 12, 3) := by decide +kernel
theorem dX12_sizeAsked_74 : decode cX12_sizeAsked 74 = .ok (.aload_n 0, 1) := by decide +kernel
theorem dX12_sizeAsked_75 : decode cX12_sizeAsked 75 = .ok (.iload_n 1, 1) := by decide +kernel
theorem dX12_sizeAsked_76 : decode cX12_sizeAsked 76 = .ok (.iconst 1, 1) := by decide +kernel
theorem dX12_sizeAsked_77 : decode cX12_sizeAsked 77 = .ok (.invokevirtual 243, 3) := by decide +kernel
theorem dX12_sizeAsked_80 : decode cX12_sizeAsked 80 = .ok (.goto 23, 3) := by decide +kernel
theorem dX12_sizeAsked_83 : decode cX12_sizeAsked 83 = .ok (.iload 4, 2) := by decide +kernel
theorem dX12_sizeAsked_85 : decode cX12_sizeAsked 85 = .ok (.ifCond .eq 17, 3) := by decide +kernel
theorem dX12_sizeAsked_88 : decode cX12_sizeAsked 88 = .ok (.aload_n 0, 1) := by decide +kernel
theorem dX12_sizeAsked_89 : decode cX12_sizeAsked 89 = .ok (.aload_n 0, 1) := by decide +kernel
theorem dX12_sizeAsked_90 : decode cX12_sizeAsked 90 = .ok (.iload_n 1, 1) := by decide +kernel
theorem dX12_sizeAsked_91 : decode cX12_sizeAsked 91 = .ok (.iconst 1, 1) := by decide +kernel
theorem dX12_sizeAsked_92 : decode cX12_sizeAsked 92 = .ok (.invokevirtual 243, 3) := by decide +kernel
theorem dX12_sizeAsked_95 : decode cX12_sizeAsked 95 = .ok (.iconst 0, 1) := by decide +kernel
theorem dX12_sizeAsked_96 : decode cX12_sizeAsked 96 = .ok (.invokevirtual 293, 3) := by decide +kernel
theorem dX12_sizeAsked_99 : decode cX12_sizeAsked 99 = .ok (.goto 4, 3) := by decide +kernel
theorem dX12_sizeAsked_102 : decode cX12_sizeAsked 102 = .ok (.iconst 0, 1) := by decide +kernel
theorem dX12_sizeAsked_103 : decode cX12_sizeAsked 103 = .ok (.iadd, 1) := by decide +kernel
theorem dX12_sizeAsked_104 : decode cX12_sizeAsked 104 = .ok (.istore 5, 2) := by decide +kernel
theorem dX12_sizeAsked_106 : decode cX12_sizeAsked 106 = .ok (.iload_n 2, 1) := by decide +kernel
theorem dX12_sizeAsked_107 : decode cX12_sizeAsked 107 = .ok (.iconst 3, 1) := by decide +kernel
theorem dX12_sizeAsked_108 : decode cX12_sizeAsked 108 = .ok (.if_icmp .ne 10, 3) := by decide +kernel
theorem dX12_sizeAsked_111 : decode cX12_sizeAsked 111 = .ok (.iconst 2, 1) := by decide +kernel
theorem dX12_sizeAsked_112 : decode cX12_sizeAsked 112 = .ok (.iload 5, 2) := by decide +kernel
theorem dX12_sizeAsked_114 : decode cX12_sizeAsked 114 = .ok (.imul, 1) := by decide +kernel
theorem dX12_sizeAsked_115 : decode cX12_sizeAsked 115 = .ok (.goto 21, 3) := by decide +kernel
theorem dX12_sizeAsked_118 : decode cX12_sizeAsked 118 = .ok (.iload_n 2, 1) := by decide +kernel
theorem dX12_sizeAsked_119 : decode cX12_sizeAsked 119 = .ok (.iconst 5, 1) := by decide +kernel
theorem dX12_sizeAsked_120 : decode cX12_sizeAsked 120 = .ok (.if_icmp .ne 14, 3) := by decide +kernel
theorem dX12_sizeAsked_123 : decode cX12_sizeAsked 123 = .ok (.iload 5, 2) := by decide +kernel
theorem dX12_sizeAsked_125 : decode cX12_sizeAsked 125 = .ok (.aload_n 0, 1) := by decide +kernel
theorem dX12_sizeAsked_126 : decode cX12_sizeAsked 126 = .ok (.iload_n 1, 1) := by decide +kernel
theorem dX12_sizeAsked_127 : decode cX12_sizeAsked 127 = .ok (.invokevirtual 446, 3) := by decide +kernel
theorem dX12_sizeAsked_130 : decode cX12_sizeAsked 130 = .ok (.isub, 1) := by decide +kernel
theorem dX12_sizeAsked_131 : decode cX12_sizeAsked 131 = .ok (.goto 5, 3) := by decide +kernel
theorem dX12_sizeAsked_134 : decode cX12_sizeAsked 134 = .ok (.iload 5, 2) := by decide +kernel
theorem dX12_sizeAsked_136 : decode cX12_sizeAsked 136 = .ok (.ireturn, 1) := by decide +kernel
theorem dX12_markAsked_0 : decode cX12_markAsked 0 = .ok (.iload_n 2, 1) := by decide +kernel
theorem dX12_markAsked_1 : decode cX12_markAsked 1 = .ok (.iconst 5, 1) := by decide +kernel
theorem dX12_markAsked_2 : decode cX12_markAsked 2 = .ok (.if_icmp .ne 9, 3) := by decide +kernel
theorem dX12_markAsked_5 : decode cX12_markAsked 5 = .ok (.aload_n 0, 1) := by decide +kernel
theorem dX12_markAsked_6 : decode cX12_markAsked 6 = .ok (.iload_n 1, 1) := by decide +kernel
theorem dX12_markAsked_7 : decode cX12_markAsked 7 = .ok (.invokevirtual 446, 3) := by decide +kernel
theorem dX12_markAsked_10 : decode cX12_markAsked 10 = .ok (.ireturn, 1) := by decide +kernel
theorem dX12_markAsked_11 : decode cX12_markAsked 11 = .ok (.iload_n 2, 1) := by decide +kernel
theorem dX12_markAsked_12 : decode cX12_markAsked 12 = .ok (.iconst 2, 1) := by decide +kernel
theorem dX12_markAsked_13 : decode cX12_markAsked 13 = .ok (.if_icmp .eq 9, 3) := by decide +kernel
theorem dX12_markAsked_16 : decode cX12_markAsked 16 = .ok (.iload_n 2, 1) := by decide +kernel
theorem dX12_markAsked_17 : decode cX12_markAsked 17 = .ok (.bipush 6, 2) := by decide +kernel
theorem dX12_markAsked_19 : decode cX12_markAsked 19 = .ok (.if_icmp .ne 19, 3) := by decide +kernel
theorem dX12_markAsked_22 : decode cX12_markAsked 22 = .ok (.aload_n 0, 1) := by decide +kernel
theorem dX12_markAsked_23 : decode cX12_markAsked 23 = .ok (.iload_n 2, 1) := by decide +kernel
theorem dX12_markAsked_24 : decode cX12_markAsked 24 = .ok (.iconst 2, 1) := by decide +kernel
theorem dX12_markAsked_25 : decode cX12_markAsked 25 = .ok (.if_icmp .ne 8, 3) := by decide +kernel
theorem dX12_markAsked_28 : decode cX12_markAsked 28 = .ok (.bipush 22, 2) := by decide +kernel
theorem dX12_markAsked_30 : decode cX12_markAsked 30 = .ok (.goto 5, 3) := by decide +kernel
theorem dX12_markAsked_33 : decode cX12_markAsked 33 = .ok (.bipush 23, 2) := by decide +kernel
theorem dX12_markAsked_35 : decode cX12_markAsked 35 = .ok (.invokevirtual 443, 3) := by decide +kernel
theorem dX12_markAsked_38 : decode cX12_markAsked 38 = .ok (.iload_n 2, 1) := by decide +kernel
theorem dX12_markAsked_39 : decode cX12_markAsked 39 = .ok (.iconst 1, 1) := by decide +kernel
theorem dX12_markAsked_40 : decode cX12_markAsked 40 = .ok (.invokestatic 437, 3) := by decide +kernel
theorem dX12_markAsked_43 : decode cX12_markAsked 43 = .ok (.istore_n 3, 1) := by decide +kernel
theorem dX12_markAsked_44 : decode cX12_markAsked 44 = .ok (.iload_n 3, 1) := by decide +kernel
theorem dX12_markAsked_45 : decode cX12_markAsked 45 = .ok (.ifCond .eq 9, 3) := by decide +kernel
theorem dX12_markAsked_48 : decode cX12_markAsked 48 = .ok (.aload_n 0, 1) := by decide +kernel
theorem dX12_markAsked_49 : decode cX12_markAsked 49 = .ok (.bipush 21, 2) := by decide +kernel
theorem dX12_markAsked_51 : decode cX12_markAsked 51 = .ok (.invokevirtual 443, 3) := by decide +kernel
theorem dX12_markAsked_54 : decode cX12_markAsked 54 = .ok (.aload_n 0, 1) := by decide +kernel
theorem dX12_markAsked_55 : decode cX12_markAsked 55 = .ok (.bipush 20, 2) := by decide +kernel
theorem dX12_markAsked_57 : decode cX12_markAsked 57 = .ok (.invokevirtual 443, 3) := by decide +kernel
theorem dX12_markAsked_60 : decode cX12_markAsked 60 = .ok (.iload_n 1, 1) := by decide +kernel
theorem dX12_markAsked_61 : decode cX12_markAsked 61 = .ok (.iload_n 3, 1) := by decide +kernel
theorem dX12_markAsked_62 : decode cX12_markAsked 62 = .ok (.ifCond .eq 12, 3) := by decide +kernel
theorem dX12_markAsked_65 : decode cX12_markAsked 65 = .ok (.aload_n 0, 1) := by decide +kernel
theorem dX12_markAsked_66 : decode cX12_markAsked 66 = .ok (.iload_n 1, 1) := by decide +kernel
theorem dX12_markAsked_67 : decode cX12_markAsked 67 = .ok (.iconst 3, 1) := by decide +kernel
theorem dX12_markAsked_68 : decode cX12_markAsked 68 = .ok (.invokevirtual 243, 3) := by decide +kernel
theorem dX12_markAsked_71 : decode cX12_markAsked 71 = .ok (.goto 4, 3) := by decide +kernel
theorem dX12_markAsked_74 : decode cX12_markAsked 74 = .ok (.iconst 0, 1) := by decide +kernel
theorem dX12_markAsked_75 : decode cX12_markAsked 75 = .ok (.iadd, 1) := by decide +kernel
theorem dX12_markAsked_76 : decode cX12_markAsked 76 = .ok (.istore 4, 2) := by decide +kernel
theorem dX12_markAsked_78 : decode cX12_markAsked 78 = .ok (.iload_n 2, 1) := by decide +kernel
theorem dX12_markAsked_79 : decode cX12_markAsked 79 = .ok (.bipush 6, 2) := by decide +kernel
theorem dX12_markAsked_81 : decode cX12_markAsked 81 = .ok (.if_icmp .ne 9, 3) := by decide +kernel
theorem dX12_markAsked_84 : decode cX12_markAsked 84 = .ok (.iload 4, 2) := by decide +kernel
theorem dX12_markAsked_86 : decode cX12_markAsked 86 = .ok (.ineg, 1) := by decide +kernel
theorem dX12_markAsked_87 : decode cX12_markAsked 87 = .ok (.goto 22, 3) := by decide +kernel
theorem dX12_markAsked_90 : decode cX12_markAsked 90 = .ok (.iload_n 2, 1) := by decide +kernel
theorem dX12_markAsked_91 : decode cX12_markAsked 91 = .ok (.iconst 2, 1) := by decide +kernel
theorem dX12_markAsked_92 : decode cX12_markAsked 92 = .ok (.if_icmp .ne 15, 3) := by decide +kernel
theorem dX12_markAsked_95 : decode cX12_markAsked 95 = .ok (.iload 4, 2) := by decide +kernel
theorem dX12_markAsked_97 : decode cX12_markAsked 97 = .ok (.aload_n 0, 1) := by decide +kernel
theorem dX12_markAsked_98 : decode cX12_markAsked 98 = .ok (.iload_n 1, 1) := by decide +kernel
theorem dX12_markAsked_99 : decode cX12_markAsked 99 = .ok (.iload_n 2, 1) := by decide +kernel
theorem dX12_markAsked_100 : decode cX12_markAsked 100 = .ok (.invokevirtual 449, 3) := by decide +kernel
theorem dX12_markAsked_103 : decode cX12_markAsked 103 = .ok (.iadd, 1) := by decide +kernel
theorem dX12_markAsked_104 : decode cX12_markAsked 104 = .ok (.goto 5, 3) := by decide +kernel
theorem dX12_markAsked_107 : decode cX12_markAsked 107 = .ok (.iload 4, 2) := by decide +kernel
theorem dX12_markAsked_109 : decode cX12_markAsked 109 = .ok (.ireturn, 1) := by decide +kernel
theorem dX12_ask_0 : decode cX12_ask 0 = .ok (.aload_n 0, 1) := by decide +kernel
theorem dX12_ask_1 : decode cX12_ask 1 = .ok (.iconst 0, 1) := by decide +kernel
theorem dX12_ask_2 : decode cX12_ask 2 = .ok (.putfield 86, 3) := by decide +kernel
theorem dX12_ask_5 : decode cX12_ask 5 = .ok (.aload_n 0, 1) := by decide +kernel
theorem dX12_ask_6 : decode cX12_ask 6 = .ok (.iload_n 1, 1) := by decide +kernel
theorem dX12_ask_7 : decode cX12_ask 7 = .ok (.invokevirtual 238, 3) := by decide +kernel
theorem dX12_ask_10 : decode cX12_ask 10 = .ok (.ifCond .eq 13, 3) := by decide +kernel
theorem dX12_ask_13 : decode cX12_ask 13 = .ok (.iload_n 2, 1) := by decide +kernel
theorem dX12_ask_14 : decode cX12_ask 14 = .ok (.i2l, 1) := by decide +kernel
theorem dX12_ask_15 : decode cX12_ask 15 = .ok (.lconst 0, 1) := by decide +kernel
theorem dX12_ask_16 : decode cX12_ask 16 = .ok (.lconst 1, 1) := by decide +kernel
theorem dX12_ask_17 : decode cX12_ask 17 = .ok (.invokestatic 96, 3) := by decide +kernel
theorem dX12_ask_20 : decode cX12_ask 20 = .ok (.ifCond .ne 7, 3) := by decide +kernel
theorem dX12_ask_23 : decode cX12_ask 23 = .ok (.ldc2_w 106, 3) := by decide +kernel
theorem dX12_ask_26 : decode cX12_ask 26 = .ok (.lreturn, 1) := by decide +kernel
theorem dX12_ask_27 : decode cX12_ask 27 = .ok (.aload_n 0, 1) := by decide +kernel
theorem dX12_ask_28 : decode cX12_ask 28 = .ok (.iconst 0, 1) := by decide +kernel
theorem dX12_ask_29 : decode cX12_ask 29 = .ok (.putfield 440, 3) := by decide +kernel
theorem dX12_ask_32 : decode cX12_ask 32 = .ok (.iload_n 2, 1) := by decide +kernel
theorem dX12_ask_33 : decode cX12_ask 33 = .ok (.ifCond .ne 18, 3) := by decide +kernel
theorem dX12_ask_36 : decode cX12_ask 36 = .ok (.aload_n 0, 1) := by decide +kernel
theorem dX12_ask_37 : decode cX12_ask 37 = .ok (.iload_n 1, 1) := by decide +kernel
theorem dX12_ask_38 : decode cX12_ask 38 = .ok (.aload_n 0, 1) := by decide +kernel
theorem dX12_ask_39 : decode cX12_ask 39 = .ok (.iload_n 1, 1) := by decide +kernel
theorem dX12_ask_40 : decode cX12_ask 40 = .ok (.iconst 0, 1) := by decide +kernel
theorem dX12_ask_41 : decode cX12_ask 41 = .ok (.invokevirtual 243, 3) := by decide +kernel
theorem dX12_ask_44 : decode cX12_ask 44 = .ok (.invokevirtual 449, 3) := by decide +kernel
theorem dX12_ask_47 : decode cX12_ask 47 = .ok (.i2l, 1) := by decide +kernel
theorem dX12_ask_48 : decode cX12_ask 48 = .ok (.goto 15, 3) := by decide +kernel
theorem dX12_ask_51 : decode cX12_ask 51 = .ok (.aload_n 0, 1) := by decide +kernel
theorem dX12_ask_52 : decode cX12_ask 52 = .ok (.iload_n 1, 1) := by decide +kernel
theorem dX12_ask_53 : decode cX12_ask 53 = .ok (.aload_n 0, 1) := by decide +kernel
theorem dX12_ask_54 : decode cX12_ask 54 = .ok (.iload_n 1, 1) := by decide +kernel
theorem dX12_ask_55 : decode cX12_ask 55 = .ok (.iconst 0, 1) := by decide +kernel
theorem dX12_ask_56 : decode cX12_ask 56 = .ok (.invokevirtual 243, 3) := by decide +kernel
theorem dX12_ask_59 : decode cX12_ask 59 = .ok (.invokevirtual 452, 3) := by decide +kernel
theorem dX12_ask_62 : decode cX12_ask 62 = .ok (.i2l, 1) := by decide +kernel
theorem dX12_ask_63 : decode cX12_ask 63 = .ok (.lreturn, 1) := by decide +kernel
theorem dX12_trace_0 : decode cX12_trace 0 = .ok (.aload_n 0, 1) := by decide +kernel
theorem dX12_trace_1 : decode cX12_trace 1 = .ok (.iconst 0, 1) := by decide +kernel
theorem dX12_trace_2 : decode cX12_trace 2 = .ok (.putfield 86, 3) := by decide +kernel
theorem dX12_trace_5 : decode cX12_trace 5 = .ok (.iload_n 1, 1) := by decide +kernel
theorem dX12_trace_6 : decode cX12_trace 6 = .ok (.i2l, 1) := by decide +kernel
theorem dX12_trace_7 : decode cX12_trace 7 = .ok (.lconst 0, 1) := by decide +kernel
theorem dX12_trace_8 : decode cX12_trace 8 = .ok (.aload_n 0, 1) := by decide +kernel
theorem dX12_trace_9 : decode cX12_trace 9 = .ok (.getfield 440, 3) := by decide +kernel
theorem dX12_trace_12 : decode cX12_trace 12 = .ok (.iconst 1, 1) := by decide +kernel
theorem dX12_trace_13 : decode cX12_trace 13 = .ok (.isub, 1) := by decide +kernel
theorem dX12_trace_14 : decode cX12_trace 14 = .ok (.i2l, 1) := by decide +kernel
theorem dX12_trace_15 : decode cX12_trace 15 = .ok (.invokestatic 96, 3) := by decide +kernel
theorem dX12_trace_18 : decode cX12_trace 18 = .ok (.ifCond .eq 12, 3) := by decide +kernel
theorem dX12_trace_21 : decode cX12_trace 21 = .ok (.aload_n 0, 1) := by decide +kernel
theorem dX12_trace_22 : decode cX12_trace 22 = .ok (.getfield 83, 3) := by decide +kernel
theorem dX12_trace_25 : decode cX12_trace 25 = .ok (.iload_n 1, 1) := by decide +kernel
theorem dX12_trace_26 : decode cX12_trace 26 = .ok (.iaload, 1) := by decide +kernel
theorem dX12_trace_27 : decode cX12_trace 27 = .ok (.goto 5, 3) := by decide +kernel
theorem dX12_trace_30 : decode cX12_trace 30 = .ok (.ldc 28, 2) := by decide +kernel
theorem dX12_trace_32 : decode cX12_trace 32 = .ok (.ireturn, 1) := by decide +kernel
theorem dX12_count_0 : decode cX12_count 0 = .ok (.aload_n 0, 1) := by decide +kernel
theorem dX12_count_1 : decode cX12_count 1 = .ok (.iconst 0, 1) := by decide +kernel
theorem dX12_count_2 : decode cX12_count 2 = .ok (.putfield 86, 3) := by decide +kernel
theorem dX12_count_5 : decode cX12_count 5 = .ok (.iconst 0, 1) := by decide +kernel
theorem dX12_count_6 : decode cX12_count 6 = .ok (.istore_n 2, 1) := by decide +kernel
theorem dX12_count_7 : decode cX12_count 7 = .ok (.iload_n 1, 1) := by decide +kernel
theorem dX12_count_8 : decode cX12_count 8 = .ok (.tableswitch 200 0 8 #[52, 86, 94, 102, 110, 118, 126, 163, 169], 52) := by decide +kernel
theorem dX12_count_60 : decode cX12_count 60 = .ok (.iconst 0, 1) := by decide +kernel
theorem dX12_count_61 : decode cX12_count 61 = .ok (.istore_n 3, 1) := by decide +kernel
theorem dX12_count_62 : decode cX12_count 62 = .ok (.iload_n 3, 1) := by decide +kernel
theorem dX12_count_63 : decode cX12_count 63 = .ok (.bipush 8, 2) := by decide +kernel
theorem dX12_count_65 : decode cX12_count 65 = .ok (.if_icmp .ge 26, 3) := by decide +kernel
theorem dX12_count_68 : decode cX12_count 68 = .ok (.iload_n 2, 1) := by decide +kernel
theorem dX12_count_69 : decode cX12_count 69 = .ok (.aload_n 0, 1) := by decide +kernel
theorem dX12_count_70 : decode cX12_count 70 = .ok (.getfield 9, 3) := by decide +kernel
theorem dX12_count_73 : decode cX12_count 73 = .ok (.iload_n 3, 1) := by decide +kernel
theorem dX12_count_74 : decode cX12_count 74 = .ok (.iaload, 1) := by decide +kernel
theorem dX12_count_75 : decode cX12_count 75 = .ok (.ifCond .lt 7, 3) := by decide +kernel
theorem dX12_count_78 : decode cX12_count 78 = .ok (.iconst 1, 1) := by decide +kernel
theorem dX12_count_79 : decode cX12_count 79 = .ok (.goto 4, 3) := by decide +kernel
theorem dX12_count_82 : decode cX12_count 82 = .ok (.iconst 0, 1) := by decide +kernel
theorem dX12_count_83 : decode cX12_count 83 = .ok (.iadd, 1) := by decide +kernel
theorem dX12_count_84 : decode cX12_count 84 = .ok (.istore_n 2, 1) := by decide +kernel
theorem dX12_count_85 : decode cX12_count 85 = .ok (.iinc 3 1, 3) := by decide +kernel
theorem dX12_count_88 : decode cX12_count 88 = .ok (.goto (-26), 3) := by decide +kernel
theorem dX12_count_91 : decode cX12_count 91 = .ok (.iload_n 2, 1) := by decide +kernel
theorem dX12_count_92 : decode cX12_count 92 = .ok (.i2l, 1) := by decide +kernel
theorem dX12_count_93 : decode cX12_count 93 = .ok (.lreturn, 1) := by decide +kernel
theorem dX12_count_94 : decode cX12_count 94 = .ok (.aload_n 0, 1) := by decide +kernel
theorem dX12_count_95 : decode cX12_count 95 = .ok (.getfield 19, 3) := by decide +kernel
theorem dX12_count_98 : decode cX12_count 98 = .ok (.iconst 0, 1) := by decide +kernel
theorem dX12_count_99 : decode cX12_count 99 = .ok (.iaload, 1) := by decide +kernel
theorem dX12_count_100 : decode cX12_count 100 = .ok (.i2l, 1) := by decide +kernel
theorem dX12_count_101 : decode cX12_count 101 = .ok (.lreturn, 1) := by decide +kernel
theorem dX12_count_102 : decode cX12_count 102 = .ok (.aload_n 0, 1) := by decide +kernel
theorem dX12_count_103 : decode cX12_count 103 = .ok (.getfield 19, 3) := by decide +kernel
theorem dX12_count_106 : decode cX12_count 106 = .ok (.iconst 1, 1) := by decide +kernel
theorem dX12_count_107 : decode cX12_count 107 = .ok (.iaload, 1) := by decide +kernel
theorem dX12_count_108 : decode cX12_count 108 = .ok (.i2l, 1) := by decide +kernel
theorem dX12_count_109 : decode cX12_count 109 = .ok (.lreturn, 1) := by decide +kernel
theorem dX12_count_110 : decode cX12_count 110 = .ok (.aload_n 0, 1) := by decide +kernel
theorem dX12_count_111 : decode cX12_count 111 = .ok (.getfield 19, 3) := by decide +kernel
theorem dX12_count_114 : decode cX12_count 114 = .ok (.iconst 2, 1) := by decide +kernel
theorem dX12_count_115 : decode cX12_count 115 = .ok (.iaload, 1) := by decide +kernel
theorem dX12_count_116 : decode cX12_count 116 = .ok (.i2l, 1) := by decide +kernel
theorem dX12_count_117 : decode cX12_count 117 = .ok (.lreturn, 1) := by decide +kernel
theorem dX12_count_118 : decode cX12_count 118 = .ok (.aload_n 0, 1) := by decide +kernel
theorem dX12_count_119 : decode cX12_count 119 = .ok (.getfield 19, 3) := by decide +kernel
theorem dX12_count_122 : decode cX12_count 122 = .ok (.iconst 3, 1) := by decide +kernel
theorem dX12_count_123 : decode cX12_count 123 = .ok (.iaload, 1) := by decide +kernel
theorem dX12_count_124 : decode cX12_count 124 = .ok (.i2l, 1) := by decide +kernel
theorem dX12_count_125 : decode cX12_count 125 = .ok (.lreturn, 1) := by decide +kernel
theorem dX12_count_126 : decode cX12_count 126 = .ok (.aload_n 0, 1) := by decide +kernel
theorem dX12_count_127 : decode cX12_count 127 = .ok (.getfield 19, 3) := by decide +kernel
theorem dX12_count_130 : decode cX12_count 130 = .ok (.iconst 5, 1) := by decide +kernel
theorem dX12_count_131 : decode cX12_count 131 = .ok (.iaload, 1) := by decide +kernel
theorem dX12_count_132 : decode cX12_count 132 = .ok (.i2l, 1) := by decide +kernel
theorem dX12_count_133 : decode cX12_count 133 = .ok (.lreturn, 1) := by decide +kernel
theorem dX12_count_134 : decode cX12_count 134 = .ok (.iconst 0, 1) := by decide +kernel
theorem dX12_count_135 : decode cX12_count 135 = .ok (.istore_n 3, 1) := by decide +kernel
theorem dX12_count_136 : decode cX12_count 136 = .ok (.iload_n 3, 1) := by decide +kernel
theorem dX12_count_137 : decode cX12_count 137 = .ok (.aload_n 0, 1) := by decide +kernel
theorem dX12_count_138 : decode cX12_count 138 = .ok (.getfield 19, 3) := by decide +kernel
theorem dX12_count_141 : decode cX12_count 141 = .ok (.iconst 5, 1) := by decide +kernel
theorem dX12_count_142 : decode cX12_count 142 = .ok (.iaload, 1) := by decide +kernel
theorem dX12_count_143 : decode cX12_count 143 = .ok (.if_icmp .ge 25, 3) := by decide +kernel
theorem dX12_count_146 : decode cX12_count 146 = .ok (.iload_n 2, 1) := by decide +kernel
theorem dX12_count_147 : decode cX12_count 147 = .ok (.aload_n 0, 1) := by decide +kernel
theorem dX12_count_148 : decode cX12_count 148 = .ok (.iload_n 3, 1) := by decide +kernel
theorem dX12_count_149 : decode cX12_count 149 = .ok (.invokevirtual 363, 3) := by decide +kernel
theorem dX12_count_152 : decode cX12_count 152 = .ok (.ifCond .eq 7, 3) := by decide +kernel
theorem dX12_count_155 : decode cX12_count 155 = .ok (.iconst 1, 1) := by decide +kernel
theorem dX12_count_156 : decode cX12_count 156 = .ok (.goto 4, 3) := by decide +kernel
theorem dX12_count_159 : decode cX12_count 159 = .ok (.iconst 0, 1) := by decide +kernel
theorem dX12_count_160 : decode cX12_count 160 = .ok (.iadd, 1) := by decide +kernel
theorem dX12_count_161 : decode cX12_count 161 = .ok (.istore_n 2, 1) := by decide +kernel
theorem dX12_count_162 : decode cX12_count 162 = .ok (.iinc 3 1, 3) := by decide +kernel
theorem dX12_count_165 : decode cX12_count 165 = .ok (.goto (-29), 3) := by decide +kernel
theorem dX12_count_168 : decode cX12_count 168 = .ok (.iload_n 2, 1) := by decide +kernel
theorem dX12_count_169 : decode cX12_count 169 = .ok (.i2l, 1) := by decide +kernel
theorem dX12_count_170 : decode cX12_count 170 = .ok (.lreturn, 1) := by decide +kernel
theorem dX12_count_171 : decode cX12_count 171 = .ok (.aload_n 0, 1) := by decide +kernel
theorem dX12_count_172 : decode cX12_count 172 = .ok (.getfield 114, 3) := by decide +kernel
theorem dX12_count_175 : decode cX12_count 175 = .ok (.i2l, 1) := by decide +kernel
theorem dX12_count_176 : decode cX12_count 176 = .ok (.lreturn, 1) := by decide +kernel
theorem dX12_count_177 : decode cX12_count 177 = .ok (.aload_n 0, 1) := by decide +kernel
theorem dX12_count_178 : decode cX12_count 178 = .ok (.getfield 68, 3) := by decide +kernel
theorem dX12_count_181 : decode cX12_count 181 = .ok (.iconst 0, 1) := by decide +kernel
theorem dX12_count_182 : decode cX12_count 182 = .ok (.baload, 1) := by decide +kernel
theorem dX12_count_183 : decode cX12_count 183 = .ok (.ifCond .eq 7, 3) := by decide +kernel
theorem dX12_count_186 : decode cX12_count 186 = .ok (.iconst 1, 1) := by decide +kernel
theorem dX12_count_187 : decode cX12_count 187 = .ok (.goto 4, 3) := by decide +kernel
theorem dX12_count_190 : decode cX12_count 190 = .ok (.iconst 0, 1) := by decide +kernel
theorem dX12_count_191 : decode cX12_count 191 = .ok (.aload_n 0, 1) := by decide +kernel
theorem dX12_count_192 : decode cX12_count 192 = .ok (.getfield 68, 3) := by decide +kernel
theorem dX12_count_195 : decode cX12_count 195 = .ok (.iconst 1, 1) := by decide +kernel
theorem dX12_count_196 : decode cX12_count 196 = .ok (.baload, 1) := by decide +kernel
theorem dX12_count_197 : decode cX12_count 197 = .ok (.ifCond .eq 7, 3) := by decide +kernel
theorem dX12_count_200 : decode cX12_count 200 = .ok (.iconst 1, 1) := by decide +kernel
theorem dX12_count_201 : decode cX12_count 201 = .ok (.goto 4, 3) := by decide +kernel
theorem dX12_count_204 : decode cX12_count 204 = .ok (.iconst 0, 1) := by decide +kernel
theorem dX12_count_205 : decode cX12_count 205 = .ok (.iadd, 1) := by decide +kernel
theorem dX12_count_206 : decode cX12_count 206 = .ok (.i2l, 1) := by decide +kernel
theorem dX12_count_207 : decode cX12_count 207 = .ok (.lreturn, 1) := by decide +kernel
theorem dX12_count_208 : decode cX12_count 208 = .ok (.ldc2_w 106, 3) := by decide +kernel
theorem dX12_count_211 : decode cX12_count 211 = .ok (.lreturn, 1) := by decide +kernel
theorem dX12_status_0 : decode cX12_status 0 = .ok (.aload_n 0, 1) := by decide +kernel
theorem dX12_status_1 : decode cX12_status 1 = .ok (.iconst 0, 1) := by decide +kernel
theorem dX12_status_2 : decode cX12_status 2 = .ok (.putfield 86, 3) := by decide +kernel
theorem dX12_status_5 : decode cX12_status 5 = .ok (.aload_n 0, 1) := by decide +kernel
theorem dX12_status_6 : decode cX12_status 6 = .ok (.getfield 89, 3) := by decide +kernel
theorem dX12_status_9 : decode cX12_status 9 = .ok (.ireturn, 1) := by decide +kernel
theorem dJ9_abs_0f7a4_0 : decode cJ9_abs_0f7a4 0 = .ok (.iload_n 0, 1) := by decide +kernel
theorem dJ9_abs_0f7a4_1 : decode cJ9_abs_0f7a4 1 = .ok (.ifCond .ge 8, 3) := by decide +kernel
theorem dJ9_abs_0f7a4_4 : decode cJ9_abs_0f7a4 4 = .ok (.iload_n 0, 1) := by decide +kernel
theorem dJ9_abs_0f7a4_5 : decode cJ9_abs_0f7a4 5 = .ok (.ineg, 1) := by decide +kernel
theorem dJ9_abs_0f7a4_6 : decode cJ9_abs_0f7a4 6 = .ok (.goto 4, 3) := by decide +kernel
theorem dJ9_abs_0f7a4_9 : decode cJ9_abs_0f7a4 9 = .ok (.iload_n 0, 1) := by decide +kernel
theorem dJ9_abs_0f7a4_10 : decode cJ9_abs_0f7a4 10 = .ok (.ireturn, 1) := by decide +kernel
theorem dJ9_max_7cf53_0 : decode cJ9_max_7cf53 0 = .ok (.iload_n 0, 1) := by decide +kernel
theorem dJ9_max_7cf53_1 : decode cJ9_max_7cf53 1 = .ok (.iload_n 1, 1) := by decide +kernel
theorem dJ9_max_7cf53_2 : decode cJ9_max_7cf53 2 = .ok (.if_icmp .lt 7, 3) := by decide +kernel
theorem dJ9_max_7cf53_5 : decode cJ9_max_7cf53 5 = .ok (.iload_n 0, 1) := by decide +kernel
theorem dJ9_max_7cf53_6 : decode cJ9_max_7cf53 6 = .ok (.goto 4, 3) := by decide +kernel
theorem dJ9_max_7cf53_9 : decode cJ9_max_7cf53 9 = .ok (.iload_n 1, 1) := by decide +kernel
theorem dJ9_max_7cf53_10 : decode cJ9_max_7cf53 10 = .ok (.ireturn, 1) := by decide +kernel
theorem dJ9_min_7cf53_0 : decode cJ9_min_7cf53 0 = .ok (.iload_n 0, 1) := by decide +kernel
theorem dJ9_min_7cf53_1 : decode cJ9_min_7cf53 1 = .ok (.iload_n 1, 1) := by decide +kernel
theorem dJ9_min_7cf53_2 : decode cJ9_min_7cf53 2 = .ok (.if_icmp .gt 7, 3) := by decide +kernel
theorem dJ9_min_7cf53_5 : decode cJ9_min_7cf53 5 = .ok (.iload_n 0, 1) := by decide +kernel
theorem dJ9_min_7cf53_6 : decode cJ9_min_7cf53 6 = .ok (.goto 4, 3) := by decide +kernel
theorem dJ9_min_7cf53_9 : decode cJ9_min_7cf53 9 = .ok (.iload_n 1, 1) := by decide +kernel
theorem dJ9_min_7cf53_10 : decode cJ9_min_7cf53 10 = .ok (.ireturn, 1) := by decide +kernel
theorem dJ0_length_8abf5_0 : decode cJ0_length_8abf5 0 = .ok (.aload_n 0, 1) := by decide +kernel
theorem dJ0_length_8abf5_1 : decode cJ0_length_8abf5 1 = .ok (.getfield 9, 3) := by decide +kernel
theorem dJ0_length_8abf5_4 : decode cJ0_length_8abf5 4 = .ok (.arraylength, 1) := by decide +kernel
theorem dJ0_length_8abf5_5 : decode cJ0_length_8abf5 5 = .ok (.aload_n 0, 1) := by decide +kernel
theorem dJ0_length_8abf5_6 : decode cJ0_length_8abf5 6 = .ok (.invokevirtual 335, 3) := by decide +kernel
theorem dJ0_length_8abf5_9 : decode cJ0_length_8abf5 9 = .ok (.ishr, 1) := by decide +kernel
theorem dJ0_length_8abf5_10 : decode cJ0_length_8abf5 10 = .ok (.ireturn, 1) := by decide +kernel
theorem dJ0_charAt_5068e_0 : decode cJ0_charAt_5068e 0 = .ok (.aload_n 0, 1) := by decide +kernel
theorem dJ0_charAt_5068e_1 : decode cJ0_charAt_5068e 1 = .ok (.invokevirtual 492, 3) := by decide +kernel
theorem dJ0_charAt_5068e_4 : decode cJ0_charAt_5068e 4 = .ok (.ifCond .eq 12, 3) := by decide +kernel
theorem dJ0_charAt_5068e_7 : decode cJ0_charAt_5068e 7 = .ok (.aload_n 0, 1) := by decide +kernel
theorem dJ0_charAt_5068e_8 : decode cJ0_charAt_5068e 8 = .ok (.getfield 9, 3) := by decide +kernel
theorem dJ0_charAt_5068e_11 : decode cJ0_charAt_5068e 11 = .ok (.iload_n 1, 1) := by decide +kernel
theorem dJ0_charAt_5068e_12 : decode cJ0_charAt_5068e 12 = .ok (.invokestatic 495, 3) := by decide +kernel
theorem dJ0_charAt_5068e_15 : decode cJ0_charAt_5068e 15 = .ok (.ireturn, 1) := by decide +kernel
theorem dJ0_charAt_5068e_16 : decode cJ0_charAt_5068e 16 = .ok (.aload_n 0, 1) := by decide +kernel
theorem dJ0_charAt_5068e_17 : decode cJ0_charAt_5068e 17 = .ok (.getfield 9, 3) := by decide +kernel
theorem dJ0_charAt_5068e_20 : decode cJ0_charAt_5068e 20 = .ok (.iload_n 1, 1) := by decide +kernel
theorem dJ0_charAt_5068e_21 : decode cJ0_charAt_5068e 21 = .ok (.invokestatic 498, 3) := by decide +kernel
theorem dJ0_charAt_5068e_24 : decode cJ0_charAt_5068e 24 = .ok (.ireturn, 1) := by decide +kernel
theorem dJ0_coder_7d493_0 : decode cJ0_coder_7d493 0 = .ok (.getstatic 38, 3) := by decide +kernel
theorem dJ0_coder_7d493_3 : decode cJ0_coder_7d493 3 = .ok (.ifCond .eq 10, 3) := by decide +kernel
theorem dJ0_coder_7d493_6 : decode cJ0_coder_7d493 6 = .ok (.aload_n 0, 1) := by decide +kernel
theorem dJ0_coder_7d493_7 : decode cJ0_coder_7d493 7 = .ok (.getfield 15, 3) := by decide +kernel
theorem dJ0_coder_7d493_10 : decode cJ0_coder_7d493 10 = .ok (.goto 4, 3) := by decide +kernel
theorem dJ0_coder_7d493_13 : decode cJ0_coder_7d493 13 = .ok (.iconst 1, 1) := by decide +kernel
theorem dJ0_coder_7d493_14 : decode cJ0_coder_7d493 14 = .ok (.ireturn, 1) := by decide +kernel
theorem dJ0_isLatin1_aae02_0 : decode cJ0_isLatin1_aae02 0 = .ok (.getstatic 38, 3) := by decide +kernel
theorem dJ0_isLatin1_aae02_3 : decode cJ0_isLatin1_aae02 3 = .ok (.ifCond .eq 14, 3) := by decide +kernel
theorem dJ0_isLatin1_aae02_6 : decode cJ0_isLatin1_aae02 6 = .ok (.aload_n 0, 1) := by decide +kernel
theorem dJ0_isLatin1_aae02_7 : decode cJ0_isLatin1_aae02 7 = .ok (.getfield 15, 3) := by decide +kernel
theorem dJ0_isLatin1_aae02_10 : decode cJ0_isLatin1_aae02 10 = .ok (.ifCond .ne 7, 3) := by decide +kernel
theorem dJ0_isLatin1_aae02_13 : decode cJ0_isLatin1_aae02 13 = .ok (.iconst 1, 1) := by decide +kernel
theorem dJ0_isLatin1_aae02_14 : decode cJ0_isLatin1_aae02 14 = .ok (.goto 4, 3) := by decide +kernel
theorem dJ0_isLatin1_aae02_17 : decode cJ0_isLatin1_aae02 17 = .ok (.iconst 0, 1) := by decide +kernel
theorem dJ0_isLatin1_aae02_18 : decode cJ0_isLatin1_aae02 18 = .ok (.ireturn, 1) := by decide +kernel
theorem dJ0_checkIndex_df160_0 : decode cJ0_checkIndex_df160 0 = .ok (.iload_n 0, 1) := by decide +kernel
theorem dJ0_checkIndex_df160_1 : decode cJ0_checkIndex_df160 1 = .ok (.iload_n 1, 1) := by decide +kernel
theorem dJ0_checkIndex_df160_2 : decode cJ0_checkIndex_df160 2 = .ok (.getstatic 1053, 3) := by decide +kernel
theorem dJ0_checkIndex_df160_5 : decode cJ0_checkIndex_df160 5 = .ok (.invokestatic 1059, 3) := by decide +kernel
theorem dJ0_checkIndex_df160_8 : decode cJ0_checkIndex_df160 8 = .ok (.pop, 1) := by decide +kernel
theorem dJ0_checkIndex_df160_9 : decode cJ0_checkIndex_df160 9 = .ok (.return_, 1) := by decide +kernel
theorem dJ1_charAt_3b067_0 : decode cJ1_charAt_3b067 0 = .ok (.iload_n 1, 1) := by decide +kernel
theorem dJ1_charAt_3b067_1 : decode cJ1_charAt_3b067 1 = .ok (.aload_n 0, 1) := by decide +kernel
theorem dJ1_charAt_3b067_2 : decode cJ1_charAt_3b067 2 = .ok (.arraylength, 1) := by decide +kernel
theorem dJ1_charAt_3b067_3 : decode cJ1_charAt_3b067 3 = .ok (.invokestatic 9, 3) := by decide +kernel
theorem dJ1_charAt_3b067_6 : decode cJ1_charAt_3b067 6 = .ok (.aload_n 0, 1) := by decide +kernel
theorem dJ1_charAt_3b067_7 : decode cJ1_charAt_3b067 7 = .ok (.iload_n 1, 1) := by decide +kernel
theorem dJ1_charAt_3b067_8 : decode cJ1_charAt_3b067 8 = .ok (.baload, 1) := by decide +kernel
theorem dJ1_charAt_3b067_9 : decode cJ1_charAt_3b067 9 = .ok (.sipush 255, 3) := by decide +kernel
theorem dJ1_charAt_3b067_12 : decode cJ1_charAt_3b067 12 = .ok (.iand, 1) := by decide +kernel
theorem dJ1_charAt_3b067_13 : decode cJ1_charAt_3b067 13 = .ok (.i2c, 1) := by decide +kernel
theorem dJ1_charAt_3b067_14 : decode cJ1_charAt_3b067 14 = .ok (.ireturn, 1) := by decide +kernel
theorem dJ2_getChar_3b067_0 : decode cJ2_getChar_3b067 0 = .ok (.getstatic 44, 3) := by decide +kernel
theorem dJ2_getChar_3b067_3 : decode cJ2_getChar_3b067 3 = .ok (.ifCond .ne 25, 3) := by decide +kernel
theorem dJ2_getChar_3b067_6 : decode cJ2_getChar_3b067 6 = .ok (.iload_n 1, 1) := by decide +kernel
theorem dJ2_getChar_3b067_7 : decode cJ2_getChar_3b067 7 = .ok (.ifCond .lt 11, 3) := by decide +kernel
theorem dJ2_getChar_3b067_10 : decode cJ2_getChar_3b067 10 = .ok (.iload_n 1, 1) := by decide +kernel
theorem dJ2_getChar_3b067_11 : decode cJ2_getChar_3b067 11 = .ok (.aload_n 0, 1) := by decide +kernel
theorem dJ2_getChar_3b067_12 : decode cJ2_getChar_3b067 12 = .ok (.invokestatic 48, 3) := by decide +kernel
theorem dJ2_getChar_3b067_15 : decode cJ2_getChar_3b067 15 = .ok (.if_icmp .lt 13, 3) := by decide +kernel
theorem dJ2_getChar_3b067_18 : decode cJ2_getChar_3b067 18 = .ok (.new 52, 3) := by decide +kernel
theorem dJ2_getChar_3b067_21 : decode cJ2_getChar_3b067 21 = .ok (.dup, 1) := by decide +kernel
theorem dJ2_getChar_3b067_22 : decode cJ2_getChar_3b067 22 = .ok (.ldc 54, 2) := by decide +kernel
theorem dJ2_getChar_3b067_24 : decode cJ2_getChar_3b067 24 = .ok (.invokespecial 56, 3) := by decide +kernel
theorem dJ2_getChar_3b067_27 : decode cJ2_getChar_3b067 27 = .ok (.athrow, 1) := by decide +kernel
theorem dJ2_getChar_3b067_28 : decode cJ2_getChar_3b067 28 = .ok (.iload_n 1, 1) := by decide +kernel
theorem dJ2_getChar_3b067_29 : decode cJ2_getChar_3b067 29 = .ok (.iconst 1, 1) := by decide +kernel
theorem dJ2_getChar_3b067_30 : decode cJ2_getChar_3b067 30 = .ok (.ishl, 1) := by decide +kernel
theorem dJ2_getChar_3b067_31 : decode cJ2_getChar_3b067 31 = .ok (.istore_n 1, 1) := by decide +kernel
theorem dJ2_getChar_3b067_32 : decode cJ2_getChar_3b067 32 = .ok (.aload_n 0, 1) := by decide +kernel
theorem dJ2_getChar_3b067_33 : decode cJ2_getChar_3b067 33 = .ok (.iload_n 1, 1) := by decide +kernel
theorem dJ2_getChar_3b067_34 : decode cJ2_getChar_3b067 34 = .ok (.iinc 1 1, 3) := by decide +kernel
theorem dJ2_getChar_3b067_37 : decode cJ2_getChar_3b067 37 = .ok (.baload, 1) := by decide +kernel
theorem dJ2_getChar_3b067_38 : decode cJ2_getChar_3b067 38 = .ok (.sipush 255, 3) := by decide +kernel
theorem dJ2_getChar_3b067_41 : decode cJ2_getChar_3b067 41 = .ok (.iand, 1) := by decide +kernel
theorem dJ2_getChar_3b067_42 : decode cJ2_getChar_3b067 42 = .ok (.getstatic 59, 3) := by decide +kernel
theorem dJ2_getChar_3b067_45 : decode cJ2_getChar_3b067 45 = .ok (.ishl, 1) := by decide +kernel
theorem dJ2_getChar_3b067_46 : decode cJ2_getChar_3b067 46 = .ok (.aload_n 0, 1) := by decide +kernel
theorem dJ2_getChar_3b067_47 : decode cJ2_getChar_3b067 47 = .ok (.iload_n 1, 1) := by decide +kernel
theorem dJ2_getChar_3b067_48 : decode cJ2_getChar_3b067 48 = .ok (.baload, 1) := by decide +kernel
theorem dJ2_getChar_3b067_49 : decode cJ2_getChar_3b067 49 = .ok (.sipush 255, 3) := by decide +kernel
theorem dJ2_getChar_3b067_52 : decode cJ2_getChar_3b067 52 = .ok (.iand, 1) := by decide +kernel
theorem dJ2_getChar_3b067_53 : decode cJ2_getChar_3b067 53 = .ok (.getstatic 63, 3) := by decide +kernel
theorem dJ2_getChar_3b067_56 : decode cJ2_getChar_3b067 56 = .ok (.ishl, 1) := by decide +kernel
theorem dJ2_getChar_3b067_57 : decode cJ2_getChar_3b067 57 = .ok (.ior, 1) := by decide +kernel
theorem dJ2_getChar_3b067_58 : decode cJ2_getChar_3b067 58 = .ok (.i2c, 1) := by decide +kernel
theorem dJ2_getChar_3b067_59 : decode cJ2_getChar_3b067 59 = .ok (.ireturn, 1) := by decide +kernel
theorem dJ2_length_9d52b_0 : decode cJ2_length_9d52b 0 = .ok (.aload_n 0, 1) := by decide +kernel
theorem dJ2_length_9d52b_1 : decode cJ2_length_9d52b 1 = .ok (.arraylength, 1) := by decide +kernel
theorem dJ2_length_9d52b_2 : decode cJ2_length_9d52b 2 = .ok (.iconst 1, 1) := by decide +kernel
theorem dJ2_length_9d52b_3 : decode cJ2_length_9d52b 3 = .ok (.ishr, 1) := by decide +kernel
theorem dJ2_length_9d52b_4 : decode cJ2_length_9d52b 4 = .ok (.ireturn, 1) := by decide +kernel
theorem dJ2_charAt_3b067_0 : decode cJ2_charAt_3b067 0 = .ok (.iload_n 1, 1) := by decide +kernel
theorem dJ2_charAt_3b067_1 : decode cJ2_charAt_3b067 1 = .ok (.aload_n 0, 1) := by decide +kernel
theorem dJ2_charAt_3b067_2 : decode cJ2_charAt_3b067 2 = .ok (.invokestatic 67, 3) := by decide +kernel
theorem dJ2_charAt_3b067_5 : decode cJ2_charAt_3b067 5 = .ok (.aload_n 0, 1) := by decide +kernel
theorem dJ2_charAt_3b067_6 : decode cJ2_charAt_3b067 6 = .ok (.iload_n 1, 1) := by decide +kernel
theorem dJ2_charAt_3b067_7 : decode cJ2_charAt_3b067 7 = .ok (.invokestatic 71, 3) := by decide +kernel
theorem dJ2_charAt_3b067_10 : decode cJ2_charAt_3b067 10 = .ok (.ireturn, 1) := by decide +kernel
theorem dJ2_checkIndex_2214a_0 : decode cJ2_checkIndex_2214a 0 = .ok (.iload_n 0, 1) := by decide +kernel
theorem dJ2_checkIndex_2214a_1 : decode cJ2_checkIndex_2214a 1 = .ok (.aload_n 1, 1) := by decide +kernel
theorem dJ2_checkIndex_2214a_2 : decode cJ2_checkIndex_2214a 2 = .ok (.invokestatic 48, 3) := by decide +kernel
theorem dJ2_checkIndex_2214a_5 : decode cJ2_checkIndex_2214a 5 = .ok (.invokestatic 414, 3) := by decide +kernel
theorem dJ2_checkIndex_2214a_8 : decode cJ2_checkIndex_2214a 8 = .ok (.return_, 1) := by decide +kernel
theorem dJ7_fill_d0a16_0 : decode cJ7_fill_d0a16 0 = .ok (.iconst 0, 1) := by decide +kernel
theorem dJ7_fill_d0a16_1 : decode cJ7_fill_d0a16 1 = .ok (.istore_n 3, 1) := by decide +kernel
theorem dJ7_fill_d0a16_2 : decode cJ7_fill_d0a16 2 = .ok (.aload_n 0, 1) := by decide +kernel
theorem dJ7_fill_d0a16_3 : decode cJ7_fill_d0a16 3 = .ok (.arraylength, 1) := by decide +kernel
theorem dJ7_fill_d0a16_4 : decode cJ7_fill_d0a16 4 = .ok (.istore 4, 2) := by decide +kernel
theorem dJ7_fill_d0a16_6 : decode cJ7_fill_d0a16 6 = .ok (.iload_n 3, 1) := by decide +kernel
theorem dJ7_fill_d0a16_7 : decode cJ7_fill_d0a16 7 = .ok (.iload 4, 2) := by decide +kernel
theorem dJ7_fill_d0a16_9 : decode cJ7_fill_d0a16 9 = .ok (.if_icmp .ge 13, 3) := by decide +kernel
theorem dJ7_fill_d0a16_12 : decode cJ7_fill_d0a16 12 = .ok (.aload_n 0, 1) := by decide +kernel
theorem dJ7_fill_d0a16_13 : decode cJ7_fill_d0a16 13 = .ok (.iload_n 3, 1) := by decide +kernel
theorem dJ7_fill_d0a16_14 : decode cJ7_fill_d0a16 14 = .ok (.lload_n 1, 1) := by decide +kernel
theorem dJ7_fill_d0a16_15 : decode cJ7_fill_d0a16 15 = .ok (.lastore, 1) := by decide +kernel
theorem dJ7_fill_d0a16_16 : decode cJ7_fill_d0a16 16 = .ok (.iinc 3 1, 3) := by decide +kernel
theorem dJ7_fill_d0a16_19 : decode cJ7_fill_d0a16 19 = .ok (.goto (-13), 3) := by decide +kernel
theorem dJ7_fill_d0a16_22 : decode cJ7_fill_d0a16 22 = .ok (.return_, 1) := by decide +kernel
theorem dJ7_fill_53178_0 : decode cJ7_fill_53178 0 = .ok (.iconst 0, 1) := by decide +kernel
theorem dJ7_fill_53178_1 : decode cJ7_fill_53178 1 = .ok (.istore_n 2, 1) := by decide +kernel
theorem dJ7_fill_53178_2 : decode cJ7_fill_53178 2 = .ok (.aload_n 0, 1) := by decide +kernel
theorem dJ7_fill_53178_3 : decode cJ7_fill_53178 3 = .ok (.arraylength, 1) := by decide +kernel
theorem dJ7_fill_53178_4 : decode cJ7_fill_53178 4 = .ok (.istore_n 3, 1) := by decide +kernel
theorem dJ7_fill_53178_5 : decode cJ7_fill_53178 5 = .ok (.iload_n 2, 1) := by decide +kernel
theorem dJ7_fill_53178_6 : decode cJ7_fill_53178 6 = .ok (.iload_n 3, 1) := by decide +kernel
theorem dJ7_fill_53178_7 : decode cJ7_fill_53178 7 = .ok (.if_icmp .ge 13, 3) := by decide +kernel
theorem dJ7_fill_53178_10 : decode cJ7_fill_53178 10 = .ok (.aload_n 0, 1) := by decide +kernel
theorem dJ7_fill_53178_11 : decode cJ7_fill_53178 11 = .ok (.iload_n 2, 1) := by decide +kernel
theorem dJ7_fill_53178_12 : decode cJ7_fill_53178 12 = .ok (.iload_n 1, 1) := by decide +kernel
theorem dJ7_fill_53178_13 : decode cJ7_fill_53178 13 = .ok (.iastore, 1) := by decide +kernel
theorem dJ7_fill_53178_14 : decode cJ7_fill_53178 14 = .ok (.iinc 2 1, 3) := by decide +kernel
theorem dJ7_fill_53178_17 : decode cJ7_fill_53178 17 = .ok (.goto (-12), 3) := by decide +kernel
theorem dJ7_fill_53178_20 : decode cJ7_fill_53178 20 = .ok (.return_, 1) := by decide +kernel
theorem dJ3_checkIndex_8e157_0 : decode cJ3_checkIndex_8e157 0 = .ok (.iload_n 0, 1) := by decide +kernel
theorem dJ3_checkIndex_8e157_1 : decode cJ3_checkIndex_8e157 1 = .ok (.ifCond .lt 8, 3) := by decide +kernel
theorem dJ3_checkIndex_8e157_4 : decode cJ3_checkIndex_8e157 4 = .ok (.iload_n 0, 1) := by decide +kernel
theorem dJ3_checkIndex_8e157_5 : decode cJ3_checkIndex_8e157 5 = .ok (.iload_n 1, 1) := by decide +kernel
theorem dJ3_checkIndex_8e157_6 : decode cJ3_checkIndex_8e157 6 = .ok (.if_icmp .lt 10, 3) := by decide +kernel
theorem dJ3_checkIndex_8e157_9 : decode cJ3_checkIndex_8e157 9 = .ok (.aload_n 2, 1) := by decide +kernel
theorem dJ3_checkIndex_8e157_10 : decode cJ3_checkIndex_8e157 10 = .ok (.iload_n 0, 1) := by decide +kernel
theorem dJ3_checkIndex_8e157_11 : decode cJ3_checkIndex_8e157 11 = .ok (.iload_n 1, 1) := by decide +kernel
theorem dJ3_checkIndex_8e157_12 : decode cJ3_checkIndex_8e157 12 = .ok (.invokestatic 95, 3) := by decide +kernel
theorem dJ3_checkIndex_8e157_15 : decode cJ3_checkIndex_8e157 15 = .ok (.athrow, 1) := by decide +kernel
theorem dJ3_checkIndex_8e157_16 : decode cJ3_checkIndex_8e157 16 = .ok (.iload_n 0, 1) := by decide +kernel
theorem dJ3_checkIndex_8e157_17 : decode cJ3_checkIndex_8e157 17 = .ok (.ireturn, 1) := by decide +kernel
theorem dL_law_0 : decode cL_law 0 = .ok (.new 7, 3) := by decide +kernel
theorem dL_law_3 : decode cL_law 3 = .ok (.dup, 1) := by decide +kernel
theorem dL_law_4 : decode cL_law 4 = .ok (.invokespecial 9, 3) := by decide +kernel
theorem dL_law_7 : decode cL_law 7 = .ok (.astore_n 1, 1) := by decide +kernel
theorem dL_law_8 : decode cL_law 8 = .ok (.new 10, 3) := by decide +kernel
theorem dL_law_11 : decode cL_law 11 = .ok (.dup, 1) := by decide +kernel
theorem dL_law_12 : decode cL_law 12 = .ok (.invokespecial 12, 3) := by decide +kernel
theorem dL_law_15 : decode cL_law 15 = .ok (.astore_n 2, 1) := by decide +kernel
theorem dL_law_16 : decode cL_law 16 = .ok (.iconst 0, 1) := by decide +kernel
theorem dL_law_17 : decode cL_law 17 = .ok (.istore_n 3, 1) := by decide +kernel
theorem dL_law_18 : decode cL_law 18 = .ok (.iload_n 3, 1) := by decide +kernel
theorem dL_law_19 : decode cL_law 19 = .ok (.aload_n 0, 1) := by decide +kernel
theorem dL_law_20 : decode cL_law 20 = .ok (.arraylength, 1) := by decide +kernel
theorem dL_law_21 : decode cL_law 21 = .ok (.bipush 6, 2) := by decide +kernel
theorem dL_law_23 : decode cL_law 23 = .ok (.isub, 1) := by decide +kernel
theorem dL_law_24 : decode cL_law 24 = .ok (.if_icmp .gt 1305, 3) := by decide +kernel
theorem dL_law_27 : decode cL_law 27 = .ok (.aload_n 0, 1) := by decide +kernel
theorem dL_law_28 : decode cL_law 28 = .ok (.iload_n 3, 1) := by decide +kernel
theorem dL_law_29 : decode cL_law 29 = .ok (.iaload, 1) := by decide +kernel
theorem dL_law_30 : decode cL_law 30 = .ok (.bipush 63, 2) := by decide +kernel
theorem dL_law_32 : decode cL_law 32 = .ok (.iand, 1) := by decide +kernel
theorem dL_law_33 : decode cL_law 33 = .ok (.tableswitch 1290 0 35 #[159, 203, 247, 311, 335, 399, 413, 426, 460, 494, 548, 582, 596, 620, 644, 688, 712, 736, 770, 804, 838, 862, 876, 910, 944, 978, 1002, 1046, 1090, 1114, 1138, 1162, 1196, 1230, 1253, 1277], 159) := by decide +kernel
theorem dL_law_192 : decode cL_law 192 = .ok (.aload_n 1, 1) := by decide +kernel
theorem dL_law_193 : decode cL_law 193 = .ok (.aload_n 0, 1) := by decide +kernel
theorem dL_law_194 : decode cL_law 194 = .ok (.iload_n 3, 1) := by decide +kernel
theorem dL_law_195 : decode cL_law 195 = .ok (.iconst 1, 1) := by decide +kernel
theorem dL_law_196 : decode cL_law 196 = .ok (.iadd, 1) := by decide +kernel
theorem dL_law_197 : decode cL_law 197 = .ok (.iaload, 1) := by decide +kernel
theorem dL_law_198 : decode cL_law 198 = .ok (.aload_n 0, 1) := by decide +kernel
theorem dL_law_199 : decode cL_law 199 = .ok (.iload_n 3, 1) := by decide +kernel
theorem dL_law_200 : decode cL_law 200 = .ok (.iconst 2, 1) := by decide +kernel
theorem dL_law_201 : decode cL_law 201 = .ok (.iadd, 1) := by decide +kernel
theorem dL_law_202 : decode cL_law 202 = .ok (.iaload, 1) := by decide +kernel
theorem dL_law_203 : decode cL_law 203 = .ok (.aload_n 0, 1) := by decide +kernel
theorem dL_law_204 : decode cL_law 204 = .ok (.iload_n 3, 1) := by decide +kernel
theorem dL_law_205 : decode cL_law 205 = .ok (.iconst 3, 1) := by decide +kernel
theorem dL_law_206 : decode cL_law 206 = .ok (.iadd, 1) := by decide +kernel
theorem dL_law_207 : decode cL_law 207 = .ok (.iaload, 1) := by decide +kernel
theorem dL_law_208 : decode cL_law 208 = .ok (.invokevirtual 13, 3) := by decide +kernel
theorem dL_law_211 : decode cL_law 211 = .ok (.aload_n 2, 1) := by decide +kernel
theorem dL_law_212 : decode cL_law 212 = .ok (.aload_n 0, 1) := by decide +kernel
theorem dL_law_213 : decode cL_law 213 = .ok (.iload_n 3, 1) := by decide +kernel
theorem dL_law_214 : decode cL_law 214 = .ok (.iconst 1, 1) := by decide +kernel
theorem dL_law_215 : decode cL_law 215 = .ok (.iadd, 1) := by decide +kernel
theorem dL_law_216 : decode cL_law 216 = .ok (.iaload, 1) := by decide +kernel
theorem dL_law_217 : decode cL_law 217 = .ok (.aload_n 0, 1) := by decide +kernel
theorem dL_law_218 : decode cL_law 218 = .ok (.iload_n 3, 1) := by decide +kernel
theorem dL_law_219 : decode cL_law 219 = .ok (.iconst 2, 1) := by decide +kernel
theorem dL_law_220 : decode cL_law 220 = .ok (.iadd, 1) := by decide +kernel
theorem dL_law_221 : decode cL_law 221 = .ok (.iaload, 1) := by decide +kernel
theorem dL_law_222 : decode cL_law 222 = .ok (.aload_n 0, 1) := by decide +kernel
theorem dL_law_223 : decode cL_law 223 = .ok (.iload_n 3, 1) := by decide +kernel
theorem dL_law_224 : decode cL_law 224 = .ok (.iconst 3, 1) := by decide +kernel
theorem dL_law_225 : decode cL_law 225 = .ok (.iadd, 1) := by decide +kernel
theorem dL_law_226 : decode cL_law 226 = .ok (.iaload, 1) := by decide +kernel
theorem dL_law_227 : decode cL_law 227 = .ok (.invokevirtual 17, 3) := by decide +kernel
theorem dL_law_230 : decode cL_law 230 = .ok (.lcmp, 1) := by decide +kernel
theorem dL_law_231 : decode cL_law 231 = .ok (.ifCond .eq 1092, 3) := by decide +kernel
theorem dL_law_234 : decode cL_law 234 = .ok (.iconst 0, 1) := by decide +kernel
theorem dL_law_235 : decode cL_law 235 = .ok (.ireturn, 1) := by decide +kernel
theorem dL_law_236 : decode cL_law 236 = .ok (.aload_n 1, 1) := by decide +kernel
theorem dL_law_237 : decode cL_law 237 = .ok (.aload_n 0, 1) := by decide +kernel
theorem dL_law_238 : decode cL_law 238 = .ok (.iload_n 3, 1) := by decide +kernel
theorem dL_law_239 : decode cL_law 239 = .ok (.iconst 1, 1) := by decide +kernel
theorem dL_law_240 : decode cL_law 240 = .ok (.iadd, 1) := by decide +kernel
theorem dL_law_241 : decode cL_law 241 = .ok (.iaload, 1) := by decide +kernel
theorem dL_law_242 : decode cL_law 242 = .ok (.aload_n 0, 1) := by decide +kernel
theorem dL_law_243 : decode cL_law 243 = .ok (.iload_n 3, 1) := by decide +kernel
theorem dL_law_244 : decode cL_law 244 = .ok (.iconst 2, 1) := by decide +kernel
theorem dL_law_245 : decode cL_law 245 = .ok (.iadd, 1) := by decide +kernel
theorem dL_law_246 : decode cL_law 246 = .ok (.iaload, 1) := by decide +kernel
theorem dL_law_247 : decode cL_law 247 = .ok (.aload_n 0, 1) := by decide +kernel
theorem dL_law_248 : decode cL_law 248 = .ok (.iload_n 3, 1) := by decide +kernel
theorem dL_law_249 : decode cL_law 249 = .ok (.iconst 3, 1) := by decide +kernel
theorem dL_law_250 : decode cL_law 250 = .ok (.iadd, 1) := by decide +kernel
theorem dL_law_251 : decode cL_law 251 = .ok (.iaload, 1) := by decide +kernel
theorem dL_law_252 : decode cL_law 252 = .ok (.invokevirtual 18, 3) := by decide +kernel
theorem dL_law_255 : decode cL_law 255 = .ok (.aload_n 2, 1) := by decide +kernel
theorem dL_law_256 : decode cL_law 256 = .ok (.aload_n 0, 1) := by decide +kernel
theorem dL_law_257 : decode cL_law 257 = .ok (.iload_n 3, 1) := by decide +kernel
theorem dL_law_258 : decode cL_law 258 = .ok (.iconst 1, 1) := by decide +kernel
theorem dL_law_259 : decode cL_law 259 = .ok (.iadd, 1) := by decide +kernel
theorem dL_law_260 : decode cL_law 260 = .ok (.iaload, 1) := by decide +kernel
theorem dL_law_261 : decode cL_law 261 = .ok (.aload_n 0, 1) := by decide +kernel
theorem dL_law_262 : decode cL_law 262 = .ok (.iload_n 3, 1) := by decide +kernel
theorem dL_law_263 : decode cL_law 263 = .ok (.iconst 2, 1) := by decide +kernel
theorem dL_law_264 : decode cL_law 264 = .ok (.iadd, 1) := by decide +kernel
theorem dL_law_265 : decode cL_law 265 = .ok (.iaload, 1) := by decide +kernel
theorem dL_law_266 : decode cL_law 266 = .ok (.aload_n 0, 1) := by decide +kernel
theorem dL_law_267 : decode cL_law 267 = .ok (.iload_n 3, 1) := by decide +kernel
theorem dL_law_268 : decode cL_law 268 = .ok (.iconst 3, 1) := by decide +kernel
theorem dL_law_269 : decode cL_law 269 = .ok (.iadd, 1) := by decide +kernel
theorem dL_law_270 : decode cL_law 270 = .ok (.iaload, 1) := by decide +kernel
theorem dL_law_271 : decode cL_law 271 = .ok (.invokevirtual 21, 3) := by decide +kernel
theorem dL_law_274 : decode cL_law 274 = .ok (.lcmp, 1) := by decide +kernel
theorem dL_law_275 : decode cL_law 275 = .ok (.ifCond .eq 1048, 3) := by decide +kernel
theorem dL_law_278 : decode cL_law 278 = .ok (.iconst 0, 1) := by decide +kernel
theorem dL_law_279 : decode cL_law 279 = .ok (.ireturn, 1) := by decide +kernel
theorem dL_law_280 : decode cL_law 280 = .ok (.aload_n 1, 1) := by decide +kernel
theorem dL_law_281 : decode cL_law 281 = .ok (.aload_n 0, 1) := by decide +kernel
theorem dL_law_282 : decode cL_law 282 = .ok (.iload_n 3, 1) := by decide +kernel
theorem dL_law_283 : decode cL_law 283 = .ok (.iconst 1, 1) := by decide +kernel
theorem dL_law_284 : decode cL_law 284 = .ok (.iadd, 1) := by decide +kernel
theorem dL_law_285 : decode cL_law 285 = .ok (.iaload, 1) := by decide +kernel
theorem dL_law_286 : decode cL_law 286 = .ok (.aload_n 0, 1) := by decide +kernel
theorem dL_law_287 : decode cL_law 287 = .ok (.iload_n 3, 1) := by decide +kernel
theorem dL_law_288 : decode cL_law 288 = .ok (.iconst 2, 1) := by decide +kernel
theorem dL_law_289 : decode cL_law 289 = .ok (.iadd, 1) := by decide +kernel
theorem dL_law_290 : decode cL_law 290 = .ok (.iaload, 1) := by decide +kernel
theorem dL_law_291 : decode cL_law 291 = .ok (.aload_n 0, 1) := by decide +kernel
theorem dL_law_292 : decode cL_law 292 = .ok (.iload_n 3, 1) := by decide +kernel
theorem dL_law_293 : decode cL_law 293 = .ok (.iconst 3, 1) := by decide +kernel
theorem dL_law_294 : decode cL_law 294 = .ok (.iadd, 1) := by decide +kernel
theorem dL_law_295 : decode cL_law 295 = .ok (.iaload, 1) := by decide +kernel
theorem dL_law_296 : decode cL_law 296 = .ok (.aload_n 0, 1) := by decide +kernel
theorem dL_law_297 : decode cL_law 297 = .ok (.iload_n 3, 1) := by decide +kernel
theorem dL_law_298 : decode cL_law 298 = .ok (.iconst 4, 1) := by decide +kernel
theorem dL_law_299 : decode cL_law 299 = .ok (.iadd, 1) := by decide +kernel
theorem dL_law_300 : decode cL_law 300 = .ok (.iaload, 1) := by decide +kernel
theorem dL_law_301 : decode cL_law 301 = .ok (.aload_n 0, 1) := by decide +kernel
theorem dL_law_302 : decode cL_law 302 = .ok (.iload_n 3, 1) := by decide +kernel
theorem dL_law_303 : decode cL_law 303 = .ok (.iconst 5, 1) := by decide +kernel
theorem dL_law_304 : decode cL_law 304 = .ok (.iadd, 1) := by decide +kernel
theorem dL_law_305 : decode cL_law 305 = .ok (.iaload, 1) := by decide +kernel
theorem dL_law_306 : decode cL_law 306 = .ok (.invokevirtual 22, 3) := by decide +kernel
theorem dL_law_309 : decode cL_law 309 = .ok (.aload_n 2, 1) := by decide +kernel
theorem dL_law_310 : decode cL_law 310 = .ok (.aload_n 0, 1) := by decide +kernel
theorem dL_law_311 : decode cL_law 311 = .ok (.iload_n 3, 1) := by decide +kernel
theorem dL_law_312 : decode cL_law 312 = .ok (.iconst 1, 1) := by decide +kernel
theorem dL_law_313 : decode cL_law 313 = .ok (.iadd, 1) := by decide +kernel
theorem dL_law_314 : decode cL_law 314 = .ok (.iaload, 1) := by decide +kernel
theorem dL_law_315 : decode cL_law 315 = .ok (.aload_n 0, 1) := by decide +kernel
theorem dL_law_316 : decode cL_law 316 = .ok (.iload_n 3, 1) := by decide +kernel
theorem dL_law_317 : decode cL_law 317 = .ok (.iconst 2, 1) := by decide +kernel
theorem dL_law_318 : decode cL_law 318 = .ok (.iadd, 1) := by decide +kernel
theorem dL_law_319 : decode cL_law 319 = .ok (.iaload, 1) := by decide +kernel
theorem dL_law_320 : decode cL_law 320 = .ok (.aload_n 0, 1) := by decide +kernel
theorem dL_law_321 : decode cL_law 321 = .ok (.iload_n 3, 1) := by decide +kernel
theorem dL_law_322 : decode cL_law 322 = .ok (.iconst 3, 1) := by decide +kernel
theorem dL_law_323 : decode cL_law 323 = .ok (.iadd, 1) := by decide +kernel
theorem dL_law_324 : decode cL_law 324 = .ok (.iaload, 1) := by decide +kernel
theorem dL_law_325 : decode cL_law 325 = .ok (.aload_n 0, 1) := by decide +kernel
theorem dL_law_326 : decode cL_law 326 = .ok (.iload_n 3, 1) := by decide +kernel
theorem dL_law_327 : decode cL_law 327 = .ok (.iconst 4, 1) := by decide +kernel
theorem dL_law_328 : decode cL_law 328 = .ok (.iadd, 1) := by decide +kernel
theorem dL_law_329 : decode cL_law 329 = .ok (.iaload, 1) := by decide +kernel
theorem dL_law_330 : decode cL_law 330 = .ok (.aload_n 0, 1) := by decide +kernel
theorem dL_law_331 : decode cL_law 331 = .ok (.iload_n 3, 1) := by decide +kernel
theorem dL_law_332 : decode cL_law 332 = .ok (.iconst 5, 1) := by decide +kernel
theorem dL_law_333 : decode cL_law 333 = .ok (.iadd, 1) := by decide +kernel
theorem dL_law_334 : decode cL_law 334 = .ok (.iaload, 1) := by decide +kernel
theorem dL_law_335 : decode cL_law 335 = .ok (.invokevirtual 26, 3) := by decide +kernel
theorem dL_law_338 : decode cL_law 338 = .ok (.lcmp, 1) := by decide +kernel
theorem dL_law_339 : decode cL_law 339 = .ok (.ifCond .eq 984, 3) := by decide +kernel
theorem dL_law_342 : decode cL_law 342 = .ok (.iconst 0, 1) := by decide +kernel
theorem dL_law_343 : decode cL_law 343 = .ok (.ireturn, 1) := by decide +kernel
theorem dL_law_344 : decode cL_law 344 = .ok (.aload_n 1, 1) := by decide +kernel
theorem dL_law_345 : decode cL_law 345 = .ok (.aload_n 0, 1) := by decide +kernel
theorem dL_law_346 : decode cL_law 346 = .ok (.iload_n 3, 1) := by decide +kernel
theorem dL_law_347 : decode cL_law 347 = .ok (.iconst 1, 1) := by decide +kernel
theorem dL_law_348 : decode cL_law 348 = .ok (.iadd, 1) := by decide +kernel
theorem dL_law_349 : decode cL_law 349 = .ok (.iaload, 1) := by decide +kernel
theorem dL_law_350 : decode cL_law 350 = .ok (.invokevirtual 27, 3) := by decide +kernel
theorem dL_law_353 : decode cL_law 353 = .ok (.aload_n 2, 1) := by decide +kernel
theorem dL_law_354 : decode cL_law 354 = .ok (.aload_n 0, 1) := by decide +kernel
theorem dL_law_355 : decode cL_law 355 = .ok (.iload_n 3, 1) := by decide +kernel
theorem dL_law_356 : decode cL_law 356 = .ok (.iconst 1, 1) := by decide +kernel
theorem dL_law_357 : decode cL_law 357 = .ok (.iadd, 1) := by decide +kernel
theorem dL_law_358 : decode cL_law 358 = .ok (.iaload, 1) := by decide +kernel
theorem dL_law_359 : decode cL_law 359 = .ok (.invokevirtual 31, 3) := by decide +kernel
theorem dL_law_362 : decode cL_law 362 = .ok (.lcmp, 1) := by decide +kernel
theorem dL_law_363 : decode cL_law 363 = .ok (.ifCond .eq 960, 3) := by decide +kernel
theorem dL_law_366 : decode cL_law 366 = .ok (.iconst 0, 1) := by decide +kernel
theorem dL_law_367 : decode cL_law 367 = .ok (.ireturn, 1) := by decide +kernel
theorem dL_law_368 : decode cL_law 368 = .ok (.aload_n 1, 1) := by decide +kernel
theorem dL_law_369 : decode cL_law 369 = .ok (.aload_n 0, 1) := by decide +kernel
theorem dL_law_370 : decode cL_law 370 = .ok (.iload_n 3, 1) := by decide +kernel
theorem dL_law_371 : decode cL_law 371 = .ok (.iconst 1, 1) := by decide +kernel
theorem dL_law_372 : decode cL_law 372 = .ok (.iadd, 1) := by decide +kernel
theorem dL_law_373 : decode cL_law 373 = .ok (.iaload, 1) := by decide +kernel
theorem dL_law_374 : decode cL_law 374 = .ok (.i2l, 1) := by decide +kernel
theorem dL_law_375 : decode cL_law 375 = .ok (.bipush 32, 2) := by decide +kernel
theorem dL_law_377 : decode cL_law 377 = .ok (.lshl, 1) := by decide +kernel
theorem dL_law_378 : decode cL_law 378 = .ok (.aload_n 0, 1) := by decide +kernel
theorem dL_law_379 : decode cL_law 379 = .ok (.iload_n 3, 1) := by decide +kernel
theorem dL_law_380 : decode cL_law 380 = .ok (.iconst 2, 1) := by decide +kernel
theorem dL_law_381 : decode cL_law 381 = .ok (.iadd, 1) := by decide +kernel
theorem dL_law_382 : decode cL_law 382 = .ok (.iaload, 1) := by decide +kernel
theorem dL_law_383 : decode cL_law 383 = .ok (.i2l, 1) := by decide +kernel
theorem dL_law_384 : decode cL_law 384 = .ok (.ldc2_w 32, 3) := by decide +kernel
theorem dL_law_387 : decode cL_law 387 = .ok (.land, 1) := by decide +kernel
theorem dL_law_388 : decode cL_law 388 = .ok (.lor, 1) := by decide +kernel
theorem dL_law_389 : decode cL_law 389 = .ok (.aload_n 0, 1) := by decide +kernel
theorem dL_law_390 : decode cL_law 390 = .ok (.iload_n 3, 1) := by decide +kernel
theorem dL_law_391 : decode cL_law 391 = .ok (.iconst 3, 1) := by decide +kernel
theorem dL_law_392 : decode cL_law 392 = .ok (.iadd, 1) := by decide +kernel
theorem dL_law_393 : decode cL_law 393 = .ok (.iaload, 1) := by decide +kernel
theorem dL_law_394 : decode cL_law 394 = .ok (.invokevirtual 34, 3) := by decide +kernel
theorem dL_law_397 : decode cL_law 397 = .ok (.aload_n 2, 1) := by decide +kernel
theorem dL_law_398 : decode cL_law 398 = .ok (.aload_n 0, 1) := by decide +kernel
theorem dL_law_399 : decode cL_law 399 = .ok (.iload_n 3, 1) := by decide +kernel
theorem dL_law_400 : decode cL_law 400 = .ok (.iconst 1, 1) := by decide +kernel
theorem dL_law_401 : decode cL_law 401 = .ok (.iadd, 1) := by decide +kernel
theorem dL_law_402 : decode cL_law 402 = .ok (.iaload, 1) := by decide +kernel
theorem dL_law_403 : decode cL_law 403 = .ok (.i2l, 1) := by decide +kernel
theorem dL_law_404 : decode cL_law 404 = .ok (.bipush 32, 2) := by decide +kernel
theorem dL_law_406 : decode cL_law 406 = .ok (.lshl, 1) := by decide +kernel
theorem dL_law_407 : decode cL_law 407 = .ok (.aload_n 0, 1) := by decide +kernel
theorem dL_law_408 : decode cL_law 408 = .ok (.iload_n 3, 1) := by decide +kernel
theorem dL_law_409 : decode cL_law 409 = .ok (.iconst 2, 1) := by decide +kernel
theorem dL_law_410 : decode cL_law 410 = .ok (.iadd, 1) := by decide +kernel
theorem dL_law_411 : decode cL_law 411 = .ok (.iaload, 1) := by decide +kernel
theorem dL_law_412 : decode cL_law 412 = .ok (.i2l, 1) := by decide +kernel
theorem dL_law_413 : decode cL_law 413 = .ok (.ldc2_w 32, 3) := by decide +kernel
theorem dL_law_416 : decode cL_law 416 = .ok (.land, 1) := by decide +kernel
theorem dL_law_417 : decode cL_law 417 = .ok (.lor, 1) := by decide +kernel
theorem dL_law_418 : decode cL_law 418 = .ok (.aload_n 0, 1) := by decide +kernel
theorem dL_law_419 : decode cL_law 419 = .ok (.iload_n 3, 1) := by decide +kernel
theorem dL_law_420 : decode cL_law 420 = .ok (.iconst 3, 1) := by decide +kernel
theorem dL_law_421 : decode cL_law 421 = .ok (.iadd, 1) := by decide +kernel
theorem dL_law_422 : decode cL_law 422 = .ok (.iaload, 1) := by decide +kernel
theorem dL_law_423 : decode cL_law 423 = .ok (.invokevirtual 38, 3) := by decide +kernel
theorem dL_law_426 : decode cL_law 426 = .ok (.lcmp, 1) := by decide +kernel
theorem dL_law_427 : decode cL_law 427 = .ok (.ifCond .eq 896, 3) := by decide +kernel
theorem dL_law_430 : decode cL_law 430 = .ok (.iconst 0, 1) := by decide +kernel
theorem dL_law_431 : decode cL_law 431 = .ok (.ireturn, 1) := by decide +kernel
theorem dL_law_432 : decode cL_law 432 = .ok (.aload_n 1, 1) := by decide +kernel
theorem dL_law_433 : decode cL_law 433 = .ok (.invokevirtual 39, 3) := by decide +kernel
theorem dL_law_436 : decode cL_law 436 = .ok (.aload_n 2, 1) := by decide +kernel
theorem dL_law_437 : decode cL_law 437 = .ok (.invokevirtual 43, 3) := by decide +kernel
theorem dL_law_440 : decode cL_law 440 = .ok (.lcmp, 1) := by decide +kernel
theorem dL_law_441 : decode cL_law 441 = .ok (.ifCond .eq 882, 3) := by decide +kernel
theorem dL_law_444 : decode cL_law 444 = .ok (.iconst 0, 1) := by decide +kernel
theorem dL_law_445 : decode cL_law 445 = .ok (.ireturn, 1) := by decide +kernel
theorem dL_law_446 : decode cL_law 446 = .ok (.aload_n 1, 1) := by decide +kernel
theorem dL_law_447 : decode cL_law 447 = .ok (.invokevirtual 44, 3) := by decide +kernel
theorem dL_law_450 : decode cL_law 450 = .ok (.aload_n 2, 1) := by decide +kernel
theorem dL_law_451 : decode cL_law 451 = .ok (.invokevirtual 48, 3) := by decide +kernel
theorem dL_law_454 : decode cL_law 454 = .ok (.if_icmp .eq 869, 3) := by decide +kernel
theorem dL_law_457 : decode cL_law 457 = .ok (.iconst 0, 1) := by decide +kernel
theorem dL_law_458 : decode cL_law 458 = .ok (.ireturn, 1) := by decide +kernel
theorem dL_law_459 : decode cL_law 459 = .ok (.aload_n 1, 1) := by decide +kernel
theorem dL_law_460 : decode cL_law 460 = .ok (.aload_n 0, 1) := by decide +kernel
theorem dL_law_461 : decode cL_law 461 = .ok (.iload_n 3, 1) := by decide +kernel
theorem dL_law_462 : decode cL_law 462 = .ok (.iconst 1, 1) := by decide +kernel
theorem dL_law_463 : decode cL_law 463 = .ok (.iadd, 1) := by decide +kernel
theorem dL_law_464 : decode cL_law 464 = .ok (.iaload, 1) := by decide +kernel
theorem dL_law_465 : decode cL_law 465 = .ok (.aload_n 0, 1) := by decide +kernel
theorem dL_law_466 : decode cL_law 466 = .ok (.iload_n 3, 1) := by decide +kernel
theorem dL_law_467 : decode cL_law 467 = .ok (.iconst 2, 1) := by decide +kernel
theorem dL_law_468 : decode cL_law 468 = .ok (.iadd, 1) := by decide +kernel
theorem dL_law_469 : decode cL_law 469 = .ok (.iaload, 1) := by decide +kernel
theorem dL_law_470 : decode cL_law 470 = .ok (.invokevirtual 49, 3) := by decide +kernel
theorem dL_law_473 : decode cL_law 473 = .ok (.aload_n 2, 1) := by decide +kernel
theorem dL_law_474 : decode cL_law 474 = .ok (.aload_n 0, 1) := by decide +kernel
theorem dL_law_475 : decode cL_law 475 = .ok (.iload_n 3, 1) := by decide +kernel
theorem dL_law_476 : decode cL_law 476 = .ok (.iconst 1, 1) := by decide +kernel
theorem dL_law_477 : decode cL_law 477 = .ok (.iadd, 1) := by decide +kernel
theorem dL_law_478 : decode cL_law 478 = .ok (.iaload, 1) := by decide +kernel
theorem dL_law_479 : decode cL_law 479 = .ok (.aload_n 0, 1) := by decide +kernel
theorem dL_law_480 : decode cL_law 480 = .ok (.iload_n 3, 1) := by decide +kernel
theorem dL_law_481 : decode cL_law 481 = .ok (.iconst 2, 1) := by decide +kernel
theorem dL_law_482 : decode cL_law 482 = .ok (.iadd, 1) := by decide +kernel
theorem dL_law_483 : decode cL_law 483 = .ok (.iaload, 1) := by decide +kernel
theorem dL_law_484 : decode cL_law 484 = .ok (.invokevirtual 53, 3) := by decide +kernel
theorem dL_law_487 : decode cL_law 487 = .ok (.lcmp, 1) := by decide +kernel
theorem dL_law_488 : decode cL_law 488 = .ok (.ifCond .eq 835, 3) := by decide +kernel
theorem dL_law_491 : decode cL_law 491 = .ok (.iconst 0, 1) := by decide +kernel
theorem dL_law_492 : decode cL_law 492 = .ok (.ireturn, 1) := by decide +kernel
theorem dL_law_493 : decode cL_law 493 = .ok (.aload_n 1, 1) := by decide +kernel
theorem dL_law_494 : decode cL_law 494 = .ok (.aload_n 0, 1) := by decide +kernel
theorem dL_law_495 : decode cL_law 495 = .ok (.iload_n 3, 1) := by decide +kernel
theorem dL_law_496 : decode cL_law 496 = .ok (.iconst 1, 1) := by decide +kernel
theorem dL_law_497 : decode cL_law 497 = .ok (.iadd, 1) := by decide +kernel
theorem dL_law_498 : decode cL_law 498 = .ok (.iaload, 1) := by decide +kernel
theorem dL_law_499 : decode cL_law 499 = .ok (.aload_n 0, 1) := by decide +kernel
theorem dL_law_500 : decode cL_law 500 = .ok (.iload_n 3, 1) := by decide +kernel
theorem dL_law_501 : decode cL_law 501 = .ok (.iconst 2, 1) := by decide +kernel
theorem dL_law_502 : decode cL_law 502 = .ok (.iadd, 1) := by decide +kernel
theorem dL_law_503 : decode cL_law 503 = .ok (.iaload, 1) := by decide +kernel
theorem dL_law_504 : decode cL_law 504 = .ok (.invokevirtual 54, 3) := by decide +kernel
theorem dL_law_507 : decode cL_law 507 = .ok (.aload_n 2, 1) := by decide +kernel
theorem dL_law_508 : decode cL_law 508 = .ok (.aload_n 0, 1) := by decide +kernel
theorem dL_law_509 : decode cL_law 509 = .ok (.iload_n 3, 1) := by decide +kernel
theorem dL_law_510 : decode cL_law 510 = .ok (.iconst 1, 1) := by decide +kernel
theorem dL_law_511 : decode cL_law 511 = .ok (.iadd, 1) := by decide +kernel
theorem dL_law_512 : decode cL_law 512 = .ok (.iaload, 1) := by decide +kernel
theorem dL_law_513 : decode cL_law 513 = .ok (.aload_n 0, 1) := by decide +kernel
theorem dL_law_514 : decode cL_law 514 = .ok (.iload_n 3, 1) := by decide +kernel
theorem dL_law_515 : decode cL_law 515 = .ok (.iconst 2, 1) := by decide +kernel
theorem dL_law_516 : decode cL_law 516 = .ok (.iadd, 1) := by decide +kernel
theorem dL_law_517 : decode cL_law 517 = .ok (.iaload, 1) := by decide +kernel
theorem dL_law_518 : decode cL_law 518 = .ok (.invokevirtual 57, 3) := by decide +kernel
theorem dL_law_521 : decode cL_law 521 = .ok (.lcmp, 1) := by decide +kernel
theorem dL_law_522 : decode cL_law 522 = .ok (.ifCond .eq 801, 3) := by decide +kernel
theorem dL_law_525 : decode cL_law 525 = .ok (.iconst 0, 1) := by decide +kernel
theorem dL_law_526 : decode cL_law 526 = .ok (.ireturn, 1) := by decide +kernel
theorem dL_law_527 : decode cL_law 527 = .ok (.aload_n 1, 1) := by decide +kernel
theorem dL_law_528 : decode cL_law 528 = .ok (.aload_n 0, 1) := by decide +kernel
theorem dL_law_529 : decode cL_law 529 = .ok (.iload_n 3, 1) := by decide +kernel
theorem dL_law_530 : decode cL_law 530 = .ok (.iconst 1, 1) := by decide +kernel
theorem dL_law_531 : decode cL_law 531 = .ok (.iadd, 1) := by decide +kernel
theorem dL_law_532 : decode cL_law 532 = .ok (.iaload, 1) := by decide +kernel
theorem dL_law_533 : decode cL_law 533 = .ok (.aload_n 0, 1) := by decide +kernel
theorem dL_law_534 : decode cL_law 534 = .ok (.iload_n 3, 1) := by decide +kernel
theorem dL_law_535 : decode cL_law 535 = .ok (.iconst 2, 1) := by decide +kernel
theorem dL_law_536 : decode cL_law 536 = .ok (.iadd, 1) := by decide +kernel
theorem dL_law_537 : decode cL_law 537 = .ok (.iaload, 1) := by decide +kernel
theorem dL_law_538 : decode cL_law 538 = .ok (.aload_n 0, 1) := by decide +kernel
theorem dL_law_539 : decode cL_law 539 = .ok (.iload_n 3, 1) := by decide +kernel
theorem dL_law_540 : decode cL_law 540 = .ok (.iconst 3, 1) := by decide +kernel
theorem dL_law_541 : decode cL_law 541 = .ok (.iadd, 1) := by decide +kernel
theorem dL_law_542 : decode cL_law 542 = .ok (.iaload, 1) := by decide +kernel
theorem dL_law_543 : decode cL_law 543 = .ok (.aload_n 0, 1) := by decide +kernel
theorem dL_law_544 : decode cL_law 544 = .ok (.iload_n 3, 1) := by decide +kernel
theorem dL_law_545 : decode cL_law 545 = .ok (.iconst 4, 1) := by decide +kernel
theorem dL_law_546 : decode cL_law 546 = .ok (.iadd, 1) := by decide +kernel
theorem dL_law_547 : decode cL_law 547 = .ok (.iaload, 1) := by decide +kernel
theorem dL_law_548 : decode cL_law 548 = .ok (.invokevirtual 58, 3) := by decide +kernel
theorem dL_law_551 : decode cL_law 551 = .ok (.aload_n 2, 1) := by decide +kernel
theorem dL_law_552 : decode cL_law 552 = .ok (.aload_n 0, 1) := by decide +kernel
theorem dL_law_553 : decode cL_law 553 = .ok (.iload_n 3, 1) := by decide +kernel
theorem dL_law_554 : decode cL_law 554 = .ok (.iconst 1, 1) := by decide +kernel
theorem dL_law_555 : decode cL_law 555 = .ok (.iadd, 1) := by decide +kernel
theorem dL_law_556 : decode cL_law 556 = .ok (.iaload, 1) := by decide +kernel
theorem dL_law_557 : decode cL_law 557 = .ok (.aload_n 0, 1) := by decide +kernel
theorem dL_law_558 : decode cL_law 558 = .ok (.iload_n 3, 1) := by decide +kernel
theorem dL_law_559 : decode cL_law 559 = .ok (.iconst 2, 1) := by decide +kernel
theorem dL_law_560 : decode cL_law 560 = .ok (.iadd, 1) := by decide +kernel
theorem dL_law_561 : decode cL_law 561 = .ok (.iaload, 1) := by decide +kernel
theorem dL_law_562 : decode cL_law 562 = .ok (.aload_n 0, 1) := by decide +kernel
theorem dL_law_563 : decode cL_law 563 = .ok (.iload_n 3, 1) := by decide +kernel
theorem dL_law_564 : decode cL_law 564 = .ok (.iconst 3, 1) := by decide +kernel
theorem dL_law_565 : decode cL_law 565 = .ok (.iadd, 1) := by decide +kernel
theorem dL_law_566 : decode cL_law 566 = .ok (.iaload, 1) := by decide +kernel
theorem dL_law_567 : decode cL_law 567 = .ok (.aload_n 0, 1) := by decide +kernel
theorem dL_law_568 : decode cL_law 568 = .ok (.iload_n 3, 1) := by decide +kernel
theorem dL_law_569 : decode cL_law 569 = .ok (.iconst 4, 1) := by decide +kernel
theorem dL_law_570 : decode cL_law 570 = .ok (.iadd, 1) := by decide +kernel
theorem dL_law_571 : decode cL_law 571 = .ok (.iaload, 1) := by decide +kernel
theorem dL_law_572 : decode cL_law 572 = .ok (.invokevirtual 62, 3) := by decide +kernel
theorem dL_law_575 : decode cL_law 575 = .ok (.lcmp, 1) := by decide +kernel
theorem dL_law_576 : decode cL_law 576 = .ok (.ifCond .eq 747, 3) := by decide +kernel
theorem dL_law_579 : decode cL_law 579 = .ok (.iconst 0, 1) := by decide +kernel
theorem dL_law_580 : decode cL_law 580 = .ok (.ireturn, 1) := by decide +kernel
theorem dL_law_581 : decode cL_law 581 = .ok (.aload_n 1, 1) := by decide +kernel
theorem dL_law_582 : decode cL_law 582 = .ok (.aload_n 0, 1) := by decide +kernel
theorem dL_law_583 : decode cL_law 583 = .ok (.iload_n 3, 1) := by decide +kernel
theorem dL_law_584 : decode cL_law 584 = .ok (.iconst 1, 1) := by decide +kernel
theorem dL_law_585 : decode cL_law 585 = .ok (.iadd, 1) := by decide +kernel
theorem dL_law_586 : decode cL_law 586 = .ok (.iaload, 1) := by decide +kernel
theorem dL_law_587 : decode cL_law 587 = .ok (.aload_n 0, 1) := by decide +kernel
theorem dL_law_588 : decode cL_law 588 = .ok (.iload_n 3, 1) := by decide +kernel
theorem dL_law_589 : decode cL_law 589 = .ok (.iconst 2, 1) := by decide +kernel
theorem dL_law_590 : decode cL_law 590 = .ok (.iadd, 1) := by decide +kernel
theorem dL_law_591 : decode cL_law 591 = .ok (.iaload, 1) := by decide +kernel
theorem dL_law_592 : decode cL_law 592 = .ok (.invokevirtual 63, 3) := by decide +kernel
theorem dL_law_595 : decode cL_law 595 = .ok (.aload_n 2, 1) := by decide +kernel
theorem dL_law_596 : decode cL_law 596 = .ok (.aload_n 0, 1) := by decide +kernel
theorem dL_law_597 : decode cL_law 597 = .ok (.iload_n 3, 1) := by decide +kernel
theorem dL_law_598 : decode cL_law 598 = .ok (.iconst 1, 1) := by decide +kernel
theorem dL_law_599 : decode cL_law 599 = .ok (.iadd, 1) := by decide +kernel
theorem dL_law_600 : decode cL_law 600 = .ok (.iaload, 1) := by decide +kernel
theorem dL_law_601 : decode cL_law 601 = .ok (.aload_n 0, 1) := by decide +kernel
theorem dL_law_602 : decode cL_law 602 = .ok (.iload_n 3, 1) := by decide +kernel
theorem dL_law_603 : decode cL_law 603 = .ok (.iconst 2, 1) := by decide +kernel
theorem dL_law_604 : decode cL_law 604 = .ok (.iadd, 1) := by decide +kernel
theorem dL_law_605 : decode cL_law 605 = .ok (.iaload, 1) := by decide +kernel
theorem dL_law_606 : decode cL_law 606 = .ok (.invokevirtual 66, 3) := by decide +kernel
theorem dL_law_609 : decode cL_law 609 = .ok (.lcmp, 1) := by decide +kernel
theorem dL_law_610 : decode cL_law 610 = .ok (.ifCond .eq 713, 3) := by decide +kernel
theorem dL_law_613 : decode cL_law 613 = .ok (.iconst 0, 1) := by decide +kernel
theorem dL_law_614 : decode cL_law 614 = .ok (.ireturn, 1) := by decide +kernel
theorem dL_law_615 : decode cL_law 615 = .ok (.aload_n 1, 1) := by decide +kernel
theorem dL_law_616 : decode cL_law 616 = .ok (.invokevirtual 67, 3) := by decide +kernel
theorem dL_law_619 : decode cL_law 619 = .ok (.aload_n 2, 1) := by decide +kernel
theorem dL_law_620 : decode cL_law 620 = .ok (.invokevirtual 70, 3) := by decide +kernel
theorem dL_law_623 : decode cL_law 623 = .ok (.lcmp, 1) := by decide +kernel
theorem dL_law_624 : decode cL_law 624 = .ok (.ifCond .eq 699, 3) := by decide +kernel
theorem dL_law_627 : decode cL_law 627 = .ok (.iconst 0, 1) := by decide +kernel
theorem dL_law_628 : decode cL_law 628 = .ok (.ireturn, 1) := by decide +kernel
theorem dL_law_629 : decode cL_law 629 = .ok (.aload_n 1, 1) := by decide +kernel
theorem dL_law_630 : decode cL_law 630 = .ok (.aload_n 0, 1) := by decide +kernel
theorem dL_law_631 : decode cL_law 631 = .ok (.iload_n 3, 1) := by decide +kernel
theorem dL_law_632 : decode cL_law 632 = .ok (.iconst 1, 1) := by decide +kernel
theorem dL_law_633 : decode cL_law 633 = .ok (.iadd, 1) := by decide +kernel
theorem dL_law_634 : decode cL_law 634 = .ok (.iaload, 1) := by decide +kernel
theorem dL_law_635 : decode cL_law 635 = .ok (.invokevirtual 71, 3) := by decide +kernel
theorem dL_law_638 : decode cL_law 638 = .ok (.aload_n 2, 1) := by decide +kernel
theorem dL_law_639 : decode cL_law 639 = .ok (.aload_n 0, 1) := by decide +kernel
theorem dL_law_640 : decode cL_law 640 = .ok (.iload_n 3, 1) := by decide +kernel
theorem dL_law_641 : decode cL_law 641 = .ok (.iconst 1, 1) := by decide +kernel
theorem dL_law_642 : decode cL_law 642 = .ok (.iadd, 1) := by decide +kernel
theorem dL_law_643 : decode cL_law 643 = .ok (.iaload, 1) := by decide +kernel
theorem dL_law_644 : decode cL_law 644 = .ok (.invokevirtual 74, 3) := by decide +kernel
theorem dL_law_647 : decode cL_law 647 = .ok (.lcmp, 1) := by decide +kernel
theorem dL_law_648 : decode cL_law 648 = .ok (.ifCond .eq 675, 3) := by decide +kernel
theorem dL_law_651 : decode cL_law 651 = .ok (.iconst 0, 1) := by decide +kernel
theorem dL_law_652 : decode cL_law 652 = .ok (.ireturn, 1) := by decide +kernel
theorem dL_law_653 : decode cL_law 653 = .ok (.aload_n 1, 1) := by decide +kernel
theorem dL_law_654 : decode cL_law 654 = .ok (.aload_n 0, 1) := by decide +kernel
theorem dL_law_655 : decode cL_law 655 = .ok (.iload_n 3, 1) := by decide +kernel
theorem dL_law_656 : decode cL_law 656 = .ok (.iconst 1, 1) := by decide +kernel
theorem dL_law_657 : decode cL_law 657 = .ok (.iadd, 1) := by decide +kernel
theorem dL_law_658 : decode cL_law 658 = .ok (.iaload, 1) := by decide +kernel
theorem dL_law_659 : decode cL_law 659 = .ok (.invokevirtual 75, 3) := by decide +kernel
theorem dL_law_662 : decode cL_law 662 = .ok (.aload_n 2, 1) := by decide +kernel
theorem dL_law_663 : decode cL_law 663 = .ok (.aload_n 0, 1) := by decide +kernel
theorem dL_law_664 : decode cL_law 664 = .ok (.iload_n 3, 1) := by decide +kernel
theorem dL_law_665 : decode cL_law 665 = .ok (.iconst 1, 1) := by decide +kernel
theorem dL_law_666 : decode cL_law 666 = .ok (.iadd, 1) := by decide +kernel
theorem dL_law_667 : decode cL_law 667 = .ok (.iaload, 1) := by decide +kernel
theorem dL_law_668 : decode cL_law 668 = .ok (.invokevirtual 78, 3) := by decide +kernel
theorem dL_law_671 : decode cL_law 671 = .ok (.lcmp, 1) := by decide +kernel
theorem dL_law_672 : decode cL_law 672 = .ok (.ifCond .eq 651, 3) := by decide +kernel
theorem dL_law_675 : decode cL_law 675 = .ok (.iconst 0, 1) := by decide +kernel
theorem dL_law_676 : decode cL_law 676 = .ok (.ireturn, 1) := by decide +kernel
theorem dL_law_677 : decode cL_law 677 = .ok (.aload_n 1, 1) := by decide +kernel
theorem dL_law_678 : decode cL_law 678 = .ok (.aload_n 0, 1) := by decide +kernel
theorem dL_law_679 : decode cL_law 679 = .ok (.iload_n 3, 1) := by decide +kernel
theorem dL_law_680 : decode cL_law 680 = .ok (.iconst 1, 1) := by decide +kernel
theorem dL_law_681 : decode cL_law 681 = .ok (.iadd, 1) := by decide +kernel
theorem dL_law_682 : decode cL_law 682 = .ok (.iaload, 1) := by decide +kernel
theorem dL_law_683 : decode cL_law 683 = .ok (.aload_n 0, 1) := by decide +kernel
theorem dL_law_684 : decode cL_law 684 = .ok (.iload_n 3, 1) := by decide +kernel
theorem dL_law_685 : decode cL_law 685 = .ok (.iconst 2, 1) := by decide +kernel
theorem dL_law_686 : decode cL_law 686 = .ok (.iadd, 1) := by decide +kernel
theorem dL_law_687 : decode cL_law 687 = .ok (.iaload, 1) := by decide +kernel
theorem dL_law_688 : decode cL_law 688 = .ok (.aload_n 0, 1) := by decide +kernel
theorem dL_law_689 : decode cL_law 689 = .ok (.iload_n 3, 1) := by decide +kernel
theorem dL_law_690 : decode cL_law 690 = .ok (.iconst 3, 1) := by decide +kernel
theorem dL_law_691 : decode cL_law 691 = .ok (.iadd, 1) := by decide +kernel
theorem dL_law_692 : decode cL_law 692 = .ok (.iaload, 1) := by decide +kernel
theorem dL_law_693 : decode cL_law 693 = .ok (.invokevirtual 79, 3) := by decide +kernel
theorem dL_law_696 : decode cL_law 696 = .ok (.aload_n 2, 1) := by decide +kernel
theorem dL_law_697 : decode cL_law 697 = .ok (.aload_n 0, 1) := by decide +kernel
theorem dL_law_698 : decode cL_law 698 = .ok (.iload_n 3, 1) := by decide +kernel
theorem dL_law_699 : decode cL_law 699 = .ok (.iconst 1, 1) := by decide +kernel
theorem dL_law_700 : decode cL_law 700 = .ok (.iadd, 1) := by decide +kernel
theorem dL_law_701 : decode cL_law 701 = .ok (.iaload, 1) := by decide +kernel
theorem dL_law_702 : decode cL_law 702 = .ok (.aload_n 0, 1) := by decide +kernel
theorem dL_law_703 : decode cL_law 703 = .ok (.iload_n 3, 1) := by decide +kernel
theorem dL_law_704 : decode cL_law 704 = .ok (.iconst 2, 1) := by decide +kernel
theorem dL_law_705 : decode cL_law 705 = .ok (.iadd, 1) := by decide +kernel
theorem dL_law_706 : decode cL_law 706 = .ok (.iaload, 1) := by decide +kernel
theorem dL_law_707 : decode cL_law 707 = .ok (.aload_n 0, 1) := by decide +kernel
theorem dL_law_708 : decode cL_law 708 = .ok (.iload_n 3, 1) := by decide +kernel
theorem dL_law_709 : decode cL_law 709 = .ok (.iconst 3, 1) := by decide +kernel
theorem dL_law_710 : decode cL_law 710 = .ok (.iadd, 1) := by decide +kernel
theorem dL_law_711 : decode cL_law 711 = .ok (.iaload, 1) := by decide +kernel
theorem dL_law_712 : decode cL_law 712 = .ok (.invokevirtual 82, 3) := by decide +kernel
theorem dL_law_715 : decode cL_law 715 = .ok (.lcmp, 1) := by decide +kernel
theorem dL_law_716 : decode cL_law 716 = .ok (.ifCond .eq 607, 3) := by decide +kernel
theorem dL_law_719 : decode cL_law 719 = .ok (.iconst 0, 1) := by decide +kernel
theorem dL_law_720 : decode cL_law 720 = .ok (.ireturn, 1) := by decide +kernel
theorem dL_law_721 : decode cL_law 721 = .ok (.aload_n 1, 1) := by decide +kernel
theorem dL_law_722 : decode cL_law 722 = .ok (.aload_n 0, 1) := by decide +kernel
theorem dL_law_723 : decode cL_law 723 = .ok (.iload_n 3, 1) := by decide +kernel
theorem dL_law_724 : decode cL_law 724 = .ok (.iconst 1, 1) := by decide +kernel
theorem dL_law_725 : decode cL_law 725 = .ok (.iadd, 1) := by decide +kernel
theorem dL_law_726 : decode cL_law 726 = .ok (.iaload, 1) := by decide +kernel
theorem dL_law_727 : decode cL_law 727 = .ok (.invokevirtual 83, 3) := by decide +kernel
theorem dL_law_730 : decode cL_law 730 = .ok (.aload_n 2, 1) := by decide +kernel
theorem dL_law_731 : decode cL_law 731 = .ok (.aload_n 0, 1) := by decide +kernel
theorem dL_law_732 : decode cL_law 732 = .ok (.iload_n 3, 1) := by decide +kernel
theorem dL_law_733 : decode cL_law 733 = .ok (.iconst 1, 1) := by decide +kernel
theorem dL_law_734 : decode cL_law 734 = .ok (.iadd, 1) := by decide +kernel
theorem dL_law_735 : decode cL_law 735 = .ok (.iaload, 1) := by decide +kernel
theorem dL_law_736 : decode cL_law 736 = .ok (.invokevirtual 86, 3) := by decide +kernel
theorem dL_law_739 : decode cL_law 739 = .ok (.lcmp, 1) := by decide +kernel
theorem dL_law_740 : decode cL_law 740 = .ok (.ifCond .eq 583, 3) := by decide +kernel
theorem dL_law_743 : decode cL_law 743 = .ok (.iconst 0, 1) := by decide +kernel
theorem dL_law_744 : decode cL_law 744 = .ok (.ireturn, 1) := by decide +kernel
theorem dL_law_745 : decode cL_law 745 = .ok (.aload_n 1, 1) := by decide +kernel
theorem dL_law_746 : decode cL_law 746 = .ok (.aload_n 0, 1) := by decide +kernel
theorem dL_law_747 : decode cL_law 747 = .ok (.iload_n 3, 1) := by decide +kernel
theorem dL_law_748 : decode cL_law 748 = .ok (.iconst 1, 1) := by decide +kernel
theorem dL_law_749 : decode cL_law 749 = .ok (.iadd, 1) := by decide +kernel
theorem dL_law_750 : decode cL_law 750 = .ok (.iaload, 1) := by decide +kernel
theorem dL_law_751 : decode cL_law 751 = .ok (.invokevirtual 87, 3) := by decide +kernel
theorem dL_law_754 : decode cL_law 754 = .ok (.aload_n 2, 1) := by decide +kernel
theorem dL_law_755 : decode cL_law 755 = .ok (.aload_n 0, 1) := by decide +kernel
theorem dL_law_756 : decode cL_law 756 = .ok (.iload_n 3, 1) := by decide +kernel
theorem dL_law_757 : decode cL_law 757 = .ok (.iconst 1, 1) := by decide +kernel
theorem dL_law_758 : decode cL_law 758 = .ok (.iadd, 1) := by decide +kernel
theorem dL_law_759 : decode cL_law 759 = .ok (.iaload, 1) := by decide +kernel
theorem dL_law_760 : decode cL_law 760 = .ok (.invokevirtual 90, 3) := by decide +kernel
theorem dL_law_763 : decode cL_law 763 = .ok (.lcmp, 1) := by decide +kernel
theorem dL_law_764 : decode cL_law 764 = .ok (.ifCond .eq 559, 3) := by decide +kernel
theorem dL_law_767 : decode cL_law 767 = .ok (.iconst 0, 1) := by decide +kernel
theorem dL_law_768 : decode cL_law 768 = .ok (.ireturn, 1) := by decide +kernel
theorem dL_law_769 : decode cL_law 769 = .ok (.aload_n 1, 1) := by decide +kernel
theorem dL_law_770 : decode cL_law 770 = .ok (.aload_n 0, 1) := by decide +kernel
theorem dL_law_771 : decode cL_law 771 = .ok (.iload_n 3, 1) := by decide +kernel
theorem dL_law_772 : decode cL_law 772 = .ok (.iconst 1, 1) := by decide +kernel
theorem dL_law_773 : decode cL_law 773 = .ok (.iadd, 1) := by decide +kernel
theorem dL_law_774 : decode cL_law 774 = .ok (.iaload, 1) := by decide +kernel
theorem dL_law_775 : decode cL_law 775 = .ok (.aload_n 0, 1) := by decide +kernel
theorem dL_law_776 : decode cL_law 776 = .ok (.iload_n 3, 1) := by decide +kernel
theorem dL_law_777 : decode cL_law 777 = .ok (.iconst 2, 1) := by decide +kernel
theorem dL_law_778 : decode cL_law 778 = .ok (.iadd, 1) := by decide +kernel
theorem dL_law_779 : decode cL_law 779 = .ok (.iaload, 1) := by decide +kernel
theorem dL_law_780 : decode cL_law 780 = .ok (.invokevirtual 91, 3) := by decide +kernel
theorem dL_law_783 : decode cL_law 783 = .ok (.aload_n 2, 1) := by decide +kernel
theorem dL_law_784 : decode cL_law 784 = .ok (.aload_n 0, 1) := by decide +kernel
theorem dL_law_785 : decode cL_law 785 = .ok (.iload_n 3, 1) := by decide +kernel
theorem dL_law_786 : decode cL_law 786 = .ok (.iconst 1, 1) := by decide +kernel
theorem dL_law_787 : decode cL_law 787 = .ok (.iadd, 1) := by decide +kernel
theorem dL_law_788 : decode cL_law 788 = .ok (.iaload, 1) := by decide +kernel
theorem dL_law_789 : decode cL_law 789 = .ok (.aload_n 0, 1) := by decide +kernel
theorem dL_law_790 : decode cL_law 790 = .ok (.iload_n 3, 1) := by decide +kernel
theorem dL_law_791 : decode cL_law 791 = .ok (.iconst 2, 1) := by decide +kernel
theorem dL_law_792 : decode cL_law 792 = .ok (.iadd, 1) := by decide +kernel
theorem dL_law_793 : decode cL_law 793 = .ok (.iaload, 1) := by decide +kernel
theorem dL_law_794 : decode cL_law 794 = .ok (.invokevirtual 94, 3) := by decide +kernel
theorem dL_law_797 : decode cL_law 797 = .ok (.lcmp, 1) := by decide +kernel
theorem dL_law_798 : decode cL_law 798 = .ok (.ifCond .eq 525, 3) := by decide +kernel
theorem dL_law_801 : decode cL_law 801 = .ok (.iconst 0, 1) := by decide +kernel
theorem dL_law_802 : decode cL_law 802 = .ok (.ireturn, 1) := by decide +kernel
theorem dL_law_803 : decode cL_law 803 = .ok (.aload_n 1, 1) := by decide +kernel
theorem dL_law_804 : decode cL_law 804 = .ok (.aload_n 0, 1) := by decide +kernel
theorem dL_law_805 : decode cL_law 805 = .ok (.iload_n 3, 1) := by decide +kernel
theorem dL_law_806 : decode cL_law 806 = .ok (.iconst 1, 1) := by decide +kernel
theorem dL_law_807 : decode cL_law 807 = .ok (.iadd, 1) := by decide +kernel
theorem dL_law_808 : decode cL_law 808 = .ok (.iaload, 1) := by decide +kernel
theorem dL_law_809 : decode cL_law 809 = .ok (.aload_n 0, 1) := by decide +kernel
theorem dL_law_810 : decode cL_law 810 = .ok (.iload_n 3, 1) := by decide +kernel
theorem dL_law_811 : decode cL_law 811 = .ok (.iconst 2, 1) := by decide +kernel
theorem dL_law_812 : decode cL_law 812 = .ok (.iadd, 1) := by decide +kernel
theorem dL_law_813 : decode cL_law 813 = .ok (.iaload, 1) := by decide +kernel
theorem dL_law_814 : decode cL_law 814 = .ok (.invokevirtual 95, 3) := by decide +kernel
theorem dL_law_817 : decode cL_law 817 = .ok (.aload_n 2, 1) := by decide +kernel
theorem dL_law_818 : decode cL_law 818 = .ok (.aload_n 0, 1) := by decide +kernel
theorem dL_law_819 : decode cL_law 819 = .ok (.iload_n 3, 1) := by decide +kernel
theorem dL_law_820 : decode cL_law 820 = .ok (.iconst 1, 1) := by decide +kernel
theorem dL_law_821 : decode cL_law 821 = .ok (.iadd, 1) := by decide +kernel
theorem dL_law_822 : decode cL_law 822 = .ok (.iaload, 1) := by decide +kernel
theorem dL_law_823 : decode cL_law 823 = .ok (.aload_n 0, 1) := by decide +kernel
theorem dL_law_824 : decode cL_law 824 = .ok (.iload_n 3, 1) := by decide +kernel
theorem dL_law_825 : decode cL_law 825 = .ok (.iconst 2, 1) := by decide +kernel
theorem dL_law_826 : decode cL_law 826 = .ok (.iadd, 1) := by decide +kernel
theorem dL_law_827 : decode cL_law 827 = .ok (.iaload, 1) := by decide +kernel
theorem dL_law_828 : decode cL_law 828 = .ok (.invokevirtual 98, 3) := by decide +kernel
theorem dL_law_831 : decode cL_law 831 = .ok (.lcmp, 1) := by decide +kernel
theorem dL_law_832 : decode cL_law 832 = .ok (.ifCond .eq 491, 3) := by decide +kernel
theorem dL_law_835 : decode cL_law 835 = .ok (.iconst 0, 1) := by decide +kernel
theorem dL_law_836 : decode cL_law 836 = .ok (.ireturn, 1) := by decide +kernel
theorem dL_law_837 : decode cL_law 837 = .ok (.aload_n 1, 1) := by decide +kernel
theorem dL_law_838 : decode cL_law 838 = .ok (.aload_n 0, 1) := by decide +kernel
theorem dL_law_839 : decode cL_law 839 = .ok (.iload_n 3, 1) := by decide +kernel
theorem dL_law_840 : decode cL_law 840 = .ok (.iconst 1, 1) := by decide +kernel
theorem dL_law_841 : decode cL_law 841 = .ok (.iadd, 1) := by decide +kernel
theorem dL_law_842 : decode cL_law 842 = .ok (.iaload, 1) := by decide +kernel
theorem dL_law_843 : decode cL_law 843 = .ok (.aload_n 0, 1) := by decide +kernel
theorem dL_law_844 : decode cL_law 844 = .ok (.iload_n 3, 1) := by decide +kernel
theorem dL_law_845 : decode cL_law 845 = .ok (.iconst 2, 1) := by decide +kernel
theorem dL_law_846 : decode cL_law 846 = .ok (.iadd, 1) := by decide +kernel
theorem dL_law_847 : decode cL_law 847 = .ok (.iaload, 1) := by decide +kernel
theorem dL_law_848 : decode cL_law 848 = .ok (.invokevirtual 99, 3) := by decide +kernel
theorem dL_law_851 : decode cL_law 851 = .ok (.aload_n 2, 1) := by decide +kernel
theorem dL_law_852 : decode cL_law 852 = .ok (.aload_n 0, 1) := by decide +kernel
theorem dL_law_853 : decode cL_law 853 = .ok (.iload_n 3, 1) := by decide +kernel
theorem dL_law_854 : decode cL_law 854 = .ok (.iconst 1, 1) := by decide +kernel
theorem dL_law_855 : decode cL_law 855 = .ok (.iadd, 1) := by decide +kernel
theorem dL_law_856 : decode cL_law 856 = .ok (.iaload, 1) := by decide +kernel
theorem dL_law_857 : decode cL_law 857 = .ok (.aload_n 0, 1) := by decide +kernel
theorem dL_law_858 : decode cL_law 858 = .ok (.iload_n 3, 1) := by decide +kernel
theorem dL_law_859 : decode cL_law 859 = .ok (.iconst 2, 1) := by decide +kernel
theorem dL_law_860 : decode cL_law 860 = .ok (.iadd, 1) := by decide +kernel
theorem dL_law_861 : decode cL_law 861 = .ok (.iaload, 1) := by decide +kernel
theorem dL_law_862 : decode cL_law 862 = .ok (.invokevirtual 102, 3) := by decide +kernel
theorem dL_law_865 : decode cL_law 865 = .ok (.lcmp, 1) := by decide +kernel
theorem dL_law_866 : decode cL_law 866 = .ok (.ifCond .eq 457, 3) := by decide +kernel
theorem dL_law_869 : decode cL_law 869 = .ok (.iconst 0, 1) := by decide +kernel
theorem dL_law_870 : decode cL_law 870 = .ok (.ireturn, 1) := by decide +kernel
theorem dL_law_871 : decode cL_law 871 = .ok (.aload_n 1, 1) := by decide +kernel
theorem dL_law_872 : decode cL_law 872 = .ok (.aload_n 0, 1) := by decide +kernel
theorem dL_law_873 : decode cL_law 873 = .ok (.iload_n 3, 1) := by decide +kernel
theorem dL_law_874 : decode cL_law 874 = .ok (.iconst 1, 1) := by decide +kernel
theorem dL_law_875 : decode cL_law 875 = .ok (.iadd, 1) := by decide +kernel
theorem dL_law_876 : decode cL_law 876 = .ok (.iaload, 1) := by decide +kernel
theorem dL_law_877 : decode cL_law 877 = .ok (.invokevirtual 103, 3) := by decide +kernel
theorem dL_law_880 : decode cL_law 880 = .ok (.aload_n 2, 1) := by decide +kernel
theorem dL_law_881 : decode cL_law 881 = .ok (.aload_n 0, 1) := by decide +kernel
theorem dL_law_882 : decode cL_law 882 = .ok (.iload_n 3, 1) := by decide +kernel
theorem dL_law_883 : decode cL_law 883 = .ok (.iconst 1, 1) := by decide +kernel
theorem dL_law_884 : decode cL_law 884 = .ok (.iadd, 1) := by decide +kernel
theorem dL_law_885 : decode cL_law 885 = .ok (.iaload, 1) := by decide +kernel
theorem dL_law_886 : decode cL_law 886 = .ok (.invokevirtual 106, 3) := by decide +kernel
theorem dL_law_889 : decode cL_law 889 = .ok (.lcmp, 1) := by decide +kernel
theorem dL_law_890 : decode cL_law 890 = .ok (.ifCond .eq 433, 3) := by decide +kernel
theorem dL_law_893 : decode cL_law 893 = .ok (.iconst 0, 1) := by decide +kernel
theorem dL_law_894 : decode cL_law 894 = .ok (.ireturn, 1) := by decide +kernel
theorem dL_law_895 : decode cL_law 895 = .ok (.aload_n 1, 1) := by decide +kernel
theorem dL_law_896 : decode cL_law 896 = .ok (.invokevirtual 107, 3) := by decide +kernel
theorem dL_law_899 : decode cL_law 899 = .ok (.aload_n 2, 1) := by decide +kernel
theorem dL_law_900 : decode cL_law 900 = .ok (.invokevirtual 110, 3) := by decide +kernel
theorem dL_law_903 : decode cL_law 903 = .ok (.lcmp, 1) := by decide +kernel
theorem dL_law_904 : decode cL_law 904 = .ok (.ifCond .eq 419, 3) := by decide +kernel
theorem dL_law_907 : decode cL_law 907 = .ok (.iconst 0, 1) := by decide +kernel
theorem dL_law_908 : decode cL_law 908 = .ok (.ireturn, 1) := by decide +kernel
theorem dL_law_909 : decode cL_law 909 = .ok (.aload_n 1, 1) := by decide +kernel
theorem dL_law_910 : decode cL_law 910 = .ok (.aload_n 0, 1) := by decide +kernel
theorem dL_law_911 : decode cL_law 911 = .ok (.iload_n 3, 1) := by decide +kernel
theorem dL_law_912 : decode cL_law 912 = .ok (.iconst 1, 1) := by decide +kernel
theorem dL_law_913 : decode cL_law 913 = .ok (.iadd, 1) := by decide +kernel
theorem dL_law_914 : decode cL_law 914 = .ok (.iaload, 1) := by decide +kernel
theorem dL_law_915 : decode cL_law 915 = .ok (.aload_n 0, 1) := by decide +kernel
theorem dL_law_916 : decode cL_law 916 = .ok (.iload_n 3, 1) := by decide +kernel
theorem dL_law_917 : decode cL_law 917 = .ok (.iconst 2, 1) := by decide +kernel
theorem dL_law_918 : decode cL_law 918 = .ok (.iadd, 1) := by decide +kernel
theorem dL_law_919 : decode cL_law 919 = .ok (.iaload, 1) := by decide +kernel
theorem dL_law_920 : decode cL_law 920 = .ok (.invokevirtual 111, 3) := by decide +kernel
theorem dL_law_923 : decode cL_law 923 = .ok (.aload_n 2, 1) := by decide +kernel
theorem dL_law_924 : decode cL_law 924 = .ok (.aload_n 0, 1) := by decide +kernel
theorem dL_law_925 : decode cL_law 925 = .ok (.iload_n 3, 1) := by decide +kernel
theorem dL_law_926 : decode cL_law 926 = .ok (.iconst 1, 1) := by decide +kernel
theorem dL_law_927 : decode cL_law 927 = .ok (.iadd, 1) := by decide +kernel
theorem dL_law_928 : decode cL_law 928 = .ok (.iaload, 1) := by decide +kernel
theorem dL_law_929 : decode cL_law 929 = .ok (.aload_n 0, 1) := by decide +kernel
theorem dL_law_930 : decode cL_law 930 = .ok (.iload_n 3, 1) := by decide +kernel
theorem dL_law_931 : decode cL_law 931 = .ok (.iconst 2, 1) := by decide +kernel
theorem dL_law_932 : decode cL_law 932 = .ok (.iadd, 1) := by decide +kernel
theorem dL_law_933 : decode cL_law 933 = .ok (.iaload, 1) := by decide +kernel
theorem dL_law_934 : decode cL_law 934 = .ok (.invokevirtual 114, 3) := by decide +kernel
theorem dL_law_937 : decode cL_law 937 = .ok (.lcmp, 1) := by decide +kernel
theorem dL_law_938 : decode cL_law 938 = .ok (.ifCond .eq 385, 3) := by decide +kernel
theorem dL_law_941 : decode cL_law 941 = .ok (.iconst 0, 1) := by decide +kernel
theorem dL_law_942 : decode cL_law 942 = .ok (.ireturn, 1) := by decide +kernel
theorem dL_law_943 : decode cL_law 943 = .ok (.aload_n 1, 1) := by decide +kernel
theorem dL_law_944 : decode cL_law 944 = .ok (.aload_n 0, 1) := by decide +kernel
theorem dL_law_945 : decode cL_law 945 = .ok (.iload_n 3, 1) := by decide +kernel
theorem dL_law_946 : decode cL_law 946 = .ok (.iconst 1, 1) := by decide +kernel
theorem dL_law_947 : decode cL_law 947 = .ok (.iadd, 1) := by decide +kernel
theorem dL_law_948 : decode cL_law 948 = .ok (.iaload, 1) := by decide +kernel
theorem dL_law_949 : decode cL_law 949 = .ok (.aload_n 0, 1) := by decide +kernel
theorem dL_law_950 : decode cL_law 950 = .ok (.iload_n 3, 1) := by decide +kernel
theorem dL_law_951 : decode cL_law 951 = .ok (.iconst 2, 1) := by decide +kernel
theorem dL_law_952 : decode cL_law 952 = .ok (.iadd, 1) := by decide +kernel
theorem dL_law_953 : decode cL_law 953 = .ok (.iaload, 1) := by decide +kernel
theorem dL_law_954 : decode cL_law 954 = .ok (.invokevirtual 115, 3) := by decide +kernel
theorem dL_law_957 : decode cL_law 957 = .ok (.aload_n 2, 1) := by decide +kernel
theorem dL_law_958 : decode cL_law 958 = .ok (.aload_n 0, 1) := by decide +kernel
theorem dL_law_959 : decode cL_law 959 = .ok (.iload_n 3, 1) := by decide +kernel
theorem dL_law_960 : decode cL_law 960 = .ok (.iconst 1, 1) := by decide +kernel
theorem dL_law_961 : decode cL_law 961 = .ok (.iadd, 1) := by decide +kernel
theorem dL_law_962 : decode cL_law 962 = .ok (.iaload, 1) := by decide +kernel
theorem dL_law_963 : decode cL_law 963 = .ok (.aload_n 0, 1) := by decide +kernel
theorem dL_law_964 : decode cL_law 964 = .ok (.iload_n 3, 1) := by decide +kernel
theorem dL_law_965 : decode cL_law 965 = .ok (.iconst 2, 1) := by decide +kernel
theorem dL_law_966 : decode cL_law 966 = .ok (.iadd, 1) := by decide +kernel
theorem dL_law_967 : decode cL_law 967 = .ok (.iaload, 1) := by decide +kernel
theorem dL_law_968 : decode cL_law 968 = .ok (.invokevirtual 118, 3) := by decide +kernel
theorem dL_law_971 : decode cL_law 971 = .ok (.lcmp, 1) := by decide +kernel
theorem dL_law_972 : decode cL_law 972 = .ok (.ifCond .eq 351, 3) := by decide +kernel
theorem dL_law_975 : decode cL_law 975 = .ok (.iconst 0, 1) := by decide +kernel
theorem dL_law_976 : decode cL_law 976 = .ok (.ireturn, 1) := by decide +kernel
theorem dL_law_977 : decode cL_law 977 = .ok (.aload_n 1, 1) := by decide +kernel
theorem dL_law_978 : decode cL_law 978 = .ok (.aload_n 0, 1) := by decide +kernel
theorem dL_law_979 : decode cL_law 979 = .ok (.iload_n 3, 1) := by decide +kernel
theorem dL_law_980 : decode cL_law 980 = .ok (.iconst 1, 1) := by decide +kernel
theorem dL_law_981 : decode cL_law 981 = .ok (.iadd, 1) := by decide +kernel
theorem dL_law_982 : decode cL_law 982 = .ok (.iaload, 1) := by decide +kernel
theorem dL_law_983 : decode cL_law 983 = .ok (.aload_n 0, 1) := by decide +kernel
theorem dL_law_984 : decode cL_law 984 = .ok (.iload_n 3, 1) := by decide +kernel
theorem dL_law_985 : decode cL_law 985 = .ok (.iconst 2, 1) := by decide +kernel
theorem dL_law_986 : decode cL_law 986 = .ok (.iadd, 1) := by decide +kernel
theorem dL_law_987 : decode cL_law 987 = .ok (.iaload, 1) := by decide +kernel
theorem dL_law_988 : decode cL_law 988 = .ok (.invokevirtual 119, 3) := by decide +kernel
theorem dL_law_991 : decode cL_law 991 = .ok (.aload_n 2, 1) := by decide +kernel
theorem dL_law_992 : decode cL_law 992 = .ok (.aload_n 0, 1) := by decide +kernel
theorem dL_law_993 : decode cL_law 993 = .ok (.iload_n 3, 1) := by decide +kernel
theorem dL_law_994 : decode cL_law 994 = .ok (.iconst 1, 1) := by decide +kernel
theorem dL_law_995 : decode cL_law 995 = .ok (.iadd, 1) := by decide +kernel
theorem dL_law_996 : decode cL_law 996 = .ok (.iaload, 1) := by decide +kernel
theorem dL_law_997 : decode cL_law 997 = .ok (.aload_n 0, 1) := by decide +kernel
theorem dL_law_998 : decode cL_law 998 = .ok (.iload_n 3, 1) := by decide +kernel
theorem dL_law_999 : decode cL_law 999 = .ok (.iconst 2, 1) := by decide +kernel
theorem dL_law_1000 : decode cL_law 1000 = .ok (.iadd, 1) := by decide +kernel
theorem dL_law_1001 : decode cL_law 1001 = .ok (.iaload, 1) := by decide +kernel
theorem dL_law_1002 : decode cL_law 1002 = .ok (.invokevirtual 122, 3) := by decide +kernel
theorem dL_law_1005 : decode cL_law 1005 = .ok (.lcmp, 1) := by decide +kernel
theorem dL_law_1006 : decode cL_law 1006 = .ok (.ifCond .eq 317, 3) := by decide +kernel
theorem dL_law_1009 : decode cL_law 1009 = .ok (.iconst 0, 1) := by decide +kernel
theorem dL_law_1010 : decode cL_law 1010 = .ok (.ireturn, 1) := by decide +kernel
theorem dL_law_1011 : decode cL_law 1011 = .ok (.aload_n 1, 1) := by decide +kernel
theorem dL_law_1012 : decode cL_law 1012 = .ok (.aload_n 0, 1) := by decide +kernel
theorem dL_law_1013 : decode cL_law 1013 = .ok (.iload_n 3, 1) := by decide +kernel
theorem dL_law_1014 : decode cL_law 1014 = .ok (.iconst 1, 1) := by decide +kernel
theorem dL_law_1015 : decode cL_law 1015 = .ok (.iadd, 1) := by decide +kernel
theorem dL_law_1016 : decode cL_law 1016 = .ok (.iaload, 1) := by decide +kernel
theorem dL_law_1017 : decode cL_law 1017 = .ok (.invokevirtual 123, 3) := by decide +kernel
theorem dL_law_1020 : decode cL_law 1020 = .ok (.aload_n 2, 1) := by decide +kernel
theorem dL_law_1021 : decode cL_law 1021 = .ok (.aload_n 0, 1) := by decide +kernel
theorem dL_law_1022 : decode cL_law 1022 = .ok (.iload_n 3, 1) := by decide +kernel
theorem dL_law_1023 : decode cL_law 1023 = .ok (.iconst 1, 1) := by decide +kernel
theorem dL_law_1024 : decode cL_law 1024 = .ok (.iadd, 1) := by decide +kernel
theorem dL_law_1025 : decode cL_law 1025 = .ok (.iaload, 1) := by decide +kernel
theorem dL_law_1026 : decode cL_law 1026 = .ok (.invokevirtual 126, 3) := by decide +kernel
theorem dL_law_1029 : decode cL_law 1029 = .ok (.lcmp, 1) := by decide +kernel
theorem dL_law_1030 : decode cL_law 1030 = .ok (.ifCond .eq 293, 3) := by decide +kernel
theorem dL_law_1033 : decode cL_law 1033 = .ok (.iconst 0, 1) := by decide +kernel
theorem dL_law_1034 : decode cL_law 1034 = .ok (.ireturn, 1) := by decide +kernel
theorem dL_law_1035 : decode cL_law 1035 = .ok (.aload_n 1, 1) := by decide +kernel
theorem dL_law_1036 : decode cL_law 1036 = .ok (.aload_n 0, 1) := by decide +kernel
theorem dL_law_1037 : decode cL_law 1037 = .ok (.iload_n 3, 1) := by decide +kernel
theorem dL_law_1038 : decode cL_law 1038 = .ok (.iconst 1, 1) := by decide +kernel
theorem dL_law_1039 : decode cL_law 1039 = .ok (.iadd, 1) := by decide +kernel
theorem dL_law_1040 : decode cL_law 1040 = .ok (.iaload, 1) := by decide +kernel
theorem dL_law_1041 : decode cL_law 1041 = .ok (.aload_n 0, 1) := by decide +kernel
theorem dL_law_1042 : decode cL_law 1042 = .ok (.iload_n 3, 1) := by decide +kernel
theorem dL_law_1043 : decode cL_law 1043 = .ok (.iconst 2, 1) := by decide +kernel
theorem dL_law_1044 : decode cL_law 1044 = .ok (.iadd, 1) := by decide +kernel
theorem dL_law_1045 : decode cL_law 1045 = .ok (.iaload, 1) := by decide +kernel
theorem dL_law_1046 : decode cL_law 1046 = .ok (.aload_n 0, 1) := by decide +kernel
theorem dL_law_1047 : decode cL_law 1047 = .ok (.iload_n 3, 1) := by decide +kernel
theorem dL_law_1048 : decode cL_law 1048 = .ok (.iconst 3, 1) := by decide +kernel
theorem dL_law_1049 : decode cL_law 1049 = .ok (.iadd, 1) := by decide +kernel
theorem dL_law_1050 : decode cL_law 1050 = .ok (.iaload, 1) := by decide +kernel
theorem dL_law_1051 : decode cL_law 1051 = .ok (.invokevirtual 127, 3) := by decide +kernel
theorem dL_law_1054 : decode cL_law 1054 = .ok (.aload_n 2, 1) := by decide +kernel
theorem dL_law_1055 : decode cL_law 1055 = .ok (.aload_n 0, 1) := by decide +kernel
theorem dL_law_1056 : decode cL_law 1056 = .ok (.iload_n 3, 1) := by decide +kernel
theorem dL_law_1057 : decode cL_law 1057 = .ok (.iconst 1, 1) := by decide +kernel
theorem dL_law_1058 : decode cL_law 1058 = .ok (.iadd, 1) := by decide +kernel
theorem dL_law_1059 : decode cL_law 1059 = .ok (.iaload, 1) := by decide +kernel
theorem dL_law_1060 : decode cL_law 1060 = .ok (.aload_n 0, 1) := by decide +kernel
theorem dL_law_1061 : decode cL_law 1061 = .ok (.iload_n 3, 1) := by decide +kernel
theorem dL_law_1062 : decode cL_law 1062 = .ok (.iconst 2, 1) := by decide +kernel
theorem dL_law_1063 : decode cL_law 1063 = .ok (.iadd, 1) := by decide +kernel
theorem dL_law_1064 : decode cL_law 1064 = .ok (.iaload, 1) := by decide +kernel
theorem dL_law_1065 : decode cL_law 1065 = .ok (.aload_n 0, 1) := by decide +kernel
theorem dL_law_1066 : decode cL_law 1066 = .ok (.iload_n 3, 1) := by decide +kernel
theorem dL_law_1067 : decode cL_law 1067 = .ok (.iconst 3, 1) := by decide +kernel
theorem dL_law_1068 : decode cL_law 1068 = .ok (.iadd, 1) := by decide +kernel
theorem dL_law_1069 : decode cL_law 1069 = .ok (.iaload, 1) := by decide +kernel
theorem dL_law_1070 : decode cL_law 1070 = .ok (.invokevirtual 130, 3) := by decide +kernel
theorem dL_law_1073 : decode cL_law 1073 = .ok (.lcmp, 1) := by decide +kernel
theorem dL_law_1074 : decode cL_law 1074 = .ok (.ifCond .eq 249, 3) := by decide +kernel
theorem dL_law_1077 : decode cL_law 1077 = .ok (.iconst 0, 1) := by decide +kernel
theorem dL_law_1078 : decode cL_law 1078 = .ok (.ireturn, 1) := by decide +kernel
theorem dL_law_1079 : decode cL_law 1079 = .ok (.aload_n 1, 1) := by decide +kernel
theorem dL_law_1080 : decode cL_law 1080 = .ok (.aload_n 0, 1) := by decide +kernel
theorem dL_law_1081 : decode cL_law 1081 = .ok (.iload_n 3, 1) := by decide +kernel
theorem dL_law_1082 : decode cL_law 1082 = .ok (.iconst 1, 1) := by decide +kernel
theorem dL_law_1083 : decode cL_law 1083 = .ok (.iadd, 1) := by decide +kernel
theorem dL_law_1084 : decode cL_law 1084 = .ok (.iaload, 1) := by decide +kernel
theorem dL_law_1085 : decode cL_law 1085 = .ok (.aload_n 0, 1) := by decide +kernel
theorem dL_law_1086 : decode cL_law 1086 = .ok (.iload_n 3, 1) := by decide +kernel
theorem dL_law_1087 : decode cL_law 1087 = .ok (.iconst 2, 1) := by decide +kernel
theorem dL_law_1088 : decode cL_law 1088 = .ok (.iadd, 1) := by decide +kernel
theorem dL_law_1089 : decode cL_law 1089 = .ok (.iaload, 1) := by decide +kernel
theorem dL_law_1090 : decode cL_law 1090 = .ok (.aload_n 0, 1) := by decide +kernel
theorem dL_law_1091 : decode cL_law 1091 = .ok (.iload_n 3, 1) := by decide +kernel
theorem dL_law_1092 : decode cL_law 1092 = .ok (.iconst 3, 1) := by decide +kernel
theorem dL_law_1093 : decode cL_law 1093 = .ok (.iadd, 1) := by decide +kernel
theorem dL_law_1094 : decode cL_law 1094 = .ok (.iaload, 1) := by decide +kernel
theorem dL_law_1095 : decode cL_law 1095 = .ok (.invokevirtual 131, 3) := by decide +kernel
theorem dL_law_1098 : decode cL_law 1098 = .ok (.aload_n 2, 1) := by decide +kernel
theorem dL_law_1099 : decode cL_law 1099 = .ok (.aload_n 0, 1) := by decide +kernel
theorem dL_law_1100 : decode cL_law 1100 = .ok (.iload_n 3, 1) := by decide +kernel
theorem dL_law_1101 : decode cL_law 1101 = .ok (.iconst 1, 1) := by decide +kernel
theorem dL_law_1102 : decode cL_law 1102 = .ok (.iadd, 1) := by decide +kernel
theorem dL_law_1103 : decode cL_law 1103 = .ok (.iaload, 1) := by decide +kernel
theorem dL_law_1104 : decode cL_law 1104 = .ok (.aload_n 0, 1) := by decide +kernel
theorem dL_law_1105 : decode cL_law 1105 = .ok (.iload_n 3, 1) := by decide +kernel
theorem dL_law_1106 : decode cL_law 1106 = .ok (.iconst 2, 1) := by decide +kernel
theorem dL_law_1107 : decode cL_law 1107 = .ok (.iadd, 1) := by decide +kernel
theorem dL_law_1108 : decode cL_law 1108 = .ok (.iaload, 1) := by decide +kernel
theorem dL_law_1109 : decode cL_law 1109 = .ok (.aload_n 0, 1) := by decide +kernel
theorem dL_law_1110 : decode cL_law 1110 = .ok (.iload_n 3, 1) := by decide +kernel
theorem dL_law_1111 : decode cL_law 1111 = .ok (.iconst 3, 1) := by decide +kernel
theorem dL_law_1112 : decode cL_law 1112 = .ok (.iadd, 1) := by decide +kernel
theorem dL_law_1113 : decode cL_law 1113 = .ok (.iaload, 1) := by decide +kernel
theorem dL_law_1114 : decode cL_law 1114 = .ok (.invokevirtual 134, 3) := by decide +kernel
theorem dL_law_1117 : decode cL_law 1117 = .ok (.lcmp, 1) := by decide +kernel
theorem dL_law_1118 : decode cL_law 1118 = .ok (.ifCond .eq 205, 3) := by decide +kernel
theorem dL_law_1121 : decode cL_law 1121 = .ok (.iconst 0, 1) := by decide +kernel
theorem dL_law_1122 : decode cL_law 1122 = .ok (.ireturn, 1) := by decide +kernel
theorem dL_law_1123 : decode cL_law 1123 = .ok (.aload_n 1, 1) := by decide +kernel
theorem dL_law_1124 : decode cL_law 1124 = .ok (.aload_n 0, 1) := by decide +kernel
theorem dL_law_1125 : decode cL_law 1125 = .ok (.iload_n 3, 1) := by decide +kernel
theorem dL_law_1126 : decode cL_law 1126 = .ok (.iconst 1, 1) := by decide +kernel
theorem dL_law_1127 : decode cL_law 1127 = .ok (.iadd, 1) := by decide +kernel
theorem dL_law_1128 : decode cL_law 1128 = .ok (.iaload, 1) := by decide +kernel
theorem dL_law_1129 : decode cL_law 1129 = .ok (.invokevirtual 135, 3) := by decide +kernel
theorem dL_law_1132 : decode cL_law 1132 = .ok (.aload_n 2, 1) := by decide +kernel
theorem dL_law_1133 : decode cL_law 1133 = .ok (.aload_n 0, 1) := by decide +kernel
theorem dL_law_1134 : decode cL_law 1134 = .ok (.iload_n 3, 1) := by decide +kernel
theorem dL_law_1135 : decode cL_law 1135 = .ok (.iconst 1, 1) := by decide +kernel
theorem dL_law_1136 : decode cL_law 1136 = .ok (.iadd, 1) := by decide +kernel
theorem dL_law_1137 : decode cL_law 1137 = .ok (.iaload, 1) := by decide +kernel
theorem dL_law_1138 : decode cL_law 1138 = .ok (.invokevirtual 138, 3) := by decide +kernel
theorem dL_law_1141 : decode cL_law 1141 = .ok (.lcmp, 1) := by decide +kernel
theorem dL_law_1142 : decode cL_law 1142 = .ok (.ifCond .eq 181, 3) := by decide +kernel
theorem dL_law_1145 : decode cL_law 1145 = .ok (.iconst 0, 1) := by decide +kernel
theorem dL_law_1146 : decode cL_law 1146 = .ok (.ireturn, 1) := by decide +kernel
theorem dL_law_1147 : decode cL_law 1147 = .ok (.aload_n 1, 1) := by decide +kernel
theorem dL_law_1148 : decode cL_law 1148 = .ok (.aload_n 0, 1) := by decide +kernel
theorem dL_law_1149 : decode cL_law 1149 = .ok (.iload_n 3, 1) := by decide +kernel
theorem dL_law_1150 : decode cL_law 1150 = .ok (.iconst 1, 1) := by decide +kernel
theorem dL_law_1151 : decode cL_law 1151 = .ok (.iadd, 1) := by decide +kernel
theorem dL_law_1152 : decode cL_law 1152 = .ok (.iaload, 1) := by decide +kernel
theorem dL_law_1153 : decode cL_law 1153 = .ok (.invokevirtual 139, 3) := by decide +kernel
theorem dL_law_1156 : decode cL_law 1156 = .ok (.aload_n 2, 1) := by decide +kernel
theorem dL_law_1157 : decode cL_law 1157 = .ok (.aload_n 0, 1) := by decide +kernel
theorem dL_law_1158 : decode cL_law 1158 = .ok (.iload_n 3, 1) := by decide +kernel
theorem dL_law_1159 : decode cL_law 1159 = .ok (.iconst 1, 1) := by decide +kernel
theorem dL_law_1160 : decode cL_law 1160 = .ok (.iadd, 1) := by decide +kernel
theorem dL_law_1161 : decode cL_law 1161 = .ok (.iaload, 1) := by decide +kernel
theorem dL_law_1162 : decode cL_law 1162 = .ok (.invokevirtual 142, 3) := by decide +kernel
theorem dL_law_1165 : decode cL_law 1165 = .ok (.lcmp, 1) := by decide +kernel
theorem dL_law_1166 : decode cL_law 1166 = .ok (.ifCond .eq 157, 3) := by decide +kernel
theorem dL_law_1169 : decode cL_law 1169 = .ok (.iconst 0, 1) := by decide +kernel
theorem dL_law_1170 : decode cL_law 1170 = .ok (.ireturn, 1) := by decide +kernel
theorem dL_law_1171 : decode cL_law 1171 = .ok (.aload_n 1, 1) := by decide +kernel
theorem dL_law_1172 : decode cL_law 1172 = .ok (.aload_n 0, 1) := by decide +kernel
theorem dL_law_1173 : decode cL_law 1173 = .ok (.iload_n 3, 1) := by decide +kernel
theorem dL_law_1174 : decode cL_law 1174 = .ok (.iconst 1, 1) := by decide +kernel
theorem dL_law_1175 : decode cL_law 1175 = .ok (.iadd, 1) := by decide +kernel
theorem dL_law_1176 : decode cL_law 1176 = .ok (.iaload, 1) := by decide +kernel
theorem dL_law_1177 : decode cL_law 1177 = .ok (.invokevirtual 143, 3) := by decide +kernel
theorem dL_law_1180 : decode cL_law 1180 = .ok (.aload_n 2, 1) := by decide +kernel
theorem dL_law_1181 : decode cL_law 1181 = .ok (.aload_n 0, 1) := by decide +kernel
theorem dL_law_1182 : decode cL_law 1182 = .ok (.iload_n 3, 1) := by decide +kernel
theorem dL_law_1183 : decode cL_law 1183 = .ok (.iconst 1, 1) := by decide +kernel
theorem dL_law_1184 : decode cL_law 1184 = .ok (.iadd, 1) := by decide +kernel
theorem dL_law_1185 : decode cL_law 1185 = .ok (.iaload, 1) := by decide +kernel
theorem dL_law_1186 : decode cL_law 1186 = .ok (.invokevirtual 146, 3) := by decide +kernel
theorem dL_law_1189 : decode cL_law 1189 = .ok (.lcmp, 1) := by decide +kernel
theorem dL_law_1190 : decode cL_law 1190 = .ok (.ifCond .eq 133, 3) := by decide +kernel
theorem dL_law_1193 : decode cL_law 1193 = .ok (.iconst 0, 1) := by decide +kernel
theorem dL_law_1194 : decode cL_law 1194 = .ok (.ireturn, 1) := by decide +kernel
theorem dL_law_1195 : decode cL_law 1195 = .ok (.aload_n 1, 1) := by decide +kernel
theorem dL_law_1196 : decode cL_law 1196 = .ok (.aload_n 0, 1) := by decide +kernel
theorem dL_law_1197 : decode cL_law 1197 = .ok (.iload_n 3, 1) := by decide +kernel
theorem dL_law_1198 : decode cL_law 1198 = .ok (.iconst 1, 1) := by decide +kernel
theorem dL_law_1199 : decode cL_law 1199 = .ok (.iadd, 1) := by decide +kernel
theorem dL_law_1200 : decode cL_law 1200 = .ok (.iaload, 1) := by decide +kernel
theorem dL_law_1201 : decode cL_law 1201 = .ok (.aload_n 0, 1) := by decide +kernel
theorem dL_law_1202 : decode cL_law 1202 = .ok (.iload_n 3, 1) := by decide +kernel
theorem dL_law_1203 : decode cL_law 1203 = .ok (.iconst 2, 1) := by decide +kernel
theorem dL_law_1204 : decode cL_law 1204 = .ok (.iadd, 1) := by decide +kernel
theorem dL_law_1205 : decode cL_law 1205 = .ok (.iaload, 1) := by decide +kernel
theorem dL_law_1206 : decode cL_law 1206 = .ok (.invokevirtual 147, 3) := by decide +kernel
theorem dL_law_1209 : decode cL_law 1209 = .ok (.aload_n 2, 1) := by decide +kernel
theorem dL_law_1210 : decode cL_law 1210 = .ok (.aload_n 0, 1) := by decide +kernel
theorem dL_law_1211 : decode cL_law 1211 = .ok (.iload_n 3, 1) := by decide +kernel
theorem dL_law_1212 : decode cL_law 1212 = .ok (.iconst 1, 1) := by decide +kernel
theorem dL_law_1213 : decode cL_law 1213 = .ok (.iadd, 1) := by decide +kernel
theorem dL_law_1214 : decode cL_law 1214 = .ok (.iaload, 1) := by decide +kernel
theorem dL_law_1215 : decode cL_law 1215 = .ok (.aload_n 0, 1) := by decide +kernel
theorem dL_law_1216 : decode cL_law 1216 = .ok (.iload_n 3, 1) := by decide +kernel
theorem dL_law_1217 : decode cL_law 1217 = .ok (.iconst 2, 1) := by decide +kernel
theorem dL_law_1218 : decode cL_law 1218 = .ok (.iadd, 1) := by decide +kernel
theorem dL_law_1219 : decode cL_law 1219 = .ok (.iaload, 1) := by decide +kernel
theorem dL_law_1220 : decode cL_law 1220 = .ok (.invokevirtual 150, 3) := by decide +kernel
theorem dL_law_1223 : decode cL_law 1223 = .ok (.lcmp, 1) := by decide +kernel
theorem dL_law_1224 : decode cL_law 1224 = .ok (.ifCond .eq 99, 3) := by decide +kernel
theorem dL_law_1227 : decode cL_law 1227 = .ok (.iconst 0, 1) := by decide +kernel
theorem dL_law_1228 : decode cL_law 1228 = .ok (.ireturn, 1) := by decide +kernel
theorem dL_law_1229 : decode cL_law 1229 = .ok (.aload_n 1, 1) := by decide +kernel
theorem dL_law_1230 : decode cL_law 1230 = .ok (.aload_n 0, 1) := by decide +kernel
theorem dL_law_1231 : decode cL_law 1231 = .ok (.iload_n 3, 1) := by decide +kernel
theorem dL_law_1232 : decode cL_law 1232 = .ok (.iconst 1, 1) := by decide +kernel
theorem dL_law_1233 : decode cL_law 1233 = .ok (.iadd, 1) := by decide +kernel
theorem dL_law_1234 : decode cL_law 1234 = .ok (.iaload, 1) := by decide +kernel
theorem dL_law_1235 : decode cL_law 1235 = .ok (.aload_n 0, 1) := by decide +kernel
theorem dL_law_1236 : decode cL_law 1236 = .ok (.iload_n 3, 1) := by decide +kernel
theorem dL_law_1237 : decode cL_law 1237 = .ok (.iconst 2, 1) := by decide +kernel
theorem dL_law_1238 : decode cL_law 1238 = .ok (.iadd, 1) := by decide +kernel
theorem dL_law_1239 : decode cL_law 1239 = .ok (.iaload, 1) := by decide +kernel
theorem dL_law_1240 : decode cL_law 1240 = .ok (.invokevirtual 151, 3) := by decide +kernel
theorem dL_law_1243 : decode cL_law 1243 = .ok (.aload_n 2, 1) := by decide +kernel
theorem dL_law_1244 : decode cL_law 1244 = .ok (.aload_n 0, 1) := by decide +kernel
theorem dL_law_1245 : decode cL_law 1245 = .ok (.iload_n 3, 1) := by decide +kernel
theorem dL_law_1246 : decode cL_law 1246 = .ok (.iconst 1, 1) := by decide +kernel
theorem dL_law_1247 : decode cL_law 1247 = .ok (.iadd, 1) := by decide +kernel
theorem dL_law_1248 : decode cL_law 1248 = .ok (.iaload, 1) := by decide +kernel
theorem dL_law_1249 : decode cL_law 1249 = .ok (.aload_n 0, 1) := by decide +kernel
theorem dL_law_1250 : decode cL_law 1250 = .ok (.iload_n 3, 1) := by decide +kernel
theorem dL_law_1251 : decode cL_law 1251 = .ok (.iconst 2, 1) := by decide +kernel
theorem dL_law_1252 : decode cL_law 1252 = .ok (.iadd, 1) := by decide +kernel
theorem dL_law_1253 : decode cL_law 1253 = .ok (.iaload, 1) := by decide +kernel
theorem dL_law_1254 : decode cL_law 1254 = .ok (.invokevirtual 154, 3) := by decide +kernel
theorem dL_law_1257 : decode cL_law 1257 = .ok (.lcmp, 1) := by decide +kernel
theorem dL_law_1258 : decode cL_law 1258 = .ok (.ifCond .eq 65, 3) := by decide +kernel
theorem dL_law_1261 : decode cL_law 1261 = .ok (.iconst 0, 1) := by decide +kernel
theorem dL_law_1262 : decode cL_law 1262 = .ok (.ireturn, 1) := by decide +kernel
theorem dL_law_1263 : decode cL_law 1263 = .ok (.aload_n 1, 1) := by decide +kernel
theorem dL_law_1264 : decode cL_law 1264 = .ok (.aload_n 0, 1) := by decide +kernel
theorem dL_law_1265 : decode cL_law 1265 = .ok (.iload_n 3, 1) := by decide +kernel
theorem dL_law_1266 : decode cL_law 1266 = .ok (.iconst 1, 1) := by decide +kernel
theorem dL_law_1267 : decode cL_law 1267 = .ok (.iadd, 1) := by decide +kernel
theorem dL_law_1268 : decode cL_law 1268 = .ok (.iaload, 1) := by decide +kernel
theorem dL_law_1269 : decode cL_law 1269 = .ok (.invokevirtual 155, 3) := by decide +kernel
theorem dL_law_1272 : decode cL_law 1272 = .ok (.aload_n 2, 1) := by decide +kernel
theorem dL_law_1273 : decode cL_law 1273 = .ok (.aload_n 0, 1) := by decide +kernel
theorem dL_law_1274 : decode cL_law 1274 = .ok (.iload_n 3, 1) := by decide +kernel
theorem dL_law_1275 : decode cL_law 1275 = .ok (.iconst 1, 1) := by decide +kernel
theorem dL_law_1276 : decode cL_law 1276 = .ok (.iadd, 1) := by decide +kernel
theorem dL_law_1277 : decode cL_law 1277 = .ok (.iaload, 1) := by decide +kernel
theorem dL_law_1278 : decode cL_law 1278 = .ok (.invokevirtual 159, 3) := by decide +kernel
theorem dL_law_1281 : decode cL_law 1281 = .ok (.if_icmp .eq 42, 3) := by decide +kernel
theorem dL_law_1284 : decode cL_law 1284 = .ok (.iconst 0, 1) := by decide +kernel
theorem dL_law_1285 : decode cL_law 1285 = .ok (.ireturn, 1) := by decide +kernel
theorem dL_law_1286 : decode cL_law 1286 = .ok (.aload_n 1, 1) := by decide +kernel
theorem dL_law_1287 : decode cL_law 1287 = .ok (.aload_n 0, 1) := by decide +kernel
theorem dL_law_1288 : decode cL_law 1288 = .ok (.iload_n 3, 1) := by decide +kernel
theorem dL_law_1289 : decode cL_law 1289 = .ok (.iconst 1, 1) := by decide +kernel
theorem dL_law_1290 : decode cL_law 1290 = .ok (.iadd, 1) := by decide +kernel
theorem dL_law_1291 : decode cL_law 1291 = .ok (.iaload, 1) := by decide +kernel
theorem dL_law_1292 : decode cL_law 1292 = .ok (.invokevirtual 160, 3) := by decide +kernel
theorem dL_law_1295 : decode cL_law 1295 = .ok (.aload_n 2, 1) := by decide +kernel
theorem dL_law_1296 : decode cL_law 1296 = .ok (.aload_n 0, 1) := by decide +kernel
theorem dL_law_1297 : decode cL_law 1297 = .ok (.iload_n 3, 1) := by decide +kernel
theorem dL_law_1298 : decode cL_law 1298 = .ok (.iconst 1, 1) := by decide +kernel
theorem dL_law_1299 : decode cL_law 1299 = .ok (.iadd, 1) := by decide +kernel
theorem dL_law_1300 : decode cL_law 1300 = .ok (.iaload, 1) := by decide +kernel
theorem dL_law_1301 : decode cL_law 1301 = .ok (.invokevirtual 163, 3) := by decide +kernel
theorem dL_law_1304 : decode cL_law 1304 = .ok (.lcmp, 1) := by decide +kernel
theorem dL_law_1305 : decode cL_law 1305 = .ok (.ifCond .eq 18, 3) := by decide +kernel
theorem dL_law_1308 : decode cL_law 1308 = .ok (.iconst 0, 1) := by decide +kernel
theorem dL_law_1309 : decode cL_law 1309 = .ok (.ireturn, 1) := by decide +kernel
theorem dL_law_1310 : decode cL_law 1310 = .ok (.aload_n 1, 1) := by decide +kernel
theorem dL_law_1311 : decode cL_law 1311 = .ok (.invokevirtual 164, 3) := by decide +kernel
theorem dL_law_1314 : decode cL_law 1314 = .ok (.aload_n 2, 1) := by decide +kernel
theorem dL_law_1315 : decode cL_law 1315 = .ok (.invokevirtual 167, 3) := by decide +kernel
theorem dL_law_1318 : decode cL_law 1318 = .ok (.if_icmp .eq 5, 3) := by decide +kernel
theorem dL_law_1321 : decode cL_law 1321 = .ok (.iconst 0, 1) := by decide +kernel
theorem dL_law_1322 : decode cL_law 1322 = .ok (.ireturn, 1) := by decide +kernel
theorem dL_law_1323 : decode cL_law 1323 = .ok (.iinc 3 6, 3) := by decide +kernel
theorem dL_law_1326 : decode cL_law 1326 = .ok (.goto (-1308), 3) := by decide +kernel
theorem dL_law_1329 : decode cL_law 1329 = .ok (.iconst 1, 1) := by decide +kernel
theorem dL_law_1330 : decode cL_law 1330 = .ok (.ireturn, 1) := by decide +kernel
