theorem dX12_set_102 : decode cX12_set 102 = .ok (.getfield 16, 3) := by decide +kernel
theorem dX12_set_105 : decode cX12_set 105 = .ok (.bipush 40, 2) := by decide +kernel
theorem dX12_set_107 : decode cX12_set 107 = .ok (.iload_n 1, 1) := by decide +kernel
theorem dX12_set_108 : decode cX12_set 108 = .ok (.imul, 1) := by decide +kernel
theorem dX12_set_109 : decode cX12_set 109 = .ok (.iload_n 2, 1) := by decide +kernel
theorem dX12_set_110 : decode cX12_set 110 = .ok (.iadd, 1) := by decide +kernel
theorem dX12_set_111 : decode cX12_set 111 = .ok (.iaload, 1) := by decide +kernel
theorem dX12_set_112 : decode cX12_set 112 = .ok (.i2l, 1) := by decide +kernel
theorem dX12_set_113 : decode cX12_set 113 = .ok (.lreturn, 1) := by decide +kernel
theorem dX12_copy_0 : decode cX12_copy 0 = .ok (.aload_n 0, 1) := by decide +kernel
theorem dX12_copy_1 : decode cX12_copy 1 = .ok (.iconst 0, 1) := by decide +kernel
theorem dX12_copy_2 : decode cX12_copy 2 = .ok (.putfield 86, 3) := by decide +kernel
theorem dX12_copy_5 : decode cX12_copy 5 = .ok (.iload_n 1, 1) := by decide +kernel
theorem dX12_copy_6 : decode cX12_copy 6 = .ok (.invokestatic 100, 3) := by decide +kernel
theorem dX12_copy_9 : decode cX12_copy 9 = .ok (.ifCond .eq 10, 3) := by decide +kernel
theorem dX12_copy_12 : decode cX12_copy 12 = .ok (.iload_n 3, 1) := by decide +kernel
theorem dX12_copy_13 : decode cX12_copy 13 = .ok (.invokestatic 100, 3) := by decide +kernel
theorem dX12_copy_16 : decode cX12_copy 16 = .ok (.ifCond .ne 7, 3) := by decide +kernel
theorem dX12_copy_19 : decode cX12_copy 19 = .ok (.ldc2_w 106, 3) := by decide +kernel
theorem dX12_copy_22 : decode cX12_copy 22 = .ok (.lreturn, 1) := by decide +kernel
theorem dX12_copy_23 : decode cX12_copy 23 = .ok (.aload_n 0, 1) := by decide +kernel
theorem dX12_copy_24 : decode cX12_copy 24 = .ok (.iconst 0, 1) := by decide +kernel
theorem dX12_copy_25 : decode cX12_copy 25 = .ok (.putfield 89, 3) := by decide +kernel
theorem dX12_copy_28 : decode cX12_copy 28 = .ok (.aload_n 0, 1) := by decide +kernel
theorem dX12_copy_29 : decode cX12_copy 29 = .ok (.getfield 9, 3) := by decide +kernel
theorem dX12_copy_32 : decode cX12_copy 32 = .ok (.iload_n 1, 1) := by decide +kernel
theorem dX12_copy_33 : decode cX12_copy 33 = .ok (.iaload, 1) := by decide +kernel
theorem dX12_copy_34 : decode cX12_copy 34 = .ok (.ifCond .lt 12, 3) := by decide +kernel
theorem dX12_copy_37 : decode cX12_copy 37 = .ok (.aload_n 0, 1) := by decide +kernel
theorem dX12_copy_38 : decode cX12_copy 38 = .ok (.getfield 9, 3) := by decide +kernel
theorem dX12_copy_41 : decode cX12_copy 41 = .ok (.iload_n 3, 1) := by decide +kernel
theorem dX12_copy_42 : decode cX12_copy 42 = .ok (.iaload, 1) := by decide +kernel
theorem dX12_copy_43 : decode cX12_copy 43 = .ok (.ifCond .ge 9, 3) := by decide +kernel
theorem dX12_copy_46 : decode cX12_copy 46 = .ok (.aload_n 0, 1) := by decide +kernel
theorem dX12_copy_47 : decode cX12_copy 47 = .ok (.iconst 1, 1) := by decide +kernel
theorem dX12_copy_48 : decode cX12_copy 48 = .ok (.invokevirtual 108, 3) := by decide +kernel
theorem dX12_copy_51 : decode cX12_copy 51 = .ok (.lreturn, 1) := by decide +kernel
theorem dX12_copy_52 : decode cX12_copy 52 = .ok (.aload_n 0, 1) := by decide +kernel
theorem dX12_copy_53 : decode cX12_copy 53 = .ok (.getfield 9, 3) := by decide +kernel
theorem dX12_copy_56 : decode cX12_copy 56 = .ok (.iload_n 1, 1) := by decide +kernel
theorem dX12_copy_57 : decode cX12_copy 57 = .ok (.iaload, 1) := by decide +kernel
theorem dX12_copy_58 : decode cX12_copy 58 = .ok (.aload_n 0, 1) := by decide +kernel
theorem dX12_copy_59 : decode cX12_copy 59 = .ok (.getfield 9, 3) := by decide +kernel
theorem dX12_copy_62 : decode cX12_copy 62 = .ok (.iload_n 3, 1) := by decide +kernel
theorem dX12_copy_63 : decode cX12_copy 63 = .ok (.iaload, 1) := by decide +kernel
theorem dX12_copy_64 : decode cX12_copy 64 = .ok (.if_icmp .eq 9, 3) := by decide +kernel
theorem dX12_copy_67 : decode cX12_copy 67 = .ok (.aload_n 0, 1) := by decide +kernel
theorem dX12_copy_68 : decode cX12_copy 68 = .ok (.iconst 5, 1) := by decide +kernel
theorem dX12_copy_69 : decode cX12_copy 69 = .ok (.invokevirtual 108, 3) := by decide +kernel
theorem dX12_copy_72 : decode cX12_copy 72 = .ok (.lreturn, 1) := by decide +kernel
theorem dX12_copy_73 : decode cX12_copy 73 = .ok (.iload_n 2, 1) := by decide +kernel
theorem dX12_copy_74 : decode cX12_copy 74 = .ok (.ifCond .lt 48, 3) := by decide +kernel
theorem dX12_copy_77 : decode cX12_copy 77 = .ok (.iload 4, 2) := by decide +kernel
theorem dX12_copy_79 : decode cX12_copy 79 = .ok (.ifCond .lt 43, 3) := by decide +kernel
theorem dX12_copy_82 : decode cX12_copy 82 = .ok (.iload 5, 2) := by decide +kernel
theorem dX12_copy_84 : decode cX12_copy 84 = .ok (.ifCond .lt 38, 3) := by decide +kernel
theorem dX12_copy_87 : decode cX12_copy 87 = .ok (.iload_n 2, 1) := by decide +kernel
theorem dX12_copy_88 : decode cX12_copy 88 = .ok (.i2l, 1) := by decide +kernel
theorem dX12_copy_89 : decode cX12_copy 89 = .ok (.iload 5, 2) := by decide +kernel
theorem dX12_copy_91 : decode cX12_copy 91 = .ok (.i2l, 1) := by decide +kernel
theorem dX12_copy_92 : decode cX12_copy 92 = .ok (.ladd, 1) := by decide +kernel
theorem dX12_copy_93 : decode cX12_copy 93 = .ok (.aload_n 0, 1) := by decide +kernel
theorem dX12_copy_94 : decode cX12_copy 94 = .ok (.getfield 13, 3) := by decide +kernel
theorem dX12_copy_97 : decode cX12_copy 97 = .ok (.iload_n 1, 1) := by decide +kernel
theorem dX12_copy_98 : decode cX12_copy 98 = .ok (.iaload, 1) := by decide +kernel
theorem dX12_copy_99 : decode cX12_copy 99 = .ok (.i2l, 1) := by decide +kernel
theorem dX12_copy_100 : decode cX12_copy 100 = .ok (.lcmp, 1) := by decide +kernel
theorem dX12_copy_101 : decode cX12_copy 101 = .ok (.ifCond .gt 21, 3) := by decide +kernel
theorem dX12_copy_104 : decode cX12_copy 104 = .ok (.iload 4, 2) := by decide +kernel
theorem dX12_copy_106 : decode cX12_copy 106 = .ok (.i2l, 1) := by decide +kernel
theorem dX12_copy_107 : decode cX12_copy 107 = .ok (.iload 5, 2) := by decide +kernel
theorem dX12_copy_109 : decode cX12_copy 109 = .ok (.i2l, 1) := by decide +kernel
theorem dX12_copy_110 : decode cX12_copy 110 = .ok (.ladd, 1) := by decide +kernel
theorem dX12_copy_111 : decode cX12_copy 111 = .ok (.aload_n 0, 1) := by decide +kernel
theorem dX12_copy_112 : decode cX12_copy 112 = .ok (.getfield 13, 3) := by decide +kernel
theorem dX12_copy_115 : decode cX12_copy 115 = .ok (.iload_n 3, 1) := by decide +kernel
theorem dX12_copy_116 : decode cX12_copy 116 = .ok (.iaload, 1) := by decide +kernel
theorem dX12_copy_117 : decode cX12_copy 117 = .ok (.i2l, 1) := by decide +kernel
theorem dX12_copy_118 : decode cX12_copy 118 = .ok (.lcmp, 1) := by decide +kernel
theorem dX12_copy_119 : decode cX12_copy 119 = .ok (.ifCond .le 9, 3) := by decide +kernel
theorem dX12_copy_122 : decode cX12_copy 122 = .ok (.aload_n 0, 1) := by decide +kernel
theorem dX12_copy_123 : decode cX12_copy 123 = .ok (.iconst 2, 1) := by decide +kernel
theorem dX12_copy_124 : decode cX12_copy 124 = .ok (.invokevirtual 108, 3) := by decide +kernel
theorem dX12_copy_127 : decode cX12_copy 127 = .ok (.lreturn, 1) := by decide +kernel
theorem dX12_copy_128 : decode cX12_copy 128 = .ok (.iload_n 2, 1) := by decide +kernel
theorem dX12_copy_129 : decode cX12_copy 129 = .ok (.iload 4, 2) := by decide +kernel
theorem dX12_copy_131 : decode cX12_copy 131 = .ok (.if_icmp .lt 7, 3) := by decide +kernel
theorem dX12_copy_134 : decode cX12_copy 134 = .ok (.iconst 1, 1) := by decide +kernel
theorem dX12_copy_135 : decode cX12_copy 135 = .ok (.goto 4, 3) := by decide +kernel
theorem dX12_copy_138 : decode cX12_copy 138 = .ok (.iconst 0, 1) := by decide +kernel
theorem dX12_copy_139 : decode cX12_copy 139 = .ok (.istore 6, 2) := by decide +kernel
theorem dX12_copy_141 : decode cX12_copy 141 = .ok (.iconst 0, 1) := by decide +kernel
theorem dX12_copy_142 : decode cX12_copy 142 = .ok (.istore 7, 2) := by decide +kernel
theorem dX12_copy_144 : decode cX12_copy 144 = .ok (.iload 7, 2) := by decide +kernel
theorem dX12_copy_146 : decode cX12_copy 146 = .ok (.iload 5, 2) := by decide +kernel
theorem dX12_copy_148 : decode cX12_copy 148 = .ok (.if_icmp .ge 57, 3) := by decide +kernel
theorem dX12_copy_151 : decode cX12_copy 151 = .ok (.iload 6, 2) := by decide +kernel
theorem dX12_copy_153 : decode cX12_copy 153 = .ok (.ifCond .eq 8, 3) := by decide +kernel
theorem dX12_copy_156 : decode cX12_copy 156 = .ok (.iload 7, 2) := by decide +kernel
theorem dX12_copy_158 : decode cX12_copy 158 = .ok (.goto 10, 3) := by decide +kernel
theorem dX12_copy_161 : decode cX12_copy 161 = .ok (.iload 5, 2) := by decide +kernel
theorem dX12_copy_163 : decode cX12_copy 163 = .ok (.iconst 1, 1) := by decide +kernel
theorem dX12_copy_164 : decode cX12_copy 164 = .ok (.isub, 1) := by decide +kernel
theorem dX12_copy_165 : decode cX12_copy 165 = .ok (.iload 7, 2) := by decide +kernel
theorem dX12_copy_167 : decode cX12_copy 167 = .ok (.isub, 1) := by decide +kernel
theorem dX12_copy_168 : decode cX12_copy 168 = .ok (.istore 8, 2) := by decide +kernel
theorem dX12_copy_170 : decode cX12_copy 170 = .ok (.aload_n 0, 1) := by decide +kernel
theorem dX12_copy_171 : decode cX12_copy 171 = .ok (.getfield 16, 3) := by decide +kernel
theorem dX12_copy_174 : decode cX12_copy 174 = .ok (.bipush 40, 2) := by decide +kernel
theorem dX12_copy_176 : decode cX12_copy 176 = .ok (.iload_n 3, 1) := by decide +kernel
theorem dX12_copy_177 : decode cX12_copy 177 = .ok (.imul, 1) := by decide +kernel
theorem dX12_copy_178 : decode cX12_copy 178 = .ok (.iload 4, 2) := by decide +kernel
theorem dX12_copy_180 : decode cX12_copy 180 = .ok (.iadd, 1) := by decide +kernel
theorem dX12_copy_181 : decode cX12_copy 181 = .ok (.iload 8, 2) := by decide +kernel
theorem dX12_copy_183 : decode cX12_copy 183 = .ok (.iadd, 1) := by decide +kernel
theorem dX12_copy_184 : decode cX12_copy 184 = .ok (.aload_n 0, 1) := by decide +kernel
theorem dX12_copy_185 : decode cX12_copy 185 = .ok (.getfield 16, 3) := by decide +kernel
theorem dX12_copy_188 : decode cX12_copy 188 = .ok (.bipush 40, 2) := by decide +kernel
theorem dX12_copy_190 : decode cX12_copy 190 = .ok (.iload_n 1, 1) := by decide +kernel
theorem dX12_copy_191 : decode cX12_copy 191 = .ok (.imul, 1) := by decide +kernel
theorem dX12_copy_192 : decode cX12_copy 192 = .ok (.iload_n 2, 1) := by decide +kernel
theorem dX12_copy_193 : decode cX12_copy 193 = .ok (.iadd, 1) := by decide +kernel
theorem dX12_copy_194 : decode cX12_copy 194 = .ok (.iload 8, 2) := by decide +kernel
theorem dX12_copy_196 : decode cX12_copy 196 = .ok (.iadd, 1) := by decide +kernel
theorem dX12_copy_197 : decode cX12_copy 197 = .ok (.iaload, 1) := by decide +kernel
theorem dX12_copy_198 : decode cX12_copy 198 = .ok (.iastore, 1) := by decide +kernel
theorem dX12_copy_199 : decode cX12_copy 199 = .ok (.iinc 7 1, 3) := by decide +kernel
theorem dX12_copy_202 : decode cX12_copy 202 = .ok (.goto (-58), 3) := by decide +kernel
theorem dX12_copy_205 : decode cX12_copy 205 = .ok (.iload 5, 2) := by decide +kernel
theorem dX12_copy_207 : decode cX12_copy 207 = .ok (.i2l, 1) := by decide +kernel
theorem dX12_copy_208 : decode cX12_copy 208 = .ok (.lreturn, 1) := by decide +kernel
theorem dX12_drop_0 : decode cX12_drop 0 = .ok (.aload_n 0, 1) := by decide +kernel
theorem dX12_drop_1 : decode cX12_drop 1 = .ok (.iconst 0, 1) := by decide +kernel
theorem dX12_drop_2 : decode cX12_drop 2 = .ok (.putfield 86, 3) := by decide +kernel
theorem dX12_drop_5 : decode cX12_drop 5 = .ok (.iload_n 1, 1) := by decide +kernel
theorem dX12_drop_6 : decode cX12_drop 6 = .ok (.invokestatic 100, 3) := by decide +kernel
theorem dX12_drop_9 : decode cX12_drop 9 = .ok (.ifCond .ne 7, 3) := by decide +kernel
theorem dX12_drop_12 : decode cX12_drop 12 = .ok (.ldc2_w 106, 3) := by decide +kernel
theorem dX12_drop_15 : decode cX12_drop 15 = .ok (.lreturn, 1) := by decide +kernel
theorem dX12_drop_16 : decode cX12_drop 16 = .ok (.aload_n 0, 1) := by decide +kernel
theorem dX12_drop_17 : decode cX12_drop 17 = .ok (.iconst 0, 1) := by decide +kernel
theorem dX12_drop_18 : decode cX12_drop 18 = .ok (.putfield 89, 3) := by decide +kernel
theorem dX12_drop_21 : decode cX12_drop 21 = .ok (.aload_n 0, 1) := by decide +kernel
theorem dX12_drop_22 : decode cX12_drop 22 = .ok (.getfield 9, 3) := by decide +kernel
theorem dX12_drop_25 : decode cX12_drop 25 = .ok (.iload_n 1, 1) := by decide +kernel
theorem dX12_drop_26 : decode cX12_drop 26 = .ok (.iaload, 1) := by decide +kernel
theorem dX12_drop_27 : decode cX12_drop 27 = .ok (.ifCond .ge 9, 3) := by decide +kernel
theorem dX12_drop_30 : decode cX12_drop 30 = .ok (.aload_n 0, 1) := by decide +kernel
theorem dX12_drop_31 : decode cX12_drop 31 = .ok (.iconst 1, 1) := by decide +kernel
theorem dX12_drop_32 : decode cX12_drop 32 = .ok (.invokevirtual 108, 3) := by decide +kernel
theorem dX12_drop_35 : decode cX12_drop 35 = .ok (.lreturn, 1) := by decide +kernel
theorem dX12_drop_36 : decode cX12_drop 36 = .ok (.aload_n 0, 1) := by decide +kernel
theorem dX12_drop_37 : decode cX12_drop 37 = .ok (.getfield 9, 3) := by decide +kernel
theorem dX12_drop_40 : decode cX12_drop 40 = .ok (.iload_n 1, 1) := by decide +kernel
theorem dX12_drop_41 : decode cX12_drop 41 = .ok (.iconst (-1), 1) := by decide +kernel
theorem dX12_drop_42 : decode cX12_drop 42 = .ok (.iastore, 1) := by decide +kernel
theorem dX12_drop_43 : decode cX12_drop 43 = .ok (.aload_n 0, 1) := by decide +kernel
theorem dX12_drop_44 : decode cX12_drop 44 = .ok (.getfield 13, 3) := by decide +kernel
theorem dX12_drop_47 : decode cX12_drop 47 = .ok (.iload_n 1, 1) := by decide +kernel
theorem dX12_drop_48 : decode cX12_drop 48 = .ok (.iaload, 1) := by decide +kernel
theorem dX12_drop_49 : decode cX12_drop 49 = .ok (.i2l, 1) := by decide +kernel
theorem dX12_drop_50 : decode cX12_drop 50 = .ok (.lreturn, 1) := by decide +kernel
theorem dX12_feed_0 : decode cX12_feed 0 = .ok (.aload_n 0, 1) := by decide +kernel
theorem dX12_feed_1 : decode cX12_feed 1 = .ok (.iconst 0, 1) := by decide +kernel
theorem dX12_feed_2 : decode cX12_feed 2 = .ok (.putfield 86, 3) := by decide +kernel
theorem dX12_feed_5 : decode cX12_feed 5 = .ok (.iload_n 3, 1) := by decide +kernel
theorem dX12_feed_6 : decode cX12_feed 6 = .ok (.i2l, 1) := by decide +kernel
theorem dX12_feed_7 : decode cX12_feed 7 = .ok (.lconst 1, 1) := by decide +kernel
theorem dX12_feed_8 : decode cX12_feed 8 = .ok (.ldc2_w 112, 3) := by decide +kernel
theorem dX12_feed_11 : decode cX12_feed 11 = .ok (.invokestatic 96, 3) := by decide +kernel
theorem dX12_feed_14 : decode cX12_feed 14 = .ok (.ifCond .ne 7, 3) := by decide +kernel
theorem dX12_feed_17 : decode cX12_feed 17 = .ok (.ldc2_w 106, 3) := by decide +kernel
theorem dX12_feed_20 : decode cX12_feed 20 = .ok (.lreturn, 1) := by decide +kernel
theorem dX12_feed_21 : decode cX12_feed 21 = .ok (.aload_n 0, 1) := by decide +kernel
theorem dX12_feed_22 : decode cX12_feed 22 = .ok (.getfield 114, 3) := by decide +kernel
theorem dX12_feed_25 : decode cX12_feed 25 = .ok (.iload_n 3, 1) := by decide +kernel
theorem dX12_feed_26 : decode cX12_feed 26 = .ok (.iadd, 1) := by decide +kernel
theorem dX12_feed_27 : decode cX12_feed 27 = .ok (.sipush 600, 3) := by decide +kernel
theorem dX12_feed_30 : decode cX12_feed 30 = .ok (.if_icmp .le 7, 3) := by decide +kernel
theorem dX12_feed_33 : decode cX12_feed 33 = .ok (.ldc2_w 117, 3) := by decide +kernel
theorem dX12_feed_36 : decode cX12_feed 36 = .ok (.lreturn, 1) := by decide +kernel
theorem dX12_feed_37 : decode cX12_feed 37 = .ok (.iload_n 3, 1) := by decide +kernel
theorem dX12_feed_38 : decode cX12_feed 38 = .ok (.iconst 1, 1) := by decide +kernel
theorem dX12_feed_39 : decode cX12_feed 39 = .ok (.isub, 1) := by decide +kernel
theorem dX12_feed_40 : decode cX12_feed 40 = .ok (.istore 4, 2) := by decide +kernel
theorem dX12_feed_42 : decode cX12_feed 42 = .ok (.iload 4, 2) := by decide +kernel
theorem dX12_feed_44 : decode cX12_feed 44 = .ok (.ifCond .lt 40, 3) := by decide +kernel
theorem dX12_feed_47 : decode cX12_feed 47 = .ok (.aload_n 0, 1) := by decide +kernel
theorem dX12_feed_48 : decode cX12_feed 48 = .ok (.getfield 25, 3) := by decide +kernel
theorem dX12_feed_51 : decode cX12_feed 51 = .ok (.aload_n 0, 1) := by decide +kernel
theorem dX12_feed_52 : decode cX12_feed 52 = .ok (.getfield 114, 3) := by decide +kernel
theorem dX12_feed_55 : decode cX12_feed 55 = .ok (.lload_n 1, 1) := by decide +kernel
theorem dX12_feed_56 : decode cX12_feed 56 = .ok (.bipush 8, 2) := by decide +kernel
theorem dX12_feed_58 : decode cX12_feed 58 = .ok (.iload 4, 2) := by decide +kernel
theorem dX12_feed_60 : decode cX12_feed 60 = .ok (.imul, 1) := by decide +kernel
theorem dX12_feed_61 : decode cX12_feed 61 = .ok (.lshr, 1) := by decide +kernel
theorem dX12_feed_62 : decode cX12_feed 62 = .ok (.ldc2_w 119, 3) := by decide +kernel
theorem dX12_feed_65 : decode cX12_feed 65 = .ok (.land, 1) := by decide +kernel
theorem dX12_feed_66 : decode cX12_feed 66 = .ok (.l2i, 1) := by decide +kernel
theorem dX12_feed_67 : decode cX12_feed 67 = .ok (.iastore, 1) := by decide +kernel
theorem dX12_feed_68 : decode cX12_feed 68 = .ok (.aload_n 0, 1) := by decide +kernel
theorem dX12_feed_69 : decode cX12_feed 69 = .ok (.dup, 1) := by decide +kernel
theorem dX12_feed_70 : decode cX12_feed 70 = .ok (.getfield 114, 3) := by decide +kernel
theorem dX12_feed_73 : decode cX12_feed 73 = .ok (.iconst 1, 1) := by decide +kernel
theorem dX12_feed_74 : decode cX12_feed 74 = .ok (.iadd, 1) := by decide +kernel
theorem dX12_feed_75 : decode cX12_feed 75 = .ok (.putfield 114, 3) := by decide +kernel
theorem dX12_feed_78 : decode cX12_feed 78 = .ok (.iinc 4 (-1), 3) := by decide +kernel
theorem dX12_feed_81 : decode cX12_feed 81 = .ok (.goto (-39), 3) := by decide +kernel
theorem dX12_feed_84 : decode cX12_feed 84 = .ok (.aload_n 0, 1) := by decide +kernel
theorem dX12_feed_85 : decode cX12_feed 85 = .ok (.getfield 114, 3) := by decide +kernel
theorem dX12_feed_88 : decode cX12_feed 88 = .ok (.i2l, 1) := by decide +kernel
theorem dX12_feed_89 : decode cX12_feed 89 = .ok (.lreturn, 1) := by decide +kernel
theorem dX12_byteAt_0 : decode cX12_byteAt 0 = .ok (.iload_n 1, 1) := by decide +kernel
theorem dX12_byteAt_1 : decode cX12_byteAt 1 = .ok (.aload_n 0, 1) := by decide +kernel
theorem dX12_byteAt_2 : decode cX12_byteAt 2 = .ok (.getfield 121, 3) := by decide +kernel
theorem dX12_byteAt_5 : decode cX12_byteAt 5 = .ok (.if_icmp .ge 12, 3) := by decide +kernel
theorem dX12_byteAt_8 : decode cX12_byteAt 8 = .ok (.aload_n 0, 1) := by decide +kernel
theorem dX12_byteAt_9 : decode cX12_byteAt 9 = .ok (.getfield 25, 3) := by decide +kernel
theorem dX12_byteAt_12 : decode cX12_byteAt 12 = .ok (.iload_n 1, 1) := by decide +kernel
theorem dX12_byteAt_13 : decode cX12_byteAt 13 = .ok (.iaload, 1) := by decide +kernel
theorem dX12_byteAt_14 : decode cX12_byteAt 14 = .ok (.goto 5, 3) := by decide +kernel
theorem dX12_byteAt_17 : decode cX12_byteAt 17 = .ok (.ldc 28, 2) := by decide +kernel
theorem dX12_byteAt_19 : decode cX12_byteAt 19 = .ok (.ireturn, 1) := by decide +kernel
theorem dX12_isLetter_0 : decode cX12_isLetter 0 = .ok (.iload_n 0, 1) := by decide +kernel
theorem dX12_isLetter_1 : decode cX12_isLetter 1 = .ok (.bipush 97, 2) := by decide +kernel
theorem dX12_isLetter_3 : decode cX12_isLetter 3 = .ok (.if_icmp .lt 13, 3) := by decide +kernel
theorem dX12_isLetter_6 : decode cX12_isLetter 6 = .ok (.iload_n 0, 1) := by decide +kernel
theorem dX12_isLetter_7 : decode cX12_isLetter 7 = .ok (.bipush 122, 2) := by decide +kernel
theorem dX12_isLetter_9 : decode cX12_isLetter 9 = .ok (.if_icmp .gt 7, 3) := by decide +kernel
theorem dX12_isLetter_12 : decode cX12_isLetter 12 = .ok (.iconst 1, 1) := by decide +kernel
theorem dX12_isLetter_13 : decode cX12_isLetter 13 = .ok (.goto 4, 3) := by decide +kernel
theorem dX12_isLetter_16 : decode cX12_isLetter 16 = .ok (.iconst 0, 1) := by decide +kernel
theorem dX12_isLetter_17 : decode cX12_isLetter 17 = .ok (.ireturn, 1) := by decide +kernel
theorem dX12_isFigure_0 : decode cX12_isFigure 0 = .ok (.iload_n 0, 1) := by decide +kernel
theorem dX12_isFigure_1 : decode cX12_isFigure 1 = .ok (.bipush 48, 2) := by decide +kernel
theorem dX12_isFigure_3 : decode cX12_isFigure 3 = .ok (.if_icmp .lt 13, 3) := by decide +kernel
theorem dX12_isFigure_6 : decode cX12_isFigure 6 = .ok (.iload_n 0, 1) := by decide +kernel
theorem dX12_isFigure_7 : decode cX12_isFigure 7 = .ok (.bipush 57, 2) := by decide +kernel
theorem dX12_isFigure_9 : decode cX12_isFigure 9 = .ok (.if_icmp .gt 7, 3) := by decide +kernel
theorem dX12_isFigure_12 : decode cX12_isFigure 12 = .ok (.iconst 1, 1) := by decide +kernel
theorem dX12_isFigure_13 : decode cX12_isFigure 13 = .ok (.goto 4, 3) := by decide +kernel
theorem dX12_isFigure_16 : decode cX12_isFigure 16 = .ok (.iconst 0, 1) := by decide +kernel
theorem dX12_isFigure_17 : decode cX12_isFigure 17 = .ok (.ireturn, 1) := by decide +kernel
theorem dX12_next_0 : decode cX12_next 0 = .ok (.aload_n 0, 1) := by decide +kernel
theorem dX12_next_1 : decode cX12_next 1 = .ok (.aload_n 0, 1) := by decide +kernel
theorem dX12_next_2 : decode cX12_next 2 = .ok (.getfield 124, 3) := by decide +kernel
theorem dX12_next_5 : decode cX12_next 5 = .ok (.invokevirtual 127, 3) := by decide +kernel
theorem dX12_next_8 : decode cX12_next 8 = .ok (.bipush 32, 2) := by decide +kernel
theorem dX12_next_10 : decode cX12_next 10 = .ok (.if_icmp .eq 16, 3) := by decide +kernel
theorem dX12_next_13 : decode cX12_next 13 = .ok (.aload_n 0, 1) := by decide +kernel
theorem dX12_next_14 : decode cX12_next 14 = .ok (.aload_n 0, 1) := by decide +kernel
theorem dX12_next_15 : decode cX12_next 15 = .ok (.getfield 124, 3) := by decide +kernel
theorem dX12_next_18 : decode cX12_next 18 = .ok (.invokevirtual 127, 3) := by decide +kernel
theorem dX12_next_21 : decode cX12_next 21 = .ok (.bipush 10, 2) := by decide +kernel
theorem dX12_next_23 : decode cX12_next 23 = .ok (.if_icmp .ne 16, 3) := by decide +kernel
theorem dX12_next_26 : decode cX12_next 26 = .ok (.aload_n 0, 1) := by decide +kernel
theorem dX12_next_27 : decode cX12_next 27 = .ok (.dup, 1) := by decide +kernel
theorem dX12_next_28 : decode cX12_next 28 = .ok (.getfield 124, 3) := by decide +kernel
theorem dX12_next_31 : decode cX12_next 31 = .ok (.iconst 1, 1) := by decide +kernel
theorem dX12_next_32 : decode cX12_next 32 = .ok (.iadd, 1) := by decide +kernel
theorem dX12_next_33 : decode cX12_next 33 = .ok (.putfield 124, 3) := by decide +kernel
theorem dX12_next_36 : decode cX12_next 36 = .ok (.goto (-36), 3) := by decide +kernel
theorem dX12_next_39 : decode cX12_next 39 = .ok (.aload_n 0, 1) := by decide +kernel
theorem dX12_next_40 : decode cX12_next 40 = .ok (.aload_n 0, 1) := by decide +kernel
theorem dX12_next_41 : decode cX12_next 41 = .ok (.getfield 124, 3) := by decide +kernel
theorem dX12_next_44 : decode cX12_next 44 = .ok (.putfield 131, 3) := by decide +kernel
theorem dX12_next_47 : decode cX12_next 47 = .ok (.aload_n 0, 1) := by decide +kernel
theorem dX12_next_48 : decode cX12_next 48 = .ok (.aload_n 0, 1) := by decide +kernel
theorem dX12_next_49 : decode cX12_next 49 = .ok (.getfield 124, 3) := by decide +kernel
theorem dX12_next_52 : decode cX12_next 52 = .ok (.invokevirtual 127, 3) := by decide +kernel
theorem dX12_next_55 : decode cX12_next 55 = .ok (.istore_n 1, 1) := by decide +kernel
theorem dX12_next_56 : decode cX12_next 56 = .ok (.iload_n 1, 1) := by decide +kernel
theorem dX12_next_57 : decode cX12_next 57 = .ok (.ldc 28, 2) := by decide +kernel
theorem dX12_next_59 : decode cX12_next 59 = .ok (.if_icmp .ne 11, 3) := by decide +kernel
theorem dX12_next_62 : decode cX12_next 62 = .ok (.aload_n 0, 1) := by decide +kernel
theorem dX12_next_63 : decode cX12_next 63 = .ok (.iconst 1, 1) := by decide +kernel
theorem dX12_next_64 : decode cX12_next 64 = .ok (.putfield 134, 3) := by decide +kernel
theorem dX12_next_67 : decode cX12_next 67 = .ok (.goto 129, 3) := by decide +kernel
theorem dX12_next_70 : decode cX12_next 70 = .ok (.iload_n 1, 1) := by decide +kernel
theorem dX12_next_71 : decode cX12_next 71 = .ok (.invokestatic 137, 3) := by decide +kernel
theorem dX12_next_74 : decode cX12_next 74 = .ok (.ifCond .eq 38, 3) := by decide +kernel
theorem dX12_next_77 : decode cX12_next 77 = .ok (.aload_n 0, 1) := by decide +kernel
theorem dX12_next_78 : decode cX12_next 78 = .ok (.aload_n 0, 1) := by decide +kernel
theorem dX12_next_79 : decode cX12_next 79 = .ok (.getfield 124, 3) := by decide +kernel
theorem dX12_next_82 : decode cX12_next 82 = .ok (.invokevirtual 127, 3) := by decide +kernel
theorem dX12_next_85 : decode cX12_next 85 = .ok (.invokestatic 137, 3) := by decide +kernel
theorem dX12_next_88 : decode cX12_next 88 = .ok (.ifCond .eq 16, 3) := by decide +kernel
theorem dX12_next_91 : decode cX12_next 91 = .ok (.aload_n 0, 1) := by decide +kernel
theorem dX12_next_92 : decode cX12_next 92 = .ok (.dup, 1) := by decide +kernel
theorem dX12_next_93 : decode cX12_next 93 = .ok (.getfield 124, 3) := by decide +kernel
theorem dX12_next_96 : decode cX12_next 96 = .ok (.iconst 1, 1) := by decide +kernel
theorem dX12_next_97 : decode cX12_next 97 = .ok (.iadd, 1) := by decide +kernel
theorem dX12_next_98 : decode cX12_next 98 = .ok (.putfield 124, 3) := by decide +kernel
theorem dX12_next_101 : decode cX12_next 101 = .ok (.goto (-24), 3) := by decide +kernel
theorem dX12_next_104 : decode cX12_next 104 = .ok (.aload_n 0, 1) := by decide +kernel
theorem dX12_next_105 : decode cX12_next 105 = .ok (.iconst 2, 1) := by decide +kernel
theorem dX12_next_106 : decode cX12_next 106 = .ok (.putfield 134, 3) := by decide +kernel
theorem dX12_next_109 : decode cX12_next 109 = .ok (.goto 87, 3) := by decide +kernel
theorem dX12_next_112 : decode cX12_next 112 = .ok (.iload_n 1, 1) := by decide +kernel
theorem dX12_next_113 : decode cX12_next 113 = .ok (.invokestatic 140, 3) := by decide +kernel
theorem dX12_next_116 : decode cX12_next 116 = .ok (.ifCond .eq 55, 3) := by decide +kernel
theorem dX12_next_119 : decode cX12_next 119 = .ok (.aload_n 0, 1) := by decide +kernel
theorem dX12_next_120 : decode cX12_next 120 = .ok (.aload_n 0, 1) := by decide +kernel
theorem dX12_next_121 : decode cX12_next 121 = .ok (.getfield 124, 3) := by decide +kernel
theorem dX12_next_124 : decode cX12_next 124 = .ok (.invokevirtual 127, 3) := by decide +kernel
theorem dX12_next_127 : decode cX12_next 127 = .ok (.invokestatic 140, 3) := by decide +kernel
theorem dX12_next_130 : decode cX12_next 130 = .ok (.ifCond .eq 16, 3) := by decide +kernel
theorem dX12_next_133 : decode cX12_next 133 = .ok (.aload_n 0, 1) := by decide +kernel
theorem dX12_next_134 : decode cX12_next 134 = .ok (.dup, 1) := by decide +kernel
theorem dX12_next_135 : decode cX12_next 135 = .ok (.getfield 124, 3) := by decide +kernel
theorem dX12_next_138 : decode cX12_next 138 = .ok (.iconst 1, 1) := by decide +kernel
theorem dX12_next_139 : decode cX12_next 139 = .ok (.iadd, 1) := by decide +kernel
theorem dX12_next_140 : decode cX12_next 140 = .ok (.putfield 124, 3) := by decide +kernel
theorem dX12_next_143 : decode cX12_next 143 = .ok (.goto (-24), 3) := by decide +kernel
theorem dX12_next_146 : decode cX12_next 146 = .ok (.aload_n 0, 1) := by decide +kernel
theorem dX12_next_147 : decode cX12_next 147 = .ok (.aload_n 0, 1) := by decide +kernel
theorem dX12_next_148 : decode cX12_next 148 = .ok (.getfield 124, 3) := by decide +kernel
theorem dX12_next_151 : decode cX12_next 151 = .ok (.aload_n 0, 1) := by decide +kernel
theorem dX12_next_152 : decode cX12_next 152 = .ok (.getfield 131, 3) := by decide +kernel
theorem dX12_next_155 : decode cX12_next 155 = .ok (.isub, 1) := by decide +kernel
theorem dX12_next_156 : decode cX12_next 156 = .ok (.iconst 3, 1) := by decide +kernel
theorem dX12_next_157 : decode cX12_next 157 = .ok (.if_icmp .le 7, 3) := by decide +kernel
theorem dX12_next_160 : decode cX12_next 160 = .ok (.iconst 0, 1) := by decide +kernel
theorem dX12_next_161 : decode cX12_next 161 = .ok (.goto 4, 3) := by decide +kernel
theorem dX12_next_164 : decode cX12_next 164 = .ok (.iconst 3, 1) := by decide +kernel
theorem dX12_next_165 : decode cX12_next 165 = .ok (.putfield 134, 3) := by decide +kernel
theorem dX12_next_168 : decode cX12_next 168 = .ok (.goto 28, 3) := by decide +kernel
theorem dX12_next_171 : decode cX12_next 171 = .ok (.aload_n 0, 1) := by decide +kernel
theorem dX12_next_172 : decode cX12_next 172 = .ok (.dup, 1) := by decide +kernel
theorem dX12_next_173 : decode cX12_next 173 = .ok (.getfield 124, 3) := by decide +kernel
theorem dX12_next_176 : decode cX12_next 176 = .ok (.iconst 1, 1) := by decide +kernel
theorem dX12_next_177 : decode cX12_next 177 = .ok (.iadd, 1) := by decide +kernel
theorem dX12_next_178 : decode cX12_next 178 = .ok (.putfield 124, 3) := by decide +kernel
theorem dX12_next_181 : decode cX12_next 181 = .ok (.aload_n 0, 1) := by decide +kernel
theorem dX12_next_182 : decode cX12_next 182 = .ok (.iload_n 1, 1) := by decide +kernel
theorem dX12_next_183 : decode cX12_next 183 = .ok (.bipush 59, 2) := by decide +kernel
theorem dX12_next_185 : decode cX12_next 185 = .ok (.if_icmp .ne 7, 3) := by decide +kernel
theorem dX12_next_188 : decode cX12_next 188 = .ok (.iconst 4, 1) := by decide +kernel
theorem dX12_next_189 : decode cX12_next 189 = .ok (.goto 4, 3) := by decide +kernel
theorem dX12_next_192 : decode cX12_next 192 = .ok (.iconst 0, 1) := by decide +kernel
theorem dX12_next_193 : decode cX12_next 193 = .ok (.putfield 134, 3) := by decide +kernel
theorem dX12_next_196 : decode cX12_next 196 = .ok (.aload_n 0, 1) := by decide +kernel
theorem dX12_next_197 : decode cX12_next 197 = .ok (.aload_n 0, 1) := by decide +kernel
theorem dX12_next_198 : decode cX12_next 198 = .ok (.getfield 124, 3) := by decide +kernel
theorem dX12_next_201 : decode cX12_next 201 = .ok (.putfield 143, 3) := by decide +kernel
theorem dX12_next_204 : decode cX12_next 204 = .ok (.return_, 1) := by decide +kernel
theorem dX12_bad_0 : decode cX12_bad 0 = .ok (.aload_n 0, 1) := by decide +kernel
theorem dX12_bad_1 : decode cX12_bad 1 = .ok (.getfield 146, 3) := by decide +kernel
theorem dX12_bad_4 : decode cX12_bad 4 = .ok (.ifCond .ne 16, 3) := by decide +kernel
theorem dX12_bad_7 : decode cX12_bad 7 = .ok (.aload_n 0, 1) := by decide +kernel
theorem dX12_bad_8 : decode cX12_bad 8 = .ok (.iload_n 1, 1) := by decide +kernel
theorem dX12_bad_9 : decode cX12_bad 9 = .ok (.putfield 146, 3) := by decide +kernel
theorem dX12_bad_12 : decode cX12_bad 12 = .ok (.aload_n 0, 1) := by decide +kernel
theorem dX12_bad_13 : decode cX12_bad 13 = .ok (.aload_n 0, 1) := by decide +kernel
theorem dX12_bad_14 : decode cX12_bad 14 = .ok (.getfield 131, 3) := by decide +kernel
theorem dX12_bad_17 : decode cX12_bad 17 = .ok (.putfield 149, 3) := by decide +kernel
theorem dX12_bad_20 : decode cX12_bad 20 = .ok (.return_, 1) := by decide +kernel
theorem dX12_must_0 : decode cX12_must 0 = .ok (.iload_n 1, 1) := by decide +kernel
theorem dX12_must_1 : decode cX12_must 1 = .ok (.ifCond .ne 8, 3) := by decide +kernel
theorem dX12_must_4 : decode cX12_must 4 = .ok (.aload_n 0, 1) := by decide +kernel
theorem dX12_must_5 : decode cX12_must 5 = .ok (.iconst 1, 1) := by decide +kernel
theorem dX12_must_6 : decode cX12_must 6 = .ok (.invokevirtual 152, 3) := by decide +kernel
theorem dX12_must_9 : decode cX12_must 9 = .ok (.aload_n 0, 1) := by decide +kernel
theorem dX12_must_10 : decode cX12_must 10 = .ok (.getfield 146, 3) := by decide +kernel
theorem dX12_must_13 : decode cX12_must 13 = .ok (.ifCond .ne 7, 3) := by decide +kernel
theorem dX12_must_16 : decode cX12_must 16 = .ok (.aload_n 0, 1) := by decide +kernel
theorem dX12_must_17 : decode cX12_must 17 = .ok (.invokevirtual 156, 3) := by decide +kernel
theorem dX12_must_20 : decode cX12_must 20 = .ok (.return_, 1) := by decide +kernel
theorem dX12_word_0 : decode cX12_word 0 = .ok (.lconst 0, 1) := by decide +kernel
theorem dX12_word_1 : decode cX12_word 1 = .ok (.lstore_n 1, 1) := by decide +kernel
theorem dX12_word_2 : decode cX12_word 2 = .ok (.aload_n 0, 1) := by decide +kernel
theorem dX12_word_3 : decode cX12_word 3 = .ok (.getfield 131, 3) := by decide +kernel
theorem dX12_word_6 : decode cX12_word 6 = .ok (.istore_n 3, 1) := by decide +kernel
theorem dX12_word_7 : decode cX12_word 7 = .ok (.iload_n 3, 1) := by decide +kernel
theorem dX12_word_8 : decode cX12_word 8 = .ok (.aload_n 0, 1) := by decide +kernel
theorem dX12_word_9 : decode cX12_word 9 = .ok (.getfield 143, 3) := by decide +kernel
theorem dX12_word_12 : decode cX12_word 12 = .ok (.if_icmp .ge 44, 3) := by decide +kernel
theorem dX12_word_15 : decode cX12_word 15 = .ok (.aload_n 0, 1) := by decide +kernel
theorem dX12_word_16 : decode cX12_word 16 = .ok (.getfield 134, 3) := by decide +kernel
theorem dX12_word_19 : decode cX12_word 19 = .ok (.iconst 2, 1) := by decide +kernel
theorem dX12_word_20 : decode cX12_word 20 = .ok (.if_icmp .ne 36, 3) := by decide +kernel
theorem dX12_word_23 : decode cX12_word 23 = .ok (.aload_n 0, 1) := by decide +kernel
theorem dX12_word_24 : decode cX12_word 24 = .ok (.getfield 143, 3) := by decide +kernel
theorem dX12_word_27 : decode cX12_word 27 = .ok (.aload_n 0, 1) := by decide +kernel
theorem dX12_word_28 : decode cX12_word 28 = .ok (.getfield 131, 3) := by decide +kernel
theorem dX12_word_31 : decode cX12_word 31 = .ok (.isub, 1) := by decide +kernel
theorem dX12_word_32 : decode cX12_word 32 = .ok (.bipush 8, 2) := by decide +kernel
theorem dX12_word_34 : decode cX12_word 34 = .ok (.if_icmp .ge 22, 3) := by decide +kernel
theorem dX12_word_37 : decode cX12_word 37 = .ok (.lload_n 1, 1) := by decide +kernel
theorem dX12_word_38 : decode cX12_word 38 = .ok (.bipush 8, 2) := by decide +kernel
theorem dX12_word_40 : decode cX12_word 40 = .ok (.lshl, 1) := by decide +kernel
theorem dX12_word_41 : decode cX12_word 41 = .ok (.aload_n 0, 1) := by decide +kernel
theorem dX12_word_42 : decode cX12_word 42 = .ok (.getfield 25, 3) := by decide +kernel
theorem dX12_word_45 : decode cX12_word 45 = .ok (.iload_n 3, 1) := by decide +kernel
theorem dX12_word_46 : decode cX12_word 46 = .ok (.iaload, 1) := by decide +kernel
theorem dX12_word_47 : decode cX12_word 47 = .ok (.i2l, 1) := by decide +kernel
theorem dX12_word_48 : decode cX12_word 48 = .ok (.lor, 1) := by decide +kernel
theorem dX12_word_49 : decode cX12_word 49 = .ok (.lstore_n 1, 1) := by decide +kernel
theorem dX12_word_50 : decode cX12_word 50 = .ok (.iinc 3 1, 3) := by decide +kernel
theorem dX12_word_53 : decode cX12_word 53 = .ok (.goto (-46), 3) := by decide +kernel
theorem dX12_word_56 : decode cX12_word 56 = .ok (.aload_n 0, 1) := by decide +kernel
theorem dX12_word_57 : decode cX12_word 57 = .ok (.getfield 146, 3) := by decide +kernel
theorem dX12_word_60 : decode cX12_word 60 = .ok (.ifCond .ne 7, 3) := by decide +kernel
theorem dX12_word_63 : decode cX12_word 63 = .ok (.lload_n 1, 1) := by decide +kernel
theorem dX12_word_64 : decode cX12_word 64 = .ok (.goto 4, 3) := by decide +kernel
theorem dX12_word_67 : decode cX12_word 67 = .ok (.lconst 0, 1) := by decide +kernel
theorem dX12_word_68 : decode cX12_word 68 = .ok (.lreturn, 1) := by decide +kernel
theorem dX12_number_0 : decode cX12_number 0 = .ok (.aload_n 0, 1) := by decide +kernel
theorem dX12_number_1 : decode cX12_number 1 = .ok (.getfield 146, 3) := by decide +kernel
theorem dX12_number_4 : decode cX12_number 4 = .ok (.ifCond .le 4, 3) := by decide +kernel
theorem dX12_number_7 : decode cX12_number 7 = .ok (.return_, 1) := by decide +kernel
theorem dX12_number_8 : decode cX12_number 8 = .ok (.iconst 0, 1) := by decide +kernel
theorem dX12_number_9 : decode cX12_number 9 = .ok (.istore 4, 2) := by decide +kernel
theorem dX12_number_11 : decode cX12_number 11 = .ok (.aload_n 0, 1) := by decide +kernel
theorem dX12_number_12 : decode cX12_number 12 = .ok (.getfield 131, 3) := by decide +kernel
theorem dX12_number_15 : decode cX12_number 15 = .ok (.istore 5, 2) := by decide +kernel
theorem dX12_number_17 : decode cX12_number 17 = .ok (.iload 5, 2) := by decide +kernel
theorem dX12_number_19 : decode cX12_number 19 = .ok (.aload_n 0, 1) := by decide +kernel
theorem dX12_number_20 : decode cX12_number 20 = .ok (.getfield 143, 3) := by decide +kernel
theorem dX12_number_23 : decode cX12_number 23 = .ok (.if_icmp .ge 35, 3) := by decide +kernel
theorem dX12_number_26 : decode cX12_number 26 = .ok (.aload_n 0, 1) := by decide +kernel
theorem dX12_number_27 : decode cX12_number 27 = .ok (.getfield 134, 3) := by decide +kernel
theorem dX12_number_30 : decode cX12_number 30 = .ok (.iconst 3, 1) := by decide +kernel
theorem dX12_number_31 : decode cX12_number 31 = .ok (.if_icmp .ne 27, 3) := by decide +kernel
theorem dX12_number_34 : decode cX12_number 34 = .ok (.bipush 10, 2) := by decide +kernel
theorem dX12_number_36 : decode cX12_number 36 = .ok (.iload 4, 2) := by decide +kernel
theorem dX12_number_38 : decode cX12_number 38 = .ok (.imul, 1) := by decide +kernel
theorem dX12_number_39 : decode cX12_number 39 = .ok (.aload_n 0, 1) := by decide +kernel
theorem dX12_number_40 : decode cX12_number 40 = .ok (.getfield 25, 3) := by decide +kernel
theorem dX12_number_43 : decode cX12_number 43 = .ok (.iload 5, 2) := by decide +kernel
theorem dX12_number_45 : decode cX12_number 45 = .ok (.iaload, 1) := by decide +kernel
theorem dX12_number_46 : decode cX12_number 46 = .ok (.iadd, 1) := by decide +kernel
theorem dX12_number_47 : decode cX12_number 47 = .ok (.bipush 48, 2) := by decide +kernel
theorem dX12_number_49 : decode cX12_number 49 = .ok (.isub, 1) := by decide +kernel
theorem dX12_number_50 : decode cX12_number 50 = .ok (.istore 4, 2) := by decide +kernel
theorem dX12_number_52 : decode cX12_number 52 = .ok (.iinc 5 1, 3) := by decide +kernel
theorem dX12_number_55 : decode cX12_number 55 = .ok (.goto (-38), 3) := by decide +kernel
theorem dX12_number_58 : decode cX12_number 58 = .ok (.aload_n 0, 1) := by decide +kernel
theorem dX12_number_59 : decode cX12_number 59 = .ok (.getfield 134, 3) := by decide +kernel
theorem dX12_number_62 : decode cX12_number 62 = .ok (.iconst 3, 1) := by decide +kernel
theorem dX12_number_63 : decode cX12_number 63 = .ok (.if_icmp .ne 21, 3) := by decide +kernel
theorem dX12_number_66 : decode cX12_number 66 = .ok (.iload 4, 2) := by decide +kernel
theorem dX12_number_68 : decode cX12_number 68 = .ok (.i2l, 1) := by decide +kernel
theorem dX12_number_69 : decode cX12_number 69 = .ok (.iload_n 2, 1) := by decide +kernel
theorem dX12_number_70 : decode cX12_number 70 = .ok (.i2l, 1) := by decide +kernel
theorem dX12_number_71 : decode cX12_number 71 = .ok (.iload_n 3, 1) := by decide +kernel
theorem dX12_number_72 : decode cX12_number 72 = .ok (.i2l, 1) := by decide +kernel
theorem dX12_number_73 : decode cX12_number 73 = .ok (.invokestatic 96, 3) := by decide +kernel
theorem dX12_number_76 : decode cX12_number 76 = .ok (.ifCond .ne 8, 3) := by decide +kernel
theorem dX12_number_79 : decode cX12_number 79 = .ok (.aload_n 0, 1) := by decide +kernel
theorem dX12_number_80 : decode cX12_number 80 = .ok (.iconst 2, 1) := by decide +kernel
theorem dX12_number_81 : decode cX12_number 81 = .ok (.invokevirtual 152, 3) := by decide +kernel
theorem dX12_number_84 : decode cX12_number 84 = .ok (.aload_n 0, 1) := by decide +kernel
theorem dX12_number_85 : decode cX12_number 85 = .ok (.aload_n 0, 1) := by decide +kernel
theorem dX12_number_86 : decode cX12_number 86 = .ok (.getfield 134, 3) := by decide +kernel
theorem dX12_number_89 : decode cX12_number 89 = .ok (.iconst 3, 1) := by decide +kernel
theorem dX12_number_90 : decode cX12_number 90 = .ok (.if_icmp .ne 7, 3) := by decide +kernel
theorem dX12_number_93 : decode cX12_number 93 = .ok (.iconst 1, 1) := by decide +kernel
theorem dX12_number_94 : decode cX12_number 94 = .ok (.goto 4, 3) := by decide +kernel
theorem dX12_number_97 : decode cX12_number 97 = .ok (.iconst 0, 1) := by decide +kernel
theorem dX12_number_98 : decode cX12_number 98 = .ok (.invokevirtual 159, 3) := by decide +kernel
theorem dX12_number_101 : decode cX12_number 101 = .ok (.aload_n 0, 1) := by decide +kernel
theorem dX12_number_102 : decode cX12_number 102 = .ok (.getfield 146, 3) := by decide +kernel
theorem dX12_number_105 : decode cX12_number 105 = .ok (.ifCond .ne 11, 3) := by decide +kernel
theorem dX12_number_108 : decode cX12_number 108 = .ok (.aload_n 0, 1) := by decide +kernel
theorem dX12_number_109 : decode cX12_number 109 = .ok (.getfield 22, 3) := by decide +kernel
theorem dX12_number_112 : decode cX12_number 112 = .ok (.iload_n 1, 1) := by decide +kernel
theorem dX12_number_113 : decode cX12_number 113 = .ok (.iload 4, 2) := by decide +kernel
theorem dX12_number_115 : decode cX12_number 115 = .ok (.iastore, 1) := by decide +kernel
theorem dX12_number_116 : decode cX12_number 116 = .ok (.return_, 1) := by decide +kernel
theorem dX12_begins_0 : decode cX12_begins 0 = .ok (.aload_n 0, 1) := by decide +kernel
theorem dX12_begins_1 : decode cX12_begins 1 = .ok (.getfield 22, 3) := by decide +kernel
theorem dX12_begins_4 : decode cX12_begins 4 = .ok (.iload_n 1, 1) := by decide +kernel
theorem dX12_begins_5 : decode cX12_begins 5 = .ok (.iaload, 1) := by decide +kernel
theorem dX12_begins_6 : decode cX12_begins 6 = .ok (.iload_n 2, 1) := by decide +kernel
theorem dX12_begins_7 : decode cX12_begins 7 = .ok (.if_icmp .ne 8, 3) := by decide +kernel
theorem dX12_begins_10 : decode cX12_begins 10 = .ok (.aload_n 0, 1) := by decide +kernel
theorem dX12_begins_11 : decode cX12_begins 11 = .ok (.iconst 3, 1) := by decide +kernel
theorem dX12_begins_12 : decode cX12_begins 12 = .ok (.invokevirtual 152, 3) := by decide +kernel
theorem dX12_begins_15 : decode cX12_begins 15 = .ok (.aload_n 0, 1) := by decide +kernel
theorem dX12_begins_16 : decode cX12_begins 16 = .ok (.iconst 1, 1) := by decide +kernel
theorem dX12_begins_17 : decode cX12_begins 17 = .ok (.invokevirtual 159, 3) := by decide +kernel
theorem dX12_begins_20 : decode cX12_begins 20 = .ok (.iload_n 3, 1) := by decide +kernel
theorem dX12_begins_21 : decode cX12_begins 21 = .ok (.iload 4, 2) := by decide +kernel
theorem dX12_begins_23 : decode cX12_begins 23 = .ok (.aload_n 0, 1) := by decide +kernel
theorem dX12_begins_24 : decode cX12_begins 24 = .ok (.getfield 22, 3) := by decide +kernel
theorem dX12_begins_27 : decode cX12_begins 27 = .ok (.iload_n 1, 1) := by decide +kernel
theorem dX12_begins_28 : decode cX12_begins 28 = .ok (.iaload, 1) := by decide +kernel
theorem dX12_begins_29 : decode cX12_begins 29 = .ok (.imul, 1) := by decide +kernel
theorem dX12_begins_30 : decode cX12_begins 30 = .ok (.iadd, 1) := by decide +kernel
theorem dX12_begins_31 : decode cX12_begins 31 = .ok (.ireturn, 1) := by decide +kernel
theorem dX12_ends_0 : decode cX12_ends 0 = .ok (.aload_n 0, 1) := by decide +kernel
theorem dX12_ends_1 : decode cX12_ends 1 = .ok (.getfield 146, 3) := by decide +kernel
theorem dX12_ends_4 : decode cX12_ends 4 = .ok (.ifCond .ne 20, 3) := by decide +kernel
theorem dX12_ends_7 : decode cX12_ends 7 = .ok (.aload_n 0, 1) := by decide +kernel
theorem dX12_ends_8 : decode cX12_ends 8 = .ok (.aload_n 0, 1) := by decide +kernel
theorem dX12_ends_9 : decode cX12_ends 9 = .ok (.getfield 134, 3) := by decide +kernel
theorem dX12_ends_12 : decode cX12_ends 12 = .ok (.iconst 4, 1) := by decide +kernel
theorem dX12_ends_13 : decode cX12_ends 13 = .ok (.if_icmp .ne 7, 3) := by decide +kernel
theorem dX12_ends_16 : decode cX12_ends 16 = .ok (.iconst 1, 1) := by decide +kernel
theorem dX12_ends_17 : decode cX12_ends 17 = .ok (.goto 4, 3) := by decide +kernel
theorem dX12_ends_20 : decode cX12_ends 20 = .ok (.iconst 0, 1) := by decide +kernel
theorem dX12_ends_21 : decode cX12_ends 21 = .ok (.invokevirtual 159, 3) := by decide +kernel
theorem dX12_ends_24 : decode cX12_ends 24 = .ok (.aload_n 0, 1) := by decide +kernel
theorem dX12_ends_25 : decode cX12_ends 25 = .ok (.getfield 22, 3) := by decide +kernel
theorem dX12_ends_28 : decode cX12_ends 28 = .ok (.iload_n 1, 1) := by decide +kernel
theorem dX12_ends_29 : decode cX12_ends 29 = .ok (.dup2, 1) := by decide +kernel
theorem dX12_ends_30 : decode cX12_ends 30 = .ok (.iaload, 1) := by decide +kernel
theorem dX12_ends_31 : decode cX12_ends 31 = .ok (.aload_n 0, 1) := by decide +kernel
theorem dX12_ends_32 : decode cX12_ends 32 = .ok (.getfield 146, 3) := by decide +kernel
theorem dX12_ends_35 : decode cX12_ends 35 = .ok (.ifCond .ne 7, 3) := by decide +kernel
theorem dX12_ends_38 : decode cX12_ends 38 = .ok (.iconst 1, 1) := by decide +kernel
theorem dX12_ends_39 : decode cX12_ends 39 = .ok (.goto 4, 3) := by decide +kernel
theorem dX12_ends_42 : decode cX12_ends 42 = .ok (.iconst 0, 1) := by decide +kernel
theorem dX12_ends_43 : decode cX12_ends 43 = .ok (.iadd, 1) := by decide +kernel
theorem dX12_ends_44 : decode cX12_ends 44 = .ok (.iastore, 1) := by decide +kernel
theorem dX12_ends_45 : decode cX12_ends 45 = .ok (.return_, 1) := by decide +kernel
theorem dX12_readRope_0 : decode cX12_readRope 0 = .ok (.aload_n 0, 1) := by decide +kernel
theorem dX12_readRope_1 : decode cX12_readRope 1 = .ok (.iconst 0, 1) := by decide +kernel
theorem dX12_readRope_2 : decode cX12_readRope 2 = .ok (.iconst 3, 1) := by decide +kernel
theorem dX12_readRope_3 : decode cX12_readRope 3 = .ok (.bipush 6, 2) := by decide +kernel
theorem dX12_readRope_5 : decode cX12_readRope 5 = .ok (.iconst 3, 1) := by decide +kernel
theorem dX12_readRope_6 : decode cX12_readRope 6 = .ok (.invokevirtual 163, 3) := by decide +kernel
theorem dX12_readRope_9 : decode cX12_readRope 9 = .ok (.istore_n 1, 1) := by decide +kernel
theorem dX12_readRope_10 : decode cX12_readRope 10 = .ok (.aload_n 0, 1) := by decide +kernel
theorem dX12_readRope_11 : decode cX12_readRope 11 = .ok (.iload_n 1, 1) := by decide +kernel
theorem dX12_readRope_12 : decode cX12_readRope 12 = .ok (.bipush 40, 2) := by decide +kernel
theorem dX12_readRope_14 : decode cX12_readRope 14 = .ok (.sipush 400, 3) := by decide +kernel
theorem dX12_readRope_17 : decode cX12_readRope 17 = .ok (.invokevirtual 167, 3) := by decide +kernel
theorem dX12_readRope_20 : decode cX12_readRope 20 = .ok (.aload_n 0, 1) := by decide +kernel
theorem dX12_readRope_21 : decode cX12_readRope 21 = .ok (.iload_n 1, 1) := by decide +kernel
theorem dX12_readRope_22 : decode cX12_readRope 22 = .ok (.iconst 1, 1) := by decide +kernel
theorem dX12_readRope_23 : decode cX12_readRope 23 = .ok (.iadd, 1) := by decide +kernel
theorem dX12_readRope_24 : decode cX12_readRope 24 = .ok (.iconst 0, 1) := by decide +kernel
theorem dX12_readRope_25 : decode cX12_readRope 25 = .ok (.bipush 9, 2) := by decide +kernel
theorem dX12_readRope_27 : decode cX12_readRope 27 = .ok (.invokevirtual 167, 3) := by decide +kernel
theorem dX12_readRope_30 : decode cX12_readRope 30 = .ok (.aload_n 0, 1) := by decide +kernel
theorem dX12_readRope_31 : decode cX12_readRope 31 = .ok (.iload_n 1, 1) := by decide +kernel
theorem dX12_readRope_32 : decode cX12_readRope 32 = .ok (.iconst 2, 1) := by decide +kernel
theorem dX12_readRope_33 : decode cX12_readRope 33 = .ok (.iadd, 1) := by decide +kernel
theorem dX12_readRope_34 : decode cX12_readRope 34 = .ok (.iconst 0, 1) := by decide +kernel
theorem dX12_readRope_35 : decode cX12_readRope 35 = .ok (.iconst 1, 1) := by decide +kernel
theorem dX12_readRope_36 : decode cX12_readRope 36 = .ok (.invokevirtual 167, 3) := by decide +kernel
theorem dX12_readRope_39 : decode cX12_readRope 39 = .ok (.aload_n 0, 1) := by decide +kernel
theorem dX12_readRope_40 : decode cX12_readRope 40 = .ok (.iconst 0, 1) := by decide +kernel
theorem dX12_readRope_41 : decode cX12_readRope 41 = .ok (.invokevirtual 171, 3) := by decide +kernel
theorem dX12_readRope_44 : decode cX12_readRope 44 = .ok (.return_, 1) := by decide +kernel
theorem dX12_readHorse_0 : decode cX12_readHorse 0 = .ok (.aload_n 0, 1) := by decide +kernel
theorem dX12_readHorse_1 : decode cX12_readHorse 1 = .ok (.iconst 1, 1) := by decide +kernel
theorem dX12_readHorse_2 : decode cX12_readHorse 2 = .ok (.iconst 3, 1) := by decide +kernel
theorem dX12_readHorse_3 : decode cX12_readHorse 3 = .ok (.bipush 15, 2) := by decide +kernel
theorem dX12_readHorse_5 : decode cX12_readHorse 5 = .ok (.iconst 3, 1) := by decide +kernel
theorem dX12_readHorse_6 : decode cX12_readHorse 6 = .ok (.invokevirtual 163, 3) := by decide +kernel
theorem dX12_readHorse_9 : decode cX12_readHorse 9 = .ok (.istore_n 1, 1) := by decide +kernel
theorem dX12_readHorse_10 : decode cX12_readHorse 10 = .ok (.aload_n 0, 1) := by decide +kernel
theorem dX12_readHorse_11 : decode cX12_readHorse 11 = .ok (.iload_n 1, 1) := by decide +kernel
theorem dX12_readHorse_12 : decode cX12_readHorse 12 = .ok (.iconst 0, 1) := by decide +kernel
theorem dX12_readHorse_13 : decode cX12_readHorse 13 = .ok (.bipush 20, 2) := by decide +kernel
theorem dX12_readHorse_15 : decode cX12_readHorse 15 = .ok (.invokevirtual 167, 3) := by decide +kernel
theorem dX12_readHorse_18 : decode cX12_readHorse 18 = .ok (.aload_n 0, 1) := by decide +kernel
theorem dX12_readHorse_19 : decode cX12_readHorse 19 = .ok (.iload_n 1, 1) := by decide +kernel
theorem dX12_readHorse_20 : decode cX12_readHorse 20 = .ok (.iconst 1, 1) := by decide +kernel
theorem dX12_readHorse_21 : decode cX12_readHorse 21 = .ok (.iadd, 1) := by decide +kernel
theorem dX12_readHorse_22 : decode cX12_readHorse 22 = .ok (.iconst 0, 1) := by decide +kernel
theorem dX12_readHorse_23 : decode cX12_readHorse 23 = .ok (.bipush 99, 2) := by decide +kernel
theorem dX12_readHorse_25 : decode cX12_readHorse 25 = .ok (.invokevirtual 167, 3) := by decide +kernel
theorem dX12_readHorse_28 : decode cX12_readHorse 28 = .ok (.aload_n 0, 1) := by decide +kernel
theorem dX12_readHorse_29 : decode cX12_readHorse 29 = .ok (.iload_n 1, 1) := by decide +kernel
theorem dX12_readHorse_30 : decode cX12_readHorse 30 = .ok (.iconst 2, 1) := by decide +kernel
theorem dX12_readHorse_31 : decode cX12_readHorse 31 = .ok (.iadd, 1) := by decide +kernel
theorem dX12_readHorse_32 : decode cX12_readHorse 32 = .ok (.iconst 0, 1) := by decide +kernel
theorem dX12_readHorse_33 : decode cX12_readHorse 33 = .ok (.iconst 3, 1) := by decide +kernel
theorem dX12_readHorse_34 : decode cX12_readHorse 34 = .ok (.invokevirtual 167, 3) := by decide +kernel
theorem dX12_readHorse_37 : decode cX12_readHorse 37 = .ok (.aload_n 0, 1) := by decide +kernel
theorem dX12_readHorse_38 : decode cX12_readHorse 38 = .ok (.iconst 1, 1) := by decide +kernel
theorem dX12_readHorse_39 : decode cX12_readHorse 39 = .ok (.invokevirtual 171, 3) := by decide +kernel
theorem dX12_readHorse_42 : decode cX12_readHorse 42 = .ok (.return_, 1) := by decide +kernel
theorem dX12_readBeast_0 : decode cX12_readBeast 0 = .ok (.aload_n 0, 1) := by decide +kernel
theorem dX12_readBeast_1 : decode cX12_readBeast 1 = .ok (.iconst 2, 1) := by decide +kernel
theorem dX12_readBeast_2 : decode cX12_readBeast 2 = .ok (.iconst 4, 1) := by decide +kernel
theorem dX12_readBeast_3 : decode cX12_readBeast 3 = .ok (.bipush 24, 2) := by decide +kernel
theorem dX12_readBeast_5 : decode cX12_readBeast 5 = .ok (.iconst 5, 1) := by decide +kernel
theorem dX12_readBeast_6 : decode cX12_readBeast 6 = .ok (.invokevirtual 163, 3) := by decide +kernel
theorem dX12_readBeast_9 : decode cX12_readBeast 9 = .ok (.istore_n 1, 1) := by decide +kernel
theorem dX12_readBeast_10 : decode cX12_readBeast 10 = .ok (.aload_n 0, 1) := by decide +kernel
theorem dX12_readBeast_11 : decode cX12_readBeast 11 = .ok (.iload_n 1, 1) := by decide +kernel
theorem dX12_readBeast_12 : decode cX12_readBeast 12 = .ok (.iconst 1, 1) := by decide +kernel
theorem dX12_readBeast_13 : decode cX12_readBeast 13 = .ok (.sipush 200, 3) := by decide +kernel
theorem dX12_readBeast_16 : decode cX12_readBeast 16 = .ok (.invokevirtual 167, 3) := by decide +kernel
theorem dX12_readBeast_19 : decode cX12_readBeast 19 = .ok (.aload_n 0, 1) := by decide +kernel
theorem dX12_readBeast_20 : decode cX12_readBeast 20 = .ok (.iload_n 1, 1) := by decide +kernel
theorem dX12_readBeast_21 : decode cX12_readBeast 21 = .ok (.iconst 1, 1) := by decide +kernel
theorem dX12_readBeast_22 : decode cX12_readBeast 22 = .ok (.iadd, 1) := by decide +kernel
theorem dX12_readBeast_23 : decode cX12_readBeast 23 = .ok (.iconst 0, 1) := by decide +kernel
theorem dX12_readBeast_24 : decode cX12_readBeast 24 = .ok (.bipush 15, 2) := by decide +kernel
theorem dX12_readBeast_26 : decode cX12_readBeast 26 = .ok (.invokevirtual 167, 3) := by decide +kernel
theorem dX12_readBeast_29 : decode cX12_readBeast 29 = .ok (.aload_n 0, 1) := by decide +kernel
theorem dX12_readBeast_30 : decode cX12_readBeast 30 = .ok (.iload_n 1, 1) := by decide +kernel
theorem dX12_readBeast_31 : decode cX12_readBeast 31 = .ok (.iconst 2, 1) := by decide +kernel
theorem dX12_readBeast_32 : decode cX12_readBeast 32 = .ok (.iadd, 1) := by decide +kernel
theorem dX12_readBeast_33 : decode cX12_readBeast 33 = .ok (.iconst 1, 1) := by decide +kernel
theorem dX12_readBeast_34 : decode cX12_readBeast 34 = .ok (.bipush 100, 2) := by decide +kernel
theorem dX12_readBeast_36 : decode cX12_readBeast 36 = .ok (.invokevirtual 167, 3) := by decide +kernel
theorem dX12_readBeast_39 : decode cX12_readBeast 39 = .ok (.aload_n 0, 1) := by decide +kernel
theorem dX12_readBeast_40 : decode cX12_readBeast 40 = .ok (.iload_n 1, 1) := by decide +kernel
theorem dX12_readBeast_41 : decode cX12_readBeast 41 = .ok (.iconst 3, 1) := by decide +kernel
theorem dX12_readBeast_42 : decode cX12_readBeast 42 = .ok (.iadd, 1) := by decide +kernel
theorem dX12_readBeast_43 : decode cX12_readBeast 43 = .ok (.iconst 1, 1) := by decide +kernel
theorem dX12_readBeast_44 : decode cX12_readBeast 44 = .ok (.bipush 9, 2) := by decide +kernel
theorem dX12_readBeast_46 : decode cX12_readBeast 46 = .ok (.invokevirtual 167, 3) := by decide +kernel
theorem dX12_readBeast_49 : decode cX12_readBeast 49 = .ok (.aload_n 0, 1) := by decide +kernel
theorem dX12_readBeast_50 : decode cX12_readBeast 50 = .ok (.iload_n 1, 1) := by decide +kernel
theorem dX12_readBeast_51 : decode cX12_readBeast 51 = .ok (.iconst 4, 1) := by decide +kernel
theorem dX12_readBeast_52 : decode cX12_readBeast 52 = .ok (.iadd, 1) := by decide +kernel
theorem dX12_readBeast_53 : decode cX12_readBeast 53 = .ok (.iconst 0, 1) := by decide +kernel
theorem dX12_readBeast_54 : decode cX12_readBeast 54 = .ok (.bipush 12, 2) := by decide +kernel
theorem dX12_readBeast_56 : decode cX12_readBeast 56 = .ok (.invokevirtual 167, 3) := by decide +kernel
theorem dX12_readBeast_59 : decode cX12_readBeast 59 = .ok (.aload_n 0, 1) := by decide +kernel
theorem dX12_readBeast_60 : decode cX12_readBeast 60 = .ok (.iconst 2, 1) := by decide +kernel
theorem dX12_readBeast_61 : decode cX12_readBeast 61 = .ok (.invokevirtual 171, 3) := by decide +kernel
theorem dX12_readBeast_64 : decode cX12_readBeast 64 = .ok (.return_, 1) := by decide +kernel
theorem dX12_readForm_0 : decode cX12_readForm 0 = .ok (.aload_n 0, 1) := by decide +kernel
theorem dX12_readForm_1 : decode cX12_readForm 1 = .ok (.iconst 3, 1) := by decide +kernel
theorem dX12_readForm_2 : decode cX12_readForm 2 = .ok (.bipush 6, 2) := by decide +kernel
theorem dX12_readForm_4 : decode cX12_readForm 4 = .ok (.bipush 44, 2) := by decide +kernel
theorem dX12_readForm_6 : decode cX12_readForm 6 = .ok (.iconst 4, 1) := by decide +kernel
theorem dX12_readForm_7 : decode cX12_readForm 7 = .ok (.invokevirtual 163, 3) := by decide +kernel
theorem dX12_readForm_10 : decode cX12_readForm 10 = .ok (.istore_n 1, 1) := by decide +kernel
theorem dX12_readForm_11 : decode cX12_readForm 11 = .ok (.aload_n 0, 1) := by decide +kernel
theorem dX12_readForm_12 : decode cX12_readForm 12 = .ok (.iload_n 1, 1) := by decide +kernel
theorem dX12_readForm_13 : decode cX12_readForm 13 = .ok (.iconst 0, 1) := by decide +kernel
theorem dX12_readForm_14 : decode cX12_readForm 14 = .ok (.bipush 15, 2) := by decide +kernel
theorem dX12_readForm_16 : decode cX12_readForm 16 = .ok (.invokevirtual 167, 3) := by decide +kernel
theorem dX12_readForm_19 : decode cX12_readForm 19 = .ok (.aload_n 0, 1) := by decide +kernel
theorem dX12_readForm_20 : decode cX12_readForm 20 = .ok (.iload_n 1, 1) := by decide +kernel
theorem dX12_readForm_21 : decode cX12_readForm 21 = .ok (.iconst 1, 1) := by decide +kernel
theorem dX12_readForm_22 : decode cX12_readForm 22 = .ok (.iadd, 1) := by decide +kernel
theorem dX12_readForm_23 : decode cX12_readForm 23 = .ok (.aload_n 0, 1) := by decide +kernel
theorem dX12_readForm_24 : decode cX12_readForm 24 = .ok (.getfield 146, 3) := by decide +kernel
theorem dX12_readForm_27 : decode cX12_readForm 27 = .ok (.ifCond .ne 12, 3) := by decide +kernel
theorem dX12_readForm_30 : decode cX12_readForm 30 = .ok (.aload_n 0, 1) := by decide +kernel
theorem dX12_readForm_31 : decode cX12_readForm 31 = .ok (.getfield 22, 3) := by decide +kernel
theorem dX12_readForm_34 : decode cX12_readForm 34 = .ok (.iload_n 1, 1) := by decide +kernel
theorem dX12_readForm_35 : decode cX12_readForm 35 = .ok (.iaload, 1) := by decide +kernel
theorem dX12_readForm_36 : decode cX12_readForm 36 = .ok (.goto 4, 3) := by decide +kernel
theorem dX12_readForm_39 : decode cX12_readForm 39 = .ok (.iconst 0, 1) := by decide +kernel
theorem dX12_readForm_40 : decode cX12_readForm 40 = .ok (.bipush 15, 2) := by decide +kernel
theorem dX12_readForm_42 : decode cX12_readForm 42 = .ok (.invokevirtual 167, 3) := by decide +kernel
theorem dX12_readForm_45 : decode cX12_readForm 45 = .ok (.aload_n 0, 1) := by decide +kernel
theorem dX12_readForm_46 : decode cX12_readForm 46 = .ok (.iload_n 1, 1) := by decide +kernel
theorem dX12_readForm_47 : decode cX12_readForm 47 = .ok (.iconst 2, 1) := by decide +kernel
theorem dX12_readForm_48 : decode cX12_readForm 48 = .ok (.iadd, 1) := by decide +kernel
theorem dX12_readForm_49 : decode cX12_readForm 49 = .ok (.iconst 0, 1) := by decide +kernel
theorem dX12_readForm_50 : decode cX12_readForm 50 = .ok (.sipush 200, 3) := by decide +kernel
theorem dX12_readForm_53 : decode cX12_readForm 53 = .ok (.invokevirtual 167, 3) := by decide +kernel
theorem dX12_readForm_56 : decode cX12_readForm 56 = .ok (.aload_n 0, 1) := by decide +kernel
theorem dX12_readForm_57 : decode cX12_readForm 57 = .ok (.iload_n 1, 1) := by decide +kernel
theorem dX12_readForm_58 : decode cX12_readForm 58 = .ok (.iconst 3, 1) := by decide +kernel
theorem dX12_readForm_59 : decode cX12_readForm 59 = .ok (.iadd, 1) := by decide +kernel
theorem dX12_readForm_60 : decode cX12_readForm 60 = .ok (.aload_n 0, 1) := by decide +kernel
theorem dX12_readForm_61 : decode cX12_readForm 61 = .ok (.getfield 146, 3) := by decide +kernel
theorem dX12_readForm_64 : decode cX12_readForm 64 = .ok (.ifCond .ne 14, 3) := by decide +kernel
theorem dX12_readForm_67 : decode cX12_readForm 67 = .ok (.aload_n 0, 1) := by decide +kernel
theorem dX12_readForm_68 : decode cX12_readForm 68 = .ok (.getfield 22, 3) := by decide +kernel
theorem dX12_readForm_71 : decode cX12_readForm 71 = .ok (.iload_n 1, 1) := by decide +kernel
theorem dX12_readForm_72 : decode cX12_readForm 72 = .ok (.iconst 2, 1) := by decide +kernel
theorem dX12_readForm_73 : decode cX12_readForm 73 = .ok (.iadd, 1) := by decide +kernel
theorem dX12_readForm_74 : decode cX12_readForm 74 = .ok (.iaload, 1) := by decide +kernel
theorem dX12_readForm_75 : decode cX12_readForm 75 = .ok (.goto 4, 3) := by decide +kernel
theorem dX12_readForm_78 : decode cX12_readForm 78 = .ok (.iconst 0, 1) := by decide +kernel
theorem dX12_readForm_79 : decode cX12_readForm 79 = .ok (.sipush 200, 3) := by decide +kernel
theorem dX12_readForm_82 : decode cX12_readForm 82 = .ok (.invokevirtual 167, 3) := by decide +kernel
theorem dX12_readForm_85 : decode cX12_readForm 85 = .ok (.aload_n 0, 1) := by decide +kernel
theorem dX12_readForm_86 : decode cX12_readForm 86 = .ok (.iconst 3, 1) := by decide +kernel
theorem dX12_readForm_87 : decode cX12_readForm 87 = .ok (.invokevirtual 171, 3) := by decide +kernel
theorem dX12_readForm_90 : decode cX12_readForm 90 = .ok (.return_, 1) := by decide +kernel
theorem dX12_readRule_0 : decode cX12_readRule 0 = .ok (.aload_n 0, 1) := by decide +kernel
theorem dX12_readRule_1 : decode cX12_readRule 1 = .ok (.iconst 1, 1) := by decide +kernel
theorem dX12_readRule_2 : decode cX12_readRule 2 = .ok (.invokevirtual 159, 3) := by decide +kernel
theorem dX12_readRule_5 : decode cX12_readRule 5 = .ok (.aload_n 0, 1) := by decide +kernel
theorem dX12_readRule_6 : decode cX12_readRule 6 = .ok (.bipush 68, 2) := by decide +kernel
theorem dX12_readRule_8 : decode cX12_readRule 8 = .ok (.iconst 1, 1) := by decide +kernel
theorem dX12_readRule_9 : decode cX12_readRule 9 = .ok (.sipush 200, 3) := by decide +kernel
theorem dX12_readRule_12 : decode cX12_readRule 12 = .ok (.invokevirtual 167, 3) := by decide +kernel
theorem dX12_readRule_15 : decode cX12_readRule 15 = .ok (.aload_n 0, 1) := by decide +kernel
theorem dX12_readRule_16 : decode cX12_readRule 16 = .ok (.bipush 69, 2) := by decide +kernel
theorem dX12_readRule_18 : decode cX12_readRule 18 = .ok (.iconst 0, 1) := by decide +kernel
theorem dX12_readRule_19 : decode cX12_readRule 19 = .ok (.bipush 99, 2) := by decide +kernel
theorem dX12_readRule_21 : decode cX12_readRule 21 = .ok (.invokevirtual 167, 3) := by decide +kernel
theorem dX12_readRule_24 : decode cX12_readRule 24 = .ok (.aload_n 0, 1) := by decide +kernel
theorem dX12_readRule_25 : decode cX12_readRule 25 = .ok (.bipush 70, 2) := by decide +kernel
theorem dX12_readRule_27 : decode cX12_readRule 27 = .ok (.iconst 0, 1) := by decide +kernel
theorem dX12_readRule_28 : decode cX12_readRule 28 = .ok (.bipush 99, 2) := by decide +kernel
theorem dX12_readRule_30 : decode cX12_readRule 30 = .ok (.invokevirtual 167, 3) := by decide +kernel
theorem dX12_readRule_33 : decode cX12_readRule 33 = .ok (.aload_n 0, 1) := by decide +kernel
theorem dX12_readRule_34 : decode cX12_readRule 34 = .ok (.bipush 71, 2) := by decide +kernel
theorem dX12_readRule_36 : decode cX12_readRule 36 = .ok (.iconst 0, 1) := by decide +kernel
theorem dX12_readRule_37 : decode cX12_readRule 37 = .ok (.bipush 99, 2) := by decide +kernel
theorem dX12_readRule_39 : decode cX12_readRule 39 = .ok (.invokevirtual 167, 3) := by decide +kernel
theorem dX12_readRule_42 : decode cX12_readRule 42 = .ok (.aload_n 0, 1) := by decide +kernel
theorem dX12_readRule_43 : decode cX12_readRule 43 = .ok (.iconst 4, 1) := by decide +kernel
theorem dX12_readRule_44 : decode cX12_readRule 44 = .ok (.invokevirtual 171, 3) := by decide +kernel
theorem dX12_readRule_47 : decode cX12_readRule 47 = .ok (.return_, 1) := by decide +kernel
theorem dX12_kindOfWord_0 : decode cX12_kindOfWord 0 = .ok (.aload_n 0, 1) := by decide +kernel
theorem dX12_kindOfWord_1 : decode cX12_kindOfWord 1 = .ok (.invokevirtual 174, 3) := by decide +kernel
theorem dX12_kindOfWord_4 : decode cX12_kindOfWord 4 = .ok (.lstore_n 1, 1) := by decide +kernel
theorem dX12_kindOfWord_5 : decode cX12_kindOfWord 5 = .ok (.lload_n 1, 1) := by decide +kernel
theorem dX12_kindOfWord_6 : decode cX12_kindOfWord 6 = .ok (.ldc2_w 178, 3) := by decide +kernel
theorem dX12_kindOfWord_9 : decode cX12_kindOfWord 9 = .ok (.lcmp, 1) := by decide +kernel
theorem dX12_kindOfWord_10 : decode cX12_kindOfWord 10 = .ok (.ifCond .ne 7, 3) := by decide +kernel
theorem dX12_kindOfWord_13 : decode cX12_kindOfWord 13 = .ok (.iconst 2, 1) := by decide +kernel
theorem dX12_kindOfWord_14 : decode cX12_kindOfWord 14 = .ok (.goto 54, 3) := by decide +kernel
theorem dX12_kindOfWord_17 : decode cX12_kindOfWord 17 = .ok (.lload_n 1, 1) := by decide +kernel
theorem dX12_kindOfWord_18 : decode cX12_kindOfWord 18 = .ok (.ldc2_w 180, 3) := by decide +kernel
theorem dX12_kindOfWord_21 : decode cX12_kindOfWord 21 = .ok (.lcmp, 1) := by decide +kernel
theorem dX12_kindOfWord_22 : decode cX12_kindOfWord 22 = .ok (.ifCond .ne 7, 3) := by decide +kernel
theorem dX12_kindOfWord_25 : decode cX12_kindOfWord 25 = .ok (.iconst 3, 1) := by decide +kernel
theorem dX12_kindOfWord_26 : decode cX12_kindOfWord 26 = .ok (.goto 42, 3) := by decide +kernel
theorem dX12_kindOfWord_29 : decode cX12_kindOfWord 29 = .ok (.lload_n 1, 1) := by decide +kernel
theorem dX12_kindOfWord_30 : decode cX12_kindOfWord 30 = .ok (.ldc2_w 182, 3) := by decide +kernel
theorem dX12_kindOfWord_33 : decode cX12_kindOfWord 33 = .ok (.lcmp, 1) := by decide +kernel
theorem dX12_kindOfWord_34 : decode cX12_kindOfWord 34 = .ok (.ifCond .ne 7, 3) := by decide +kernel
theorem dX12_kindOfWord_37 : decode cX12_kindOfWord 37 = .ok (.iconst 4, 1) := by decide +kernel
theorem dX12_kindOfWord_38 : decode cX12_kindOfWord 38 = .ok (.goto 30, 3) := by decide +kernel
theorem dX12_kindOfWord_41 : decode cX12_kindOfWord 41 = .ok (.lload_n 1, 1) := by decide +kernel
theorem dX12_kindOfWord_42 : decode cX12_kindOfWord 42 = .ok (.ldc2_w 184, 3) := by decide +kernel
theorem dX12_kindOfWord_45 : decode cX12_kindOfWord 45 = .ok (.lcmp, 1) := by decide +kernel
theorem dX12_kindOfWord_46 : decode cX12_kindOfWord 46 = .ok (.ifCond .ne 7, 3) := by decide +kernel
theorem dX12_kindOfWord_49 : decode cX12_kindOfWord 49 = .ok (.iconst 5, 1) := by decide +kernel
theorem dX12_kindOfWord_50 : decode cX12_kindOfWord 50 = .ok (.goto 18, 3) := by decide +kernel
theorem dX12_kindOfWord_53 : decode cX12_kindOfWord 53 = .ok (.lload_n 1, 1) := by decide +kernel
theorem dX12_kindOfWord_54 : decode cX12_kindOfWord 54 = .ok (.ldc2_w 186, 3) := by decide +kernel
theorem dX12_kindOfWord_57 : decode cX12_kindOfWord 57 = .ok (.lcmp, 1) := by decide +kernel
theorem dX12_kindOfWord_58 : decode cX12_kindOfWord 58 = .ok (.ifCond .ne 8, 3) := by decide +kernel
theorem dX12_kindOfWord_61 : decode cX12_kindOfWord 61 = .ok (.bipush 6, 2) := by decide +kernel
theorem dX12_kindOfWord_63 : decode cX12_kindOfWord 63 = .ok (.goto 5, 3) := by decide +kernel
theorem dX12_kindOfWord_66 : decode cX12_kindOfWord 66 = .ok (.ldc 28, 2) := by decide +kernel
theorem dX12_kindOfWord_68 : decode cX12_kindOfWord 68 = .ok (.ireturn, 1) := by decide +kernel
theorem dX12_readAct_0 : decode cX12_readAct 0 = .ok (.aload_n 0, 1) := by decide +kernel
theorem dX12_readAct_1 : decode cX12_readAct 1 = .ok (.invokevirtual 188, 3) := by decide +kernel
theorem dX12_readAct_4 : decode cX12_readAct 4 = .ok (.istore_n 1, 1) := by decide +kernel
theorem dX12_readAct_5 : decode cX12_readAct 5 = .ok (.iload_n 1, 1) := by decide +kernel
theorem dX12_readAct_6 : decode cX12_readAct 6 = .ok (.ldc 28, 2) := by decide +kernel
theorem dX12_readAct_8 : decode cX12_readAct 8 = .ok (.if_icmp .ne 9, 3) := by decide +kernel
theorem dX12_readAct_11 : decode cX12_readAct 11 = .ok (.aload_n 0, 1) := by decide +kernel
theorem dX12_readAct_12 : decode cX12_readAct 12 = .ok (.iconst 1, 1) := by decide +kernel
theorem dX12_readAct_13 : decode cX12_readAct 13 = .ok (.invokevirtual 152, 3) := by decide +kernel
theorem dX12_readAct_16 : decode cX12_readAct 16 = .ok (.return_, 1) := by decide +kernel
theorem dX12_readAct_17 : decode cX12_readAct 17 = .ok (.aload_n 0, 1) := by decide +kernel
theorem dX12_readAct_18 : decode cX12_readAct 18 = .ok (.iconst 5, 1) := by decide +kernel
theorem dX12_readAct_19 : decode cX12_readAct 19 = .ok (.bipush 20, 2) := by decide +kernel
theorem dX12_readAct_21 : decode cX12_readAct 21 = .ok (.bipush 72, 2) := by decide +kernel
theorem dX12_readAct_23 : decode cX12_readAct 23 = .ok (.iconst 5, 1) := by decide +kernel
theorem dX12_readAct_24 : decode cX12_readAct 24 = .ok (.invokevirtual 163, 3) := by decide +kernel
theorem dX12_readAct_27 : decode cX12_readAct 27 = .ok (.istore_n 2, 1) := by decide +kernel
theorem dX12_readAct_28 : decode cX12_readAct 28 = .ok (.aload_n 0, 1) := by decide +kernel
theorem dX12_readAct_29 : decode cX12_readAct 29 = .ok (.getfield 146, 3) := by decide +kernel
theorem dX12_readAct_32 : decode cX12_readAct 32 = .ok (.ifCond .le 4, 3) := by decide +kernel
theorem dX12_readAct_35 : decode cX12_readAct 35 = .ok (.return_, 1) := by decide +kernel
theorem dX12_readAct_36 : decode cX12_readAct 36 = .ok (.aload_n 0, 1) := by decide +kernel
theorem dX12_readAct_37 : decode cX12_readAct 37 = .ok (.getfield 22, 3) := by decide +kernel
theorem dX12_readAct_40 : decode cX12_readAct 40 = .ok (.iload_n 2, 1) := by decide +kernel
theorem dX12_readAct_41 : decode cX12_readAct 41 = .ok (.iload_n 1, 1) := by decide +kernel
theorem dX12_readAct_42 : decode cX12_readAct 42 = .ok (.iastore, 1) := by decide +kernel
theorem dX12_readAct_43 : decode cX12_readAct 43 = .ok (.iconst 1, 1) := by decide +kernel
theorem dX12_readAct_44 : decode cX12_readAct 44 = .ok (.istore_n 3, 1) := by decide +kernel
theorem dX12_readAct_45 : decode cX12_readAct 45 = .ok (.iload_n 3, 1) := by decide +kernel
theorem dX12_readAct_46 : decode cX12_readAct 46 = .ok (.iconst 5, 1) := by decide +kernel
theorem dX12_readAct_47 : decode cX12_readAct 47 = .ok (.if_icmp .ge 19, 3) := by decide +kernel
theorem dX12_readAct_50 : decode cX12_readAct 50 = .ok (.aload_n 0, 1) := by decide +kernel
theorem dX12_readAct_51 : decode cX12_readAct 51 = .ok (.getfield 22, 3) := by decide +kernel
theorem dX12_readAct_54 : decode cX12_readAct 54 = .ok (.iload_n 2, 1) := by decide +kernel
theorem dX12_readAct_55 : decode cX12_readAct 55 = .ok (.iload_n 3, 1) := by decide +kernel
theorem dX12_readAct_56 : decode cX12_readAct 56 = .ok (.iadd, 1) := by decide +kernel
theorem dX12_readAct_57 : decode cX12_readAct 57 = .ok (.ldc 28, 2) := by decide +kernel
theorem dX12_readAct_59 : decode cX12_readAct 59 = .ok (.iastore, 1) := by decide +kernel
theorem dX12_readAct_60 : decode cX12_readAct 60 = .ok (.iinc 3 1, 3) := by decide +kernel
theorem dX12_readAct_63 : decode cX12_readAct 63 = .ok (.goto (-18), 3) := by decide +kernel
theorem dX12_readAct_66 : decode cX12_readAct 66 = .ok (.iload_n 1, 1) := by decide +kernel
theorem dX12_readAct_67 : decode cX12_readAct 67 = .ok (.iconst 2, 1) := by decide +kernel
theorem dX12_readAct_68 : decode cX12_readAct 68 = .ok (.if_icmp .eq 8, 3) := by decide +kernel
theorem dX12_readAct_71 : decode cX12_readAct 71 = .ok (.iload_n 1, 1) := by decide +kernel
theorem dX12_readAct_72 : decode cX12_readAct 72 = .ok (.iconst 3, 1) := by decide +kernel
theorem dX12_readAct_73 : decode cX12_readAct 73 = .ok (.if_icmp .ne 45, 3) := by decide +kernel
theorem dX12_readAct_76 : decode cX12_readAct 76 = .ok (.aload_n 0, 1) := by decide +kernel
theorem dX12_readAct_77 : decode cX12_readAct 77 = .ok (.iload_n 2, 1) := by decide +kernel
theorem dX12_readAct_78 : decode cX12_readAct 78 = .ok (.iconst 1, 1) := by decide +kernel
theorem dX12_readAct_79 : decode cX12_readAct 79 = .ok (.iadd, 1) := by decide +kernel
theorem dX12_readAct_80 : decode cX12_readAct 80 = .ok (.iconst 1, 1) := by decide +kernel
theorem dX12_readAct_81 : decode cX12_readAct 81 = .ok (.bipush 40, 2) := by decide +kernel
theorem dX12_readAct_83 : decode cX12_readAct 83 = .ok (.invokevirtual 167, 3) := by decide +kernel
theorem dX12_readAct_86 : decode cX12_readAct 86 = .ok (.aload_n 0, 1) := by decide +kernel
theorem dX12_readAct_87 : decode cX12_readAct 87 = .ok (.iload_n 2, 1) := by decide +kernel
theorem dX12_readAct_88 : decode cX12_readAct 88 = .ok (.iconst 2, 1) := by decide +kernel
theorem dX12_readAct_89 : decode cX12_readAct 89 = .ok (.iadd, 1) := by decide +kernel
theorem dX12_readAct_90 : decode cX12_readAct 90 = .ok (.iconst 0, 1) := by decide +kernel
theorem dX12_readAct_91 : decode cX12_readAct 91 = .ok (.iconst 4, 1) := by decide +kernel
theorem dX12_readAct_92 : decode cX12_readAct 92 = .ok (.invokevirtual 167, 3) := by decide +kernel
theorem dX12_readAct_95 : decode cX12_readAct 95 = .ok (.aload_n 0, 1) := by decide +kernel
theorem dX12_readAct_96 : decode cX12_readAct 96 = .ok (.iload_n 2, 1) := by decide +kernel
theorem dX12_readAct_97 : decode cX12_readAct 97 = .ok (.iconst 3, 1) := by decide +kernel
theorem dX12_readAct_98 : decode cX12_readAct 98 = .ok (.iadd, 1) := by decide +kernel
theorem dX12_readAct_99 : decode cX12_readAct 99 = .ok (.iconst 0, 1) := by decide +kernel
theorem dX12_readAct_100 : decode cX12_readAct 100 = .ok (.bipush 9, 2) := by decide +kernel
theorem dX12_readAct_102 : decode cX12_readAct 102 = .ok (.invokevirtual 167, 3) := by decide +kernel
theorem dX12_readAct_105 : decode cX12_readAct 105 = .ok (.aload_n 0, 1) := by decide +kernel
theorem dX12_readAct_106 : decode cX12_readAct 106 = .ok (.iload_n 2, 1) := by decide +kernel
theorem dX12_readAct_107 : decode cX12_readAct 107 = .ok (.iconst 4, 1) := by decide +kernel
theorem dX12_readAct_108 : decode cX12_readAct 108 = .ok (.iadd, 1) := by decide +kernel
theorem dX12_readAct_109 : decode cX12_readAct 109 = .ok (.iconst 0, 1) := by decide +kernel
theorem dX12_readAct_110 : decode cX12_readAct 110 = .ok (.bipush 15, 2) := by decide +kernel
theorem dX12_readAct_112 : decode cX12_readAct 112 = .ok (.invokevirtual 167, 3) := by decide +kernel
theorem dX12_readAct_115 : decode cX12_readAct 115 = .ok (.goto 25, 3) := by decide +kernel
theorem dX12_readAct_118 : decode cX12_readAct 118 = .ok (.iload_n 1, 1) := by decide +kernel
theorem dX12_readAct_119 : decode cX12_readAct 119 = .ok (.bipush 6, 2) := by decide +kernel
theorem dX12_readAct_121 : decode cX12_readAct 121 = .ok (.if_icmp .eq 19, 3) := by decide +kernel
theorem dX12_readAct_124 : decode cX12_readAct 124 = .ok (.aload_n 0, 1) := by decide +kernel
theorem dX12_readAct_125 : decode cX12_readAct 125 = .ok (.iload_n 2, 1) := by decide +kernel
theorem dX12_readAct_126 : decode cX12_readAct 126 = .ok (.iconst 1, 1) := by decide +kernel
theorem dX12_readAct_127 : decode cX12_readAct 127 = .ok (.iadd, 1) := by decide +kernel
theorem dX12_readAct_128 : decode cX12_readAct 128 = .ok (.iconst 0, 1) := by decide +kernel
theorem dX12_readAct_129 : decode cX12_readAct 129 = .ok (.aload_n 0, 1) := by decide +kernel
theorem dX12_readAct_130 : decode cX12_readAct 130 = .ok (.getfield 22, 3) := by decide +kernel
theorem dX12_readAct_133 : decode cX12_readAct 133 = .ok (.iconst 2, 1) := by decide +kernel
theorem dX12_readAct_134 : decode cX12_readAct 134 = .ok (.iaload, 1) := by decide +kernel
theorem dX12_readAct_135 : decode cX12_readAct 135 = .ok (.iconst 1, 1) := by decide +kernel
theorem dX12_readAct_136 : decode cX12_readAct 136 = .ok (.isub, 1) := by decide +kernel
theorem dX12_readAct_137 : decode cX12_readAct 137 = .ok (.invokevirtual 167, 3) := by decide +kernel
theorem dX12_readAct_140 : decode cX12_readAct 140 = .ok (.aload_n 0, 1) := by decide +kernel
theorem dX12_readAct_141 : decode cX12_readAct 141 = .ok (.iconst 5, 1) := by decide +kernel
theorem dX12_readAct_142 : decode cX12_readAct 142 = .ok (.invokevirtual 171, 3) := by decide +kernel
theorem dX12_readAct_145 : decode cX12_readAct 145 = .ok (.return_, 1) := by decide +kernel
theorem dX12_way_0 : decode cX12_way 0 = .ok (.aload_n 0, 1) := by decide +kernel
theorem dX12_way_1 : decode cX12_way 1 = .ok (.iconst 0, 1) := by decide +kernel
theorem dX12_way_2 : decode cX12_way 2 = .ok (.putfield 86, 3) := by decide +kernel
theorem dX12_way_5 : decode cX12_way 5 = .ok (.aload_n 0, 1) := by decide +kernel
theorem dX12_way_6 : decode cX12_way 6 = .ok (.aload_n 0, 1) := by decide +kernel
theorem dX12_way_7 : decode cX12_way 7 = .ok (.getfield 114, 3) := by decide +kernel
theorem dX12_way_10 : decode cX12_way 10 = .ok (.putfield 121, 3) := by decide +kernel
theorem dX12_way_13 : decode cX12_way 13 = .ok (.aload_n 0, 1) := by decide +kernel
theorem dX12_way_14 : decode cX12_way 14 = .ok (.iconst 0, 1) := by decide +kernel
theorem dX12_way_15 : decode cX12_way 15 = .ok (.putfield 114, 3) := by decide +kernel
theorem dX12_way_18 : decode cX12_way 18 = .ok (.aload_n 0, 1) := by decide +kernel
theorem dX12_way_19 : decode cX12_way 19 = .ok (.iconst 0, 1) := by decide +kernel
theorem dX12_way_20 : decode cX12_way 20 = .ok (.putfield 124, 3) := by decide +kernel
theorem dX12_way_23 : decode cX12_way 23 = .ok (.aload_n 0, 1) := by decide +kernel
theorem dX12_way_24 : decode cX12_way 24 = .ok (.iconst 0, 1) := by decide +kernel
theorem dX12_way_25 : decode cX12_way 25 = .ok (.putfield 146, 3) := by decide +kernel
theorem dX12_way_28 : decode cX12_way 28 = .ok (.iconst 0, 1) := by decide +kernel
theorem dX12_way_29 : decode cX12_way 29 = .ok (.istore_n 1, 1) := by decide +kernel
theorem dX12_way_30 : decode cX12_way 30 = .ok (.iload_n 1, 1) := by decide +kernel
theorem dX12_way_31 : decode cX12_way 31 = .ok (.sipush 172, 3) := by decide +kernel
theorem dX12_way_34 : decode cX12_way 34 = .ok (.if_icmp .ge 16, 3) := by decide +kernel
theorem dX12_way_37 : decode cX12_way 37 = .ok (.aload_n 0, 1) := by decide +kernel
theorem dX12_way_38 : decode cX12_way 38 = .ok (.getfield 22, 3) := by decide +kernel
theorem dX12_way_41 : decode cX12_way 41 = .ok (.iload_n 1, 1) := by decide +kernel
theorem dX12_way_42 : decode cX12_way 42 = .ok (.iconst 0, 1) := by decide +kernel
theorem dX12_way_43 : decode cX12_way 43 = .ok (.iastore, 1) := by decide +kernel
theorem dX12_way_44 : decode cX12_way 44 = .ok (.iinc 1 1, 3) := by decide +kernel
theorem dX12_way_47 : decode cX12_way 47 = .ok (.goto (-17), 3) := by decide +kernel
theorem dX12_way_50 : decode cX12_way 50 = .ok (.aload_n 0, 1) := by decide +kernel
theorem dX12_way_51 : decode cX12_way 51 = .ok (.getfield 22, 3) := by decide +kernel
theorem dX12_way_54 : decode cX12_way 54 = .ok (.bipush 68, 2) := by decide +kernel
theorem dX12_way_56 : decode cX12_way 56 = .ok (.sipush 200, 3) := by decide +kernel
theorem dX12_way_59 : decode cX12_way 59 = .ok (.iastore, 1) := by decide +kernel
theorem dX12_way_60 : decode cX12_way 60 = .ok (.aload_n 0, 1) := by decide +kernel
theorem dX12_way_61 : decode cX12_way 61 = .ok (.getfield 22, 3) := by decide +kernel
theorem dX12_way_64 : decode cX12_way 64 = .ok (.bipush 69, 2) := by decide +kernel
theorem dX12_way_66 : decode cX12_way 66 = .ok (.iconst 1, 1) := by decide +kernel
theorem dX12_way_67 : decode cX12_way 67 = .ok (.iastore, 1) := by decide +kernel
theorem dX12_way_68 : decode cX12_way 68 = .ok (.aload_n 0, 1) := by decide +kernel
theorem dX12_way_69 : decode cX12_way 69 = .ok (.getfield 22, 3) := by decide +kernel
theorem dX12_way_72 : decode cX12_way 72 = .ok (.bipush 70, 2) := by decide +kernel
theorem dX12_way_74 : decode cX12_way 74 = .ok (.iconst 1, 1) := by decide +kernel
theorem dX12_way_75 : decode cX12_way 75 = .ok (.iastore, 1) := by decide +kernel
theorem dX12_way_76 : decode cX12_way 76 = .ok (.aload_n 0, 1) := by decide +kernel
theorem dX12_way_77 : decode cX12_way 77 = .ok (.invokevirtual 156, 3) := by decide +kernel
theorem dX12_way_80 : decode cX12_way 80 = .ok (.aload_n 0, 1) := by decide +kernel
theorem dX12_way_81 : decode cX12_way 81 = .ok (.invokevirtual 174, 3) := by decide +kernel
theorem dX12_way_84 : decode cX12_way 84 = .ok (.ldc2_w 192, 3) := by decide +kernel
theorem dX12_way_87 : decode cX12_way 87 = .ok (.lcmp, 1) := by decide +kernel
theorem dX12_way_88 : decode cX12_way 88 = .ok (.ifCond .eq 8, 3) := by decide +kernel
theorem dX12_way_91 : decode cX12_way 91 = .ok (.aload_n 0, 1) := by decide +kernel
theorem dX12_way_92 : decode cX12_way 92 = .ok (.iconst 1, 1) := by decide +kernel
theorem dX12_way_93 : decode cX12_way 93 = .ok (.invokevirtual 152, 3) := by decide +kernel
theorem dX12_way_96 : decode cX12_way 96 = .ok (.aload_n 0, 1) := by decide +kernel
theorem dX12_way_97 : decode cX12_way 97 = .ok (.invokevirtual 174, 3) := by decide +kernel
theorem dX12_way_100 : decode cX12_way 100 = .ok (.ldc2_w 192, 3) := by decide +kernel
theorem dX12_way_103 : decode cX12_way 103 = .ok (.lcmp, 1) := by decide +kernel
theorem dX12_way_104 : decode cX12_way 104 = .ok (.ifCond .ne 10, 3) := by decide +kernel
theorem dX12_way_107 : decode cX12_way 107 = .ok (.aload_n 0, 1) := by decide +kernel
theorem dX12_way_108 : decode cX12_way 108 = .ok (.invokevirtual 194, 3) := by decide +kernel
theorem dX12_way_111 : decode cX12_way 111 = .ok (.goto (-15), 3) := by decide +kernel
theorem dX12_way_114 : decode cX12_way 114 = .ok (.aload_n 0, 1) := by decide +kernel
theorem dX12_way_115 : decode cX12_way 115 = .ok (.invokevirtual 174, 3) := by decide +kernel
theorem dX12_way_118 : decode cX12_way 118 = .ok (.ldc2_w 197, 3) := by decide +kernel
theorem dX12_way_121 : decode cX12_way 121 = .ok (.lcmp, 1) := by decide +kernel
theorem dX12_way_122 : decode cX12_way 122 = .ok (.ifCond .ne 10, 3) := by decide +kernel
theorem dX12_way_125 : decode cX12_way 125 = .ok (.aload_n 0, 1) := by decide +kernel
theorem dX12_way_126 : decode cX12_way 126 = .ok (.invokevirtual 199, 3) := by decide +kernel
theorem dX12_way_129 : decode cX12_way 129 = .ok (.goto (-15), 3) := by decide +kernel
theorem dX12_way_132 : decode cX12_way 132 = .ok (.aload_n 0, 1) := by decide +kernel
theorem dX12_way_133 : decode cX12_way 133 = .ok (.invokevirtual 174, 3) := by decide +kernel
theorem dX12_way_136 : decode cX12_way 136 = .ok (.ldc2_w 202, 3) := by decide +kernel
theorem dX12_way_139 : decode cX12_way 139 = .ok (.lcmp, 1) := by decide +kernel
theorem dX12_way_140 : decode cX12_way 140 = .ok (.ifCond .ne 10, 3) := by decide +kernel
theorem dX12_way_143 : decode cX12_way 143 = .ok (.aload_n 0, 1) := by decide +kernel
theorem dX12_way_144 : decode cX12_way 144 = .ok (.invokevirtual 204, 3) := by decide +kernel
theorem dX12_way_147 : decode cX12_way 147 = .ok (.goto (-15), 3) := by decide +kernel
theorem dX12_way_150 : decode cX12_way 150 = .ok (.aload_n 0, 1) := by decide +kernel
theorem dX12_way_151 : decode cX12_way 151 = .ok (.invokevirtual 174, 3) := by decide +kernel
theorem dX12_way_154 : decode cX12_way 154 = .ok (.ldc2_w 207, 3) := by decide +kernel
theorem dX12_way_157 : decode cX12_way 157 = .ok (.lcmp, 1) := by decide +kernel
theorem dX12_way_158 : decode cX12_way 158 = .ok (.ifCond .ne 10, 3) := by decide +kernel
theorem dX12_way_161 : decode cX12_way 161 = .ok (.aload_n 0, 1) := by decide +kernel
theorem dX12_way_162 : decode cX12_way 162 = .ok (.invokevirtual 209, 3) := by decide +kernel
theorem dX12_way_165 : decode cX12_way 165 = .ok (.goto (-15), 3) := by decide +kernel
theorem dX12_way_168 : decode cX12_way 168 = .ok (.aload_n 0, 1) := by decide +kernel
theorem dX12_way_169 : decode cX12_way 169 = .ok (.invokevirtual 174, 3) := by decide +kernel
theorem dX12_way_172 : decode cX12_way 172 = .ok (.ldc2_w 212, 3) := by decide +kernel
theorem dX12_way_175 : decode cX12_way 175 = .ok (.lcmp, 1) := by decide +kernel
theorem dX12_way_176 : decode cX12_way 176 = .ok (.ifCond .ne 7, 3) := by decide +kernel
theorem dX12_way_179 : decode cX12_way 179 = .ok (.aload_n 0, 1) := by decide +kernel
theorem dX12_way_180 : decode cX12_way 180 = .ok (.invokevirtual 214, 3) := by decide +kernel
theorem dX12_way_183 : decode cX12_way 183 = .ok (.aload_n 0, 1) := by decide +kernel
theorem dX12_way_184 : decode cX12_way 184 = .ok (.getfield 146, 3) := by decide +kernel
theorem dX12_way_187 : decode cX12_way 187 = .ok (.ifCond .ne 18, 3) := by decide +kernel
theorem dX12_way_190 : decode cX12_way 190 = .ok (.aload_n 0, 1) := by decide +kernel
theorem dX12_way_191 : decode cX12_way 191 = .ok (.getfield 134, 3) := by decide +kernel
theorem dX12_way_194 : decode cX12_way 194 = .ok (.iconst 1, 1) := by decide +kernel
theorem dX12_way_195 : decode cX12_way 195 = .ok (.if_icmp .eq 10, 3) := by decide +kernel
theorem dX12_way_198 : decode cX12_way 198 = .ok (.aload_n 0, 1) := by decide +kernel
theorem dX12_way_199 : decode cX12_way 199 = .ok (.invokevirtual 217, 3) := by decide +kernel
theorem dX12_way_202 : decode cX12_way 202 = .ok (.goto (-19), 3) := by decide +kernel
theorem dX12_way_205 : decode cX12_way 205 = .ok (.aload_n 0, 1) := by decide +kernel
theorem dX12_way_206 : decode cX12_way 206 = .ok (.getfield 146, 3) := by decide +kernel
theorem dX12_way_209 : decode cX12_way 209 = .ok (.ifCond .le 21, 3) := by decide +kernel
theorem dX12_way_212 : decode cX12_way 212 = .ok (.aload_n 0, 1) := by decide +kernel
theorem dX12_way_213 : decode cX12_way 213 = .ok (.aload_n 0, 1) := by decide +kernel
theorem dX12_way_214 : decode cX12_way 214 = .ok (.getfield 146, 3) := by decide +kernel
theorem dX12_way_217 : decode cX12_way 217 = .ok (.putfield 220, 3) := by decide +kernel
theorem dX12_way_220 : decode cX12_way 220 = .ok (.ldc2_w 223, 3) := by decide +kernel
theorem dX12_way_223 : decode cX12_way 223 = .ok (.aload_n 0, 1) := by decide +kernel
theorem dX12_way_224 : decode cX12_way 224 = .ok (.getfield 149, 3) := by decide +kernel
theorem dX12_way_227 : decode cX12_way 227 = .ok (.i2l, 1) := by decide +kernel
theorem dX12_way_228 : decode cX12_way 228 = .ok (.lsub, 1) := by decide +kernel
theorem dX12_way_229 : decode cX12_way 229 = .ok (.lreturn, 1) := by decide +kernel
theorem dX12_way_230 : decode cX12_way 230 = .ok (.iconst 0, 1) := by decide +kernel
theorem dX12_way_231 : decode cX12_way 231 = .ok (.istore_n 1, 1) := by decide +kernel
theorem dX12_way_232 : decode cX12_way 232 = .ok (.iload_n 1, 1) := by decide +kernel
theorem dX12_way_233 : decode cX12_way 233 = .ok (.sipush 172, 3) := by decide +kernel
theorem dX12_way_236 : decode cX12_way 236 = .ok (.if_icmp .ge 21, 3) := by decide +kernel
theorem dX12_way_239 : decode cX12_way 239 = .ok (.aload_n 0, 1) := by decide +kernel
theorem dX12_way_240 : decode cX12_way 240 = .ok (.getfield 19, 3) := by decide +kernel
theorem dX12_way_243 : decode cX12_way 243 = .ok (.iload_n 1, 1) := by decide +kernel
theorem dX12_way_244 : decode cX12_way 244 = .ok (.aload_n 0, 1) := by decide +kernel
theorem dX12_way_245 : decode cX12_way 245 = .ok (.getfield 22, 3) := by decide +kernel
theorem dX12_way_248 : decode cX12_way 248 = .ok (.iload_n 1, 1) := by decide +kernel
theorem dX12_way_249 : decode cX12_way 249 = .ok (.iaload, 1) := by decide +kernel
theorem dX12_way_250 : decode cX12_way 250 = .ok (.iastore, 1) := by decide +kernel
theorem dX12_way_251 : decode cX12_way 251 = .ok (.iinc 1 1, 3) := by decide +kernel
theorem dX12_way_254 : decode cX12_way 254 = .ok (.goto (-22), 3) := by decide +kernel
theorem dX12_way_257 : decode cX12_way 257 = .ok (.aload_n 0, 1) := by decide +kernel
theorem dX12_way_258 : decode cX12_way 258 = .ok (.iconst 1, 1) := by decide +kernel
theorem dX12_way_259 : decode cX12_way 259 = .ok (.putfield 225, 3) := by decide +kernel
theorem dX12_way_262 : decode cX12_way 262 = .ok (.aload_n 0, 1) := by decide +kernel
theorem dX12_way_263 : decode cX12_way 263 = .ok (.iconst 0, 1) := by decide +kernel
theorem dX12_way_264 : decode cX12_way 264 = .ok (.putfield 229, 3) := by decide +kernel
theorem dX12_way_267 : decode cX12_way 267 = .ok (.aload_n 0, 1) := by decide +kernel
theorem dX12_way_268 : decode cX12_way 268 = .ok (.aload_n 0, 1) := by decide +kernel
theorem dX12_way_269 : decode cX12_way 269 = .ok (.getfield 19, 3) := by decide +kernel
theorem dX12_way_272 : decode cX12_way 272 = .ok (.iconst 1, 1) := by decide +kernel
theorem dX12_way_273 : decode cX12_way 273 = .ok (.iaload, 1) := by decide +kernel
theorem dX12_way_274 : decode cX12_way 274 = .ok (.ifCond .le 7, 3) := by decide +kernel
theorem dX12_way_277 : decode cX12_way 277 = .ok (.iconst 0, 1) := by decide +kernel
theorem dX12_way_278 : decode cX12_way 278 = .ok (.goto 5, 3) := by decide +kernel
theorem dX12_way_281 : decode cX12_way 281 = .ok (.ldc 28, 2) := by decide +kernel
theorem dX12_way_283 : decode cX12_way 283 = .ok (.putfield 29, 3) := by decide +kernel
theorem dX12_way_286 : decode cX12_way 286 = .ok (.aload_n 0, 1) := by decide +kernel
theorem dX12_way_287 : decode cX12_way 287 = .ok (.invokevirtual 232, 3) := by decide +kernel
theorem dX12_way_290 : decode cX12_way 290 = .ok (.aload_n 0, 1) := by decide +kernel
theorem dX12_way_291 : decode cX12_way 291 = .ok (.invokevirtual 235, 3) := by decide +kernel
theorem dX12_way_294 : decode cX12_way 294 = .ok (.aload_n 0, 1) := by decide +kernel
theorem dX12_way_295 : decode cX12_way 295 = .ok (.getfield 19, 3) := by decide +kernel
theorem dX12_way_298 : decode cX12_way 298 = .ok (.iconst 5, 1) := by decide +kernel
theorem dX12_way_299 : decode cX12_way 299 = .ok (.iaload, 1) := by decide +kernel
theorem dX12_way_300 : decode cX12_way 300 = .ok (.i2l, 1) := by decide +kernel
theorem dX12_way_301 : decode cX12_way 301 = .ok (.lreturn, 1) := by decide +kernel
theorem dX12_fault_0 : decode cX12_fault 0 = .ok (.aload_n 0, 1) := by decide +kernel
theorem dX12_fault_1 : decode cX12_fault 1 = .ok (.iconst 0, 1) := by decide +kernel
theorem dX12_fault_2 : decode cX12_fault 2 = .ok (.putfield 86, 3) := by decide +kernel
theorem dX12_fault_5 : decode cX12_fault 5 = .ok (.aload_n 0, 1) := by decide +kernel
theorem dX12_fault_6 : decode cX12_fault 6 = .ok (.getfield 220, 3) := by decide +kernel
theorem dX12_fault_9 : decode cX12_fault 9 = .ok (.ireturn, 1) := by decide +kernel
theorem dX12_isAct_0 : decode cX12_isAct 0 = .ok (.iload_n 1, 1) := by decide +kernel
theorem dX12_isAct_1 : decode cX12_isAct 1 = .ok (.i2l, 1) := by decide +kernel
theorem dX12_isAct_2 : decode cX12_isAct 2 = .ok (.lconst 0, 1) := by decide +kernel
theorem dX12_isAct_3 : decode cX12_isAct 3 = .ok (.aload_n 0, 1) := by decide +kernel
theorem dX12_isAct_4 : decode cX12_isAct 4 = .ok (.getfield 19, 3) := by decide +kernel
theorem dX12_isAct_7 : decode cX12_isAct 7 = .ok (.iconst 5, 1) := by decide +kernel
theorem dX12_isAct_8 : decode cX12_isAct 8 = .ok (.iaload, 1) := by decide +kernel
theorem dX12_isAct_9 : decode cX12_isAct 9 = .ok (.iconst 1, 1) := by decide +kernel
theorem dX12_isAct_10 : decode cX12_isAct 10 = .ok (.isub, 1) := by decide +kernel
theorem dX12_isAct_11 : decode cX12_isAct 11 = .ok (.i2l, 1) := by decide +kernel
theorem dX12_isAct_12 : decode cX12_isAct 12 = .ok (.invokestatic 96, 3) := by decide +kernel
theorem dX12_isAct_15 : decode cX12_isAct 15 = .ok (.ireturn, 1) := by decide +kernel
theorem dX12_deed_0 : decode cX12_deed 0 = .ok (.aload_n 0, 1) := by decide +kernel
theorem dX12_deed_1 : decode cX12_deed 1 = .ok (.getfield 19, 3) := by decide +kernel
theorem dX12_deed_4 : decode cX12_deed 4 = .ok (.bipush 72, 2) := by decide +kernel
theorem dX12_deed_6 : decode cX12_deed 6 = .ok (.iconst 5, 1) := by decide +kernel
theorem dX12_deed_7 : decode cX12_deed 7 = .ok (.iload_n 1, 1) := by decide +kernel
theorem dX12_deed_8 : decode cX12_deed 8 = .ok (.imul, 1) := by decide +kernel
theorem dX12_deed_9 : decode cX12_deed 9 = .ok (.iadd, 1) := by decide +kernel
theorem dX12_deed_10 : decode cX12_deed 10 = .ok (.iload_n 2, 1) := by decide +kernel
theorem dX12_deed_11 : decode cX12_deed 11 = .ok (.iadd, 1) := by decide +kernel
theorem dX12_deed_12 : decode cX12_deed 12 = .ok (.iaload, 1) := by decide +kernel
theorem dX12_deed_13 : decode cX12_deed 13 = .ok (.ireturn, 1) := by decide +kernel
theorem dX12_isBeast_0 : decode cX12_isBeast 0 = .ok (.iload_n 1, 1) := by decide +kernel
theorem dX12_isBeast_1 : decode cX12_isBeast 1 = .ok (.i2l, 1) := by decide +kernel
theorem dX12_isBeast_2 : decode cX12_isBeast 2 = .ok (.lconst 0, 1) := by decide +kernel
theorem dX12_isBeast_3 : decode cX12_isBeast 3 = .ok (.aload_n 0, 1) := by decide +kernel
theorem dX12_isBeast_4 : decode cX12_isBeast 4 = .ok (.getfield 19, 3) := by decide +kernel
theorem dX12_isBeast_7 : decode cX12_isBeast 7 = .ok (.iconst 2, 1) := by decide +kernel
theorem dX12_isBeast_8 : decode cX12_isBeast 8 = .ok (.iaload, 1) := by decide +kernel
theorem dX12_isBeast_9 : decode cX12_isBeast 9 = .ok (.iconst 1, 1) := by decide +kernel
theorem dX12_isBeast_10 : decode cX12_isBeast 10 = .ok (.isub, 1) := by decide +kernel
theorem dX12_isBeast_11 : decode cX12_isBeast 11 = .ok (.i2l, 1) := by decide +kernel
theorem dX12_isBeast_12 : decode cX12_isBeast 12 = .ok (.invokestatic 96, 3) := by decide +kernel
theorem dX12_isBeast_15 : decode cX12_isBeast 15 = .ok (.ireturn, 1) := by decide +kernel
theorem dX12_beast_0 : decode cX12_beast 0 = .ok (.aload_n 0, 1) := by decide +kernel
theorem dX12_beast_1 : decode cX12_beast 1 = .ok (.getfield 19, 3) := by decide +kernel
theorem dX12_beast_4 : decode cX12_beast 4 = .ok (.bipush 24, 2) := by decide +kernel
theorem dX12_beast_6 : decode cX12_beast 6 = .ok (.iconst 5, 1) := by decide +kernel
theorem dX12_beast_7 : decode cX12_beast 7 = .ok (.iload_n 1, 1) := by decide +kernel
theorem dX12_beast_8 : decode cX12_beast 8 = .ok (.imul, 1) := by decide +kernel
theorem dX12_beast_9 : decode cX12_beast 9 = .ok (.iadd, 1) := by decide +kernel
theorem dX12_beast_10 : decode cX12_beast 10 = .ok (.iload_n 2, 1) := by decide +kernel
theorem dX12_beast_11 : decode cX12_beast 11 = .ok (.iadd, 1) := by decide +kernel
theorem dX12_beast_12 : decode cX12_beast 12 = .ok (.iaload, 1) := by decide +kernel
theorem dX12_beast_13 : decode cX12_beast 13 = .ok (.ireturn, 1) := by decide +kernel
theorem dX12_act_0 : decode cX12_act 0 = .ok (.aload_n 0, 1) := by decide +kernel
theorem dX12_act_1 : decode cX12_act 1 = .ok (.iconst 0, 1) := by decide +kernel
theorem dX12_act_2 : decode cX12_act 2 = .ok (.putfield 86, 3) := by decide +kernel
theorem dX12_act_5 : decode cX12_act 5 = .ok (.aload_n 0, 1) := by decide +kernel
theorem dX12_act_6 : decode cX12_act 6 = .ok (.iload_n 1, 1) := by decide +kernel
theorem dX12_act_7 : decode cX12_act 7 = .ok (.invokevirtual 238, 3) := by decide +kernel
theorem dX12_act_10 : decode cX12_act 10 = .ok (.ifCond .eq 15, 3) := by decide +kernel
theorem dX12_act_13 : decode cX12_act 13 = .ok (.iload_n 2, 1) := by decide +kernel
theorem dX12_act_14 : decode cX12_act 14 = .ok (.i2l, 1) := by decide +kernel
theorem dX12_act_15 : decode cX12_act 15 = .ok (.lconst 0, 1) := by decide +kernel
theorem dX12_act_16 : decode cX12_act 16 = .ok (.ldc2_w 241, 3) := by decide +kernel
theorem dX12_act_19 : decode cX12_act 19 = .ok (.invokestatic 96, 3) := by decide +kernel
theorem dX12_act_22 : decode cX12_act 22 = .ok (.ifCond .ne 9, 3) := by decide +kernel
theorem dX12_act_25 : decode cX12_act 25 = .ok (.ldc2_w 106, 3) := by decide +kernel
theorem dX12_act_28 : decode cX12_act 28 = .ok (.goto 12, 3) := by decide +kernel
theorem dX12_act_31 : decode cX12_act 31 = .ok (.aload_n 0, 1) := by decide +kernel
theorem dX12_act_32 : decode cX12_act 32 = .ok (.iload_n 1, 1) := by decide +kernel
theorem dX12_act_33 : decode cX12_act 33 = .ok (.iload_n 2, 1) := by decide +kernel
theorem dX12_act_34 : decode cX12_act 34 = .ok (.iconst 1, 1) := by decide +kernel
theorem dX12_act_35 : decode cX12_act 35 = .ok (.iadd, 1) := by decide +kernel
theorem dX12_act_36 : decode cX12_act 36 = .ok (.invokevirtual 243, 3) := by decide +kernel
theorem dX12_act_39 : decode cX12_act 39 = .ok (.i2l, 1) := by decide +kernel
theorem dX12_act_40 : decode cX12_act 40 = .ok (.lreturn, 1) := by decide +kernel
theorem dX12_first_0 : decode cX12_first 0 = .ok (.aload_n 0, 1) := by decide +kernel
theorem dX12_first_1 : decode cX12_first 1 = .ok (.bipush 20, 2) := by decide +kernel
theorem dX12_first_3 : decode cX12_first 3 = .ok (.putfield 247, 3) := by decide +kernel
theorem dX12_first_6 : decode cX12_first 6 = .ok (.aload_n 0, 1) := by decide +kernel
theorem dX12_first_7 : decode cX12_first 7 = .ok (.iconst 0, 1) := by decide +kernel
theorem dX12_first_8 : decode cX12_first 8 = .ok (.putfield 250, 3) := by decide +kernel
theorem dX12_first_11 : decode cX12_first 11 = .ok (.aload_n 0, 1) := by decide +kernel
theorem dX12_first_12 : decode cX12_first 12 = .ok (.iconst 0, 1) := by decide +kernel
theorem dX12_first_13 : decode cX12_first 13 = .ok (.putfield 253, 3) := by decide +kernel
theorem dX12_first_16 : decode cX12_first 16 = .ok (.aload_n 0, 1) := by decide +kernel
theorem dX12_first_17 : decode cX12_first 17 = .ok (.iconst 0, 1) := by decide +kernel
theorem dX12_first_18 : decode cX12_first 18 = .ok (.putfield 256, 3) := by decide +kernel
theorem dX12_first_21 : decode cX12_first 21 = .ok (.aload_n 0, 1) := by decide +kernel
theorem dX12_first_22 : decode cX12_first 22 = .ok (.iconst 0, 1) := by decide +kernel
theorem dX12_first_23 : decode cX12_first 23 = .ok (.putfield 259, 3) := by decide +kernel
theorem dX12_first_26 : decode cX12_first 26 = .ok (.aload_n 0, 1) := by decide +kernel
theorem dX12_first_27 : decode cX12_first 27 = .ok (.iconst 0, 1) := by decide +kernel
theorem dX12_first_28 : decode cX12_first 28 = .ok (.putfield 262, 3) := by decide +kernel
theorem dX12_first_31 : decode cX12_first 31 = .ok (.aload_n 0, 1) := by decide +kernel
theorem dX12_first_32 : decode cX12_first 32 = .ok (.ldc 28, 2) := by decide +kernel
theorem dX12_first_34 : decode cX12_first 34 = .ok (.putfield 265, 3) := by decide +kernel
theorem dX12_first_37 : decode cX12_first 37 = .ok (.return_, 1) := by decide +kernel
theorem dX12_layLive_0 : decode cX12_layLive 0 = .ok (.aload_n 0, 1) := by decide +kernel
theorem dX12_layLive_1 : decode cX12_layLive 1 = .ok (.aload_n 0, 1) := by decide +kernel
theorem dX12_layLive_2 : decode cX12_layLive 2 = .ok (.getfield 33, 3) := by decide +kernel
theorem dX12_layLive_5 : decode cX12_layLive 5 = .ok (.iconst 0, 1) := by decide +kernel
theorem dX12_layLive_6 : decode cX12_layLive 6 = .ok (.iaload, 1) := by decide +kernel
theorem dX12_layLive_7 : decode cX12_layLive 7 = .ok (.putfield 247, 3) := by decide +kernel
theorem dX12_layLive_10 : decode cX12_layLive 10 = .ok (.aload_n 0, 1) := by decide +kernel
theorem dX12_layLive_11 : decode cX12_layLive 11 = .ok (.aload_n 0, 1) := by decide +kernel
theorem dX12_layLive_12 : decode cX12_layLive 12 = .ok (.getfield 33, 3) := by decide +kernel
theorem dX12_layLive_15 : decode cX12_layLive 15 = .ok (.iconst 1, 1) := by decide +kernel
theorem dX12_layLive_16 : decode cX12_layLive 16 = .ok (.iaload, 1) := by decide +kernel
theorem dX12_layLive_17 : decode cX12_layLive 17 = .ok (.putfield 250, 3) := by decide +kernel
theorem dX12_layLive_20 : decode cX12_layLive 20 = .ok (.aload_n 0, 1) := by decide +kernel
theorem dX12_layLive_21 : decode cX12_layLive 21 = .ok (.aload_n 0, 1) := by decide +kernel
theorem dX12_layLive_22 : decode cX12_layLive 22 = .ok (.getfield 33, 3) := by decide +kernel
theorem dX12_layLive_25 : decode cX12_layLive 25 = .ok (.iconst 2, 1) := by decide +kernel
theorem dX12_layLive_26 : decode cX12_layLive 26 = .ok (.iaload, 1) := by decide +kernel
theorem dX12_layLive_27 : decode cX12_layLive 27 = .ok (.putfield 253, 3) := by decide +kernel
theorem dX12_layLive_30 : decode cX12_layLive 30 = .ok (.aload_n 0, 1) := by decide +kernel
theorem dX12_layLive_31 : decode cX12_layLive 31 = .ok (.aload_n 0, 1) := by decide +kernel
theorem dX12_layLive_32 : decode cX12_layLive 32 = .ok (.getfield 33, 3) := by decide +kernel
theorem dX12_layLive_35 : decode cX12_layLive 35 = .ok (.iconst 3, 1) := by decide +kernel
theorem dX12_layLive_36 : decode cX12_layLive 36 = .ok (.iaload, 1) := by decide +kernel
theorem dX12_layLive_37 : decode cX12_layLive 37 = .ok (.putfield 256, 3) := by decide +kernel
theorem dX12_layLive_40 : decode cX12_layLive 40 = .ok (.aload_n 0, 1) := by decide +kernel
theorem dX12_layLive_41 : decode cX12_layLive 41 = .ok (.aload_n 0, 1) := by decide +kernel
theorem dX12_layLive_42 : decode cX12_layLive 42 = .ok (.getfield 33, 3) := by decide +kernel
theorem dX12_layLive_45 : decode cX12_layLive 45 = .ok (.iconst 4, 1) := by decide +kernel
theorem dX12_layLive_46 : decode cX12_layLive 46 = .ok (.iaload, 1) := by decide +kernel
theorem dX12_layLive_47 : decode cX12_layLive 47 = .ok (.putfield 259, 3) := by decide +kernel
theorem dX12_layLive_50 : decode cX12_layLive 50 = .ok (.aload_n 0, 1) := by decide +kernel
theorem dX12_layLive_51 : decode cX12_layLive 51 = .ok (.aload_n 0, 1) := by decide +kernel
theorem dX12_layLive_52 : decode cX12_layLive 52 = .ok (.getfield 33, 3) := by decide +kernel
theorem dX12_layLive_55 : decode cX12_layLive 55 = .ok (.iconst 5, 1) := by decide +kernel
theorem dX12_layLive_56 : decode cX12_layLive 56 = .ok (.iaload, 1) := by decide +kernel
theorem dX12_layLive_57 : decode cX12_layLive 57 = .ok (.iconst 1, 1) := by decide +kernel
theorem dX12_layLive_58 : decode cX12_layLive 58 = .ok (.if_icmp .ne 7, 3) := by decide +kernel
theorem dX12_layLive_61 : decode cX12_layLive 61 = .ok (.iconst 1, 1) := by decide +kernel
theorem dX12_layLive_62 : decode cX12_layLive 62 = .ok (.goto 4, 3) := by decide +kernel
theorem dX12_layLive_65 : decode cX12_layLive 65 = .ok (.iconst 0, 1) := by decide +kernel
theorem dX12_layLive_66 : decode cX12_layLive 66 = .ok (.putfield 262, 3) := by decide +kernel
theorem dX12_layLive_69 : decode cX12_layLive 69 = .ok (.aload_n 0, 1) := by decide +kernel
theorem dX12_layLive_70 : decode cX12_layLive 70 = .ok (.aload_n 0, 1) := by decide +kernel
theorem dX12_layLive_71 : decode cX12_layLive 71 = .ok (.getfield 33, 3) := by decide +kernel
theorem dX12_layLive_74 : decode cX12_layLive 74 = .ok (.bipush 6, 2) := by decide +kernel
theorem dX12_layLive_76 : decode cX12_layLive 76 = .ok (.iaload, 1) := by decide +kernel
theorem dX12_layLive_77 : decode cX12_layLive 77 = .ok (.putfield 265, 3) := by decide +kernel
theorem dX12_layLive_80 : decode cX12_layLive 80 = .ok (.return_, 1) := by decide +kernel
theorem dX12_of_0 : decode cX12_of 0 = .ok (.iload_n 1, 1) := by decide +kernel
theorem dX12_of_1 : decode cX12_of 1 = .ok (.tableswitch 77 0 5 #[39, 44, 49, 54, 59, 64], 39) := by decide +kernel
theorem dX12_of_40 : decode cX12_of 40 = .ok (.aload_n 0, 1) := by decide +kernel
theorem dX12_of_41 : decode cX12_of 41 = .ok (.getfield 247, 3) := by decide +kernel
theorem dX12_of_44 : decode cX12_of 44 = .ok (.ireturn, 1) := by decide +kernel
theorem dX12_of_45 : decode cX12_of 45 = .ok (.aload_n 0, 1) := by decide +kernel
theorem dX12_of_46 : decode cX12_of 46 = .ok (.getfield 250, 3) := by decide +kernel
theorem dX12_of_49 : decode cX12_of 49 = .ok (.ireturn, 1) := by decide +kernel
theorem dX12_of_50 : decode cX12_of 50 = .ok (.aload_n 0, 1) := by decide +kernel
theorem dX12_of_51 : decode cX12_of 51 = .ok (.getfield 253, 3) := by decide +kernel
theorem dX12_of_54 : decode cX12_of 54 = .ok (.ireturn, 1) := by decide +kernel
theorem dX12_of_55 : decode cX12_of 55 = .ok (.aload_n 0, 1) := by decide +kernel
theorem dX12_of_56 : decode cX12_of 56 = .ok (.getfield 256, 3) := by decide +kernel
theorem dX12_of_59 : decode cX12_of 59 = .ok (.ireturn, 1) := by decide +kernel
theorem dX12_of_60 : decode cX12_of 60 = .ok (.aload_n 0, 1) := by decide +kernel
theorem dX12_of_61 : decode cX12_of 61 = .ok (.getfield 259, 3) := by decide +kernel
theorem dX12_of_64 : decode cX12_of 64 = .ok (.ireturn, 1) := by decide +kernel
theorem dX12_of_65 : decode cX12_of 65 = .ok (.aload_n 0, 1) := by decide +kernel
theorem dX12_of_66 : decode cX12_of 66 = .ok (.getfield 262, 3) := by decide +kernel
theorem dX12_of_69 : decode cX12_of 69 = .ok (.ifCond .eq 7, 3) := by decide +kernel
theorem dX12_of_72 : decode cX12_of 72 = .ok (.iconst 1, 1) := by decide +kernel
theorem dX12_of_73 : decode cX12_of 73 = .ok (.goto 4, 3) := by decide +kernel
theorem dX12_of_76 : decode cX12_of 76 = .ok (.iconst 0, 1) := by decide +kernel
theorem dX12_of_77 : decode cX12_of 77 = .ok (.ireturn, 1) := by decide +kernel
theorem dX12_of_78 : decode cX12_of 78 = .ok (.aload_n 0, 1) := by decide +kernel
theorem dX12_of_79 : decode cX12_of 79 = .ok (.getfield 265, 3) := by decide +kernel
theorem dX12_of_82 : decode cX12_of 82 = .ok (.ireturn, 1) := by decide +kernel
theorem dX12_keepLive_0 : decode cX12_keepLive 0 = .ok (.iconst 0, 1) := by decide +kernel
theorem dX12_keepLive_1 : decode cX12_keepLive 1 = .ok (.istore_n 1, 1) := by decide +kernel
theorem dX12_keepLive_2 : decode cX12_keepLive 2 = .ok (.iload_n 1, 1) := by decide +kernel
theorem dX12_keepLive_3 : decode cX12_keepLive 3 = .ok (.bipush 7, 2) := by decide +kernel
theorem dX12_keepLive_5 : decode cX12_keepLive 5 = .ok (.if_icmp .ge 20, 3) := by decide +kernel
theorem dX12_keepLive_8 : decode cX12_keepLive 8 = .ok (.aload_n 0, 1) := by decide +kernel
theorem dX12_keepLive_9 : decode cX12_keepLive 9 = .ok (.getfield 33, 3) := by decide +kernel
theorem dX12_keepLive_12 : decode cX12_keepLive 12 = .ok (.iload_n 1, 1) := by decide +kernel
theorem dX12_keepLive_13 : decode cX12_keepLive 13 = .ok (.aload_n 0, 1) := by decide +kernel
theorem dX12_keepLive_14 : decode cX12_keepLive 14 = .ok (.iload_n 1, 1) := by decide +kernel
theorem dX12_keepLive_15 : decode cX12_keepLive 15 = .ok (.invokevirtual 268, 3) := by decide +kernel
theorem dX12_keepLive_18 : decode cX12_keepLive 18 = .ok (.iastore, 1) := by decide +kernel
theorem dX12_keepLive_19 : decode cX12_keepLive 19 = .ok (.iinc 1 1, 3) := by decide +kernel
theorem dX12_keepLive_22 : decode cX12_keepLive 22 = .ok (.goto (-20), 3) := by decide +kernel
theorem dX12_keepLive_25 : decode cX12_keepLive 25 = .ok (.return_, 1) := by decide +kernel
theorem dX12_ropeOf_0 : decode cX12_ropeOf 0 = .ok (.aload_n 0, 1) := by decide +kernel
theorem dX12_ropeOf_1 : decode cX12_ropeOf 1 = .ok (.getfield 19, 3) := by decide +kernel
theorem dX12_ropeOf_4 : decode cX12_ropeOf 4 = .ok (.bipush 6, 2) := by decide +kernel
theorem dX12_ropeOf_6 : decode cX12_ropeOf 6 = .ok (.iconst 3, 1) := by decide +kernel
theorem dX12_ropeOf_7 : decode cX12_ropeOf 7 = .ok (.aload_n 0, 1) := by decide +kernel
theorem dX12_ropeOf_8 : decode cX12_ropeOf 8 = .ok (.getfield 229, 3) := by decide +kernel
theorem dX12_ropeOf_11 : decode cX12_ropeOf 11 = .ok (.imul, 1) := by decide +kernel
theorem dX12_ropeOf_12 : decode cX12_ropeOf 12 = .ok (.iadd, 1) := by decide +kernel
theorem dX12_ropeOf_13 : decode cX12_ropeOf 13 = .ok (.iload_n 1, 1) := by decide +kernel
theorem dX12_ropeOf_14 : decode cX12_ropeOf 14 = .ok (.iadd, 1) := by decide +kernel
theorem dX12_ropeOf_15 : decode cX12_ropeOf 15 = .ok (.iaload, 1) := by decide +kernel
theorem dX12_ropeOf_16 : decode cX12_ropeOf 16 = .ok (.ireturn, 1) := by decide +kernel
theorem dX12_horseOf_0 : decode cX12_horseOf 0 = .ok (.aload_n 0, 1) := by decide +kernel
theorem dX12_horseOf_1 : decode cX12_horseOf 1 = .ok (.getfield 29, 3) := by decide +kernel
theorem dX12_horseOf_4 : decode cX12_horseOf 4 = .ok (.ldc 28, 2) := by decide +kernel
theorem dX12_horseOf_6 : decode cX12_horseOf 6 = .ok (.if_icmp .ne 7, 3) := by decide +kernel
theorem dX12_horseOf_9 : decode cX12_horseOf 9 = .ok (.iconst 0, 1) := by decide +kernel
theorem dX12_horseOf_10 : decode cX12_horseOf 10 = .ok (.goto 19, 3) := by decide +kernel
theorem dX12_horseOf_13 : decode cX12_horseOf 13 = .ok (.aload_n 0, 1) := by decide +kernel
theorem dX12_horseOf_14 : decode cX12_horseOf 14 = .ok (.getfield 19, 3) := by decide +kernel
theorem dX12_horseOf_17 : decode cX12_horseOf 17 = .ok (.bipush 15, 2) := by decide +kernel
theorem dX12_horseOf_19 : decode cX12_horseOf 19 = .ok (.iconst 3, 1) := by decide +kernel
theorem dX12_horseOf_20 : decode cX12_horseOf 20 = .ok (.aload_n 0, 1) := by decide +kernel
theorem dX12_horseOf_21 : decode cX12_horseOf 21 = .ok (.getfield 29, 3) := by decide +kernel
theorem dX12_horseOf_24 : decode cX12_horseOf 24 = .ok (.imul, 1) := by decide +kernel
theorem dX12_horseOf_25 : decode cX12_horseOf 25 = .ok (.iadd, 1) := by decide +kernel
theorem dX12_horseOf_26 : decode cX12_horseOf 26 = .ok (.iload_n 1, 1) := by decide +kernel
theorem dX12_horseOf_27 : decode cX12_horseOf 27 = .ok (.iadd, 1) := by decide +kernel
theorem dX12_horseOf_28 : decode cX12_horseOf 28 = .ok (.iaload, 1) := by decide +kernel
theorem dX12_horseOf_29 : decode cX12_horseOf 29 = .ok (.ireturn, 1) := by decide +kernel
theorem dX12_needOf_0 : decode cX12_needOf 0 = .ok (.iconst 4, 1) := by decide +kernel
theorem dX12_needOf_1 : decode cX12_needOf 1 = .ok (.iload_n 1, 1) := by decide +kernel
theorem dX12_needOf_2 : decode cX12_needOf 2 = .ok (.bipush 20, 2) := by decide +kernel
theorem dX12_needOf_4 : decode cX12_needOf 4 = .ok (.idiv, 1) := by decide +kernel
theorem dX12_needOf_5 : decode cX12_needOf 5 = .ok (.iadd, 1) := by decide +kernel
theorem dX12_needOf_6 : decode cX12_needOf 6 = .ok (.aload_n 0, 1) := by decide +kernel
theorem dX12_needOf_7 : decode cX12_needOf 7 = .ok (.iconst 2, 1) := by decide +kernel
theorem dX12_needOf_8 : decode cX12_needOf 8 = .ok (.invokevirtual 271, 3) := by decide +kernel
theorem dX12_needOf_11 : decode cX12_needOf 11 = .ok (.iconst 1, 1) := by decide +kernel
theorem dX12_needOf_12 : decode cX12_needOf 12 = .ok (.if_icmp .ne 7, 3) := by decide +kernel
theorem dX12_needOf_15 : decode cX12_needOf 15 = .ok (.iconst 2, 1) := by decide +kernel
theorem dX12_needOf_16 : decode cX12_needOf 16 = .ok (.goto 4, 3) := by decide +kernel
theorem dX12_needOf_19 : decode cX12_needOf 19 = .ok (.iconst 0, 1) := by decide +kernel
theorem dX12_needOf_20 : decode cX12_needOf 20 = .ok (.iadd, 1) := by decide +kernel
theorem dX12_needOf_21 : decode cX12_needOf 21 = .ok (.aload_n 0, 1) := by decide +kernel
theorem dX12_needOf_22 : decode cX12_needOf 22 = .ok (.iconst 1, 1) := by decide +kernel
theorem dX12_needOf_23 : decode cX12_needOf 23 = .ok (.invokevirtual 271, 3) := by decide +kernel
theorem dX12_needOf_26 : decode cX12_needOf 26 = .ok (.iconst 4, 1) := by decide +kernel
theorem dX12_needOf_27 : decode cX12_needOf 27 = .ok (.idiv, 1) := by decide +kernel
theorem dX12_needOf_28 : decode cX12_needOf 28 = .ok (.isub, 1) := by decide +kernel
theorem dX12_needOf_29 : decode cX12_needOf 29 = .ok (.istore_n 2, 1) := by decide +kernel
theorem dX12_needOf_30 : decode cX12_needOf 30 = .ok (.iload_n 2, 1) := by decide +kernel
theorem dX12_needOf_31 : decode cX12_needOf 31 = .ok (.iconst 1, 1) := by decide +kernel
theorem dX12_needOf_32 : decode cX12_needOf 32 = .ok (.if_icmp .ge 7, 3) := by decide +kernel
theorem dX12_needOf_35 : decode cX12_needOf 35 = .ok (.iconst 1, 1) := by decide +kernel
theorem dX12_needOf_36 : decode cX12_needOf 36 = .ok (.goto 4, 3) := by decide +kernel
theorem dX12_needOf_39 : decode cX12_needOf 39 = .ok (.iload_n 2, 1) := by decide +kernel
theorem dX12_needOf_40 : decode cX12_needOf 40 = .ok (.ireturn, 1) := by decide +kernel
theorem dX12_limit_0 : decode cX12_limit 0 = .ok (.bipush 24, 2) := by decide +kernel
theorem dX12_limit_2 : decode cX12_limit 2 = .ok (.iconst 4, 1) := by decide +kernel
theorem dX12_limit_3 : decode cX12_limit 3 = .ok (.aload_n 0, 1) := by decide +kernel
theorem dX12_limit_4 : decode cX12_limit 4 = .ok (.iconst 1, 1) := by decide +kernel
theorem dX12_limit_5 : decode cX12_limit 5 = .ok (.invokevirtual 271, 3) := by decide +kernel
theorem dX12_limit_8 : decode cX12_limit 8 = .ok (.imul, 1) := by decide +kernel
theorem dX12_limit_9 : decode cX12_limit 9 = .ok (.iadd, 1) := by decide +kernel
theorem dX12_limit_10 : decode cX12_limit 10 = .ok (.ireturn, 1) := by decide +kernel
theorem dX12_isStill_0 : decode cX12_isStill 0 = .ok (.aload_n 0, 1) := by decide +kernel
theorem dX12_isStill_1 : decode cX12_isStill 1 = .ok (.getfield 262, 3) := by decide +kernel
theorem dX12_isStill_4 : decode cX12_isStill 4 = .ok (.ifCond .ne 10, 3) := by decide +kernel
theorem dX12_isStill_7 : decode cX12_isStill 7 = .ok (.aload_n 0, 1) := by decide +kernel
theorem dX12_isStill_8 : decode cX12_isStill 8 = .ok (.getfield 247, 3) := by decide +kernel
theorem dX12_isStill_11 : decode cX12_isStill 11 = .ok (.ifCond .ne 7, 3) := by decide +kernel
theorem dX12_isStill_14 : decode cX12_isStill 14 = .ok (.iconst 1, 1) := by decide +kernel
theorem dX12_isStill_15 : decode cX12_isStill 15 = .ok (.goto 4, 3) := by decide +kernel
theorem dX12_isStill_18 : decode cX12_isStill 18 = .ok (.iconst 0, 1) := by decide +kernel
theorem dX12_isStill_19 : decode cX12_isStill 19 = .ok (.ireturn, 1) := by decide +kernel
theorem dX12_spinBy_0 : decode cX12_spinBy 0 = .ok (.bipush 15, 2) := by decide +kernel
theorem dX12_spinBy_2 : decode cX12_spinBy 2 = .ok (.aload_n 0, 1) := by decide +kernel
theorem dX12_spinBy_3 : decode cX12_spinBy 3 = .ok (.getfield 256, 3) := by decide +kernel
theorem dX12_spinBy_6 : decode cX12_spinBy 6 = .ok (.bipush 64, 2) := by decide +kernel
theorem dX12_spinBy_8 : decode cX12_spinBy 8 = .ok (.idiv, 1) := by decide +kernel
theorem dX12_spinBy_9 : decode cX12_spinBy 9 = .ok (.isub, 1) := by decide +kernel
theorem dX12_spinBy_10 : decode cX12_spinBy 10 = .ok (.istore_n 2, 1) := by decide +kernel
theorem dX12_spinBy_11 : decode cX12_spinBy 11 = .ok (.iload_n 2, 1) := by decide +kernel
theorem dX12_spinBy_12 : decode cX12_spinBy 12 = .ok (.iconst 1, 1) := by decide +kernel
theorem dX12_spinBy_13 : decode cX12_spinBy 13 = .ok (.if_icmp .ge 7, 3) := by decide +kernel
theorem dX12_spinBy_16 : decode cX12_spinBy 16 = .ok (.iconst 1, 1) := by decide +kernel
theorem dX12_spinBy_17 : decode cX12_spinBy 17 = .ok (.goto 4, 3) := by decide +kernel
theorem dX12_spinBy_20 : decode cX12_spinBy 20 = .ok (.iload_n 2, 1) := by decide +kernel
theorem dX12_spinBy_21 : decode cX12_spinBy 21 = .ok (.istore_n 2, 1) := by decide +kernel
theorem dX12_spinBy_22 : decode cX12_spinBy 22 = .ok (.aload_n 0, 1) := by decide +kernel
theorem dX12_spinBy_23 : decode cX12_spinBy 23 = .ok (.getfield 250, 3) := by decide +kernel
theorem dX12_spinBy_26 : decode cX12_spinBy 26 = .ok (.iload_n 1, 1) := by decide +kernel
theorem dX12_spinBy_27 : decode cX12_spinBy 27 = .ok (.iadd, 1) := by decide +kernel
theorem dX12_spinBy_28 : decode cX12_spinBy 28 = .ok (.iconst 2, 1) := by decide +kernel
theorem dX12_spinBy_29 : decode cX12_spinBy 29 = .ok (.isub, 1) := by decide +kernel
theorem dX12_spinBy_30 : decode cX12_spinBy 30 = .ok (.istore_n 3, 1) := by decide +kernel
theorem dX12_spinBy_31 : decode cX12_spinBy 31 = .ok (.iload_n 3, 1) := by decide +kernel
theorem dX12_spinBy_32 : decode cX12_spinBy 32 = .ok (.ifCond .ge 7, 3) := by decide +kernel
theorem dX12_spinBy_35 : decode cX12_spinBy 35 = .ok (.iconst 0, 1) := by decide +kernel
theorem dX12_spinBy_36 : decode cX12_spinBy 36 = .ok (.goto 13, 3) := by decide +kernel
theorem dX12_spinBy_39 : decode cX12_spinBy 39 = .ok (.iload_n 3, 1) := by decide +kernel
theorem dX12_spinBy_40 : decode cX12_spinBy 40 = .ok (.iload_n 2, 1) := by decide +kernel
theorem dX12_spinBy_41 : decode cX12_spinBy 41 = .ok (.if_icmp .le 7, 3) := by decide +kernel
theorem dX12_spinBy_44 : decode cX12_spinBy 44 = .ok (.iload_n 2, 1) := by decide +kernel
theorem dX12_spinBy_45 : decode cX12_spinBy 45 = .ok (.goto 4, 3) := by decide +kernel
theorem dX12_spinBy_48 : decode cX12_spinBy 48 = .ok (.iload_n 3, 1) := by decide +kernel
theorem dX12_spinBy_49 : decode cX12_spinBy 49 = .ok (.ireturn, 1) := by decide +kernel
theorem dX12_doTick_0 : decode cX12_doTick 0 = .ok (.aload_n 0, 1) := by decide +kernel
theorem dX12_doTick_1 : decode cX12_doTick 1 = .ok (.dup, 1) := by decide +kernel
theorem dX12_doTick_2 : decode cX12_doTick 2 = .ok (.getfield 259, 3) := by decide +kernel
theorem dX12_doTick_5 : decode cX12_doTick 5 = .ok (.iconst 1, 1) := by decide +kernel
theorem dX12_doTick_6 : decode cX12_doTick 6 = .ok (.iadd, 1) := by decide +kernel
theorem dX12_doTick_7 : decode cX12_doTick 7 = .ok (.putfield 259, 3) := by decide +kernel
theorem dX12_doTick_10 : decode cX12_doTick 10 = .ok (.aload_n 0, 1) := by decide +kernel
theorem dX12_doTick_11 : decode cX12_doTick 11 = .ok (.aload_n 0, 1) := by decide +kernel
theorem dX12_doTick_12 : decode cX12_doTick 12 = .ok (.iload_n 2, 1) := by decide +kernel
theorem dX12_doTick_13 : decode cX12_doTick 13 = .ok (.invokevirtual 274, 3) := by decide +kernel
theorem dX12_doTick_16 : decode cX12_doTick 16 = .ok (.putfield 250, 3) := by decide +kernel
theorem dX12_doTick_19 : decode cX12_doTick 19 = .ok (.aload_n 0, 1) := by decide +kernel
theorem dX12_doTick_20 : decode cX12_doTick 20 = .ok (.aload_n 0, 1) := by decide +kernel
theorem dX12_doTick_21 : decode cX12_doTick 21 = .ok (.getfield 247, 3) := by decide +kernel
theorem dX12_doTick_24 : decode cX12_doTick 24 = .ok (.invokevirtual 277, 3) := by decide +kernel
theorem dX12_doTick_27 : decode cX12_doTick 27 = .ok (.iload_n 1, 1) := by decide +kernel
theorem dX12_doTick_28 : decode cX12_doTick 28 = .ok (.ifCond .eq 7, 3) := by decide +kernel
theorem dX12_doTick_31 : decode cX12_doTick 31 = .ok (.iconst 2, 1) := by decide +kernel
theorem dX12_doTick_32 : decode cX12_doTick 32 = .ok (.goto 4, 3) := by decide +kernel
theorem dX12_doTick_35 : decode cX12_doTick 35 = .ok (.iconst 0, 1) := by decide +kernel
theorem dX12_doTick_36 : decode cX12_doTick 36 = .ok (.iadd, 1) := by decide +kernel
theorem dX12_doTick_37 : decode cX12_doTick 37 = .ok (.istore 5, 2) := by decide +kernel
theorem dX12_doTick_39 : decode cX12_doTick 39 = .ok (.aload_n 0, 1) := by decide +kernel
theorem dX12_doTick_40 : decode cX12_doTick 40 = .ok (.getfield 250, 3) := by decide +kernel
theorem dX12_doTick_43 : decode cX12_doTick 43 = .ok (.iload 5, 2) := by decide +kernel
theorem dX12_doTick_45 : decode cX12_doTick 45 = .ok (.if_icmp .lt 7, 3) := by decide +kernel
theorem dX12_doTick_48 : decode cX12_doTick 48 = .ok (.iconst 1, 1) := by decide +kernel
theorem dX12_doTick_49 : decode cX12_doTick 49 = .ok (.goto 4, 3) := by decide +kernel
theorem dX12_doTick_52 : decode cX12_doTick 52 = .ok (.iconst 0, 1) := by decide +kernel
theorem dX12_doTick_53 : decode cX12_doTick 53 = .ok (.istore 6, 2) := by decide +kernel
theorem dX12_doTick_55 : decode cX12_doTick 55 = .ok (.aload_n 0, 1) := by decide +kernel
theorem dX12_doTick_56 : decode cX12_doTick 56 = .ok (.iconst 0, 1) := by decide +kernel
theorem dX12_doTick_57 : decode cX12_doTick 57 = .ok (.invokevirtual 271, 3) := by decide +kernel
theorem dX12_doTick_60 : decode cX12_doTick 60 = .ok (.iconst 2, 1) := by decide +kernel
theorem dX12_doTick_61 : decode cX12_doTick 61 = .ok (.idiv, 1) := by decide +kernel
theorem dX12_doTick_62 : decode cX12_doTick 62 = .ok (.istore 7, 2) := by decide +kernel
theorem dX12_doTick_64 : decode cX12_doTick 64 = .ok (.iload 6, 2) := by decide +kernel
theorem dX12_doTick_66 : decode cX12_doTick 66 = .ok (.ifCond .eq 46, 3) := by decide +kernel
theorem dX12_doTick_69 : decode cX12_doTick 69 = .ok (.aload_n 0, 1) := by decide +kernel
theorem dX12_doTick_70 : decode cX12_doTick 70 = .ok (.dup, 1) := by decide +kernel
theorem dX12_doTick_71 : decode cX12_doTick 71 = .ok (.getfield 247, 3) := by decide +kernel
theorem dX12_doTick_74 : decode cX12_doTick 74 = .ok (.iload_n 3, 1) := by decide +kernel
theorem dX12_doTick_75 : decode cX12_doTick 75 = .ok (.aload_n 0, 1) := by decide +kernel
theorem dX12_doTick_76 : decode cX12_doTick 76 = .ok (.getfield 250, 3) := by decide +kernel
theorem dX12_doTick_79 : decode cX12_doTick 79 = .ok (.imul, 1) := by decide +kernel
theorem dX12_doTick_80 : decode cX12_doTick 80 = .ok (.bipush 8, 2) := by decide +kernel
theorem dX12_doTick_82 : decode cX12_doTick 82 = .ok (.idiv, 1) := by decide +kernel
theorem dX12_doTick_83 : decode cX12_doTick 83 = .ok (.iadd, 1) := by decide +kernel
theorem dX12_doTick_84 : decode cX12_doTick 84 = .ok (.putfield 247, 3) := by decide +kernel
theorem dX12_doTick_87 : decode cX12_doTick 87 = .ok (.aload_n 0, 1) := by decide +kernel
theorem dX12_doTick_88 : decode cX12_doTick 88 = .ok (.aload_n 0, 1) := by decide +kernel
theorem dX12_doTick_89 : decode cX12_doTick 89 = .ok (.getfield 247, 3) := by decide +kernel
theorem dX12_doTick_92 : decode cX12_doTick 92 = .ok (.iload 7, 2) := by decide +kernel
theorem dX12_doTick_94 : decode cX12_doTick 94 = .ok (.if_icmp .le 8, 3) := by decide +kernel
theorem dX12_doTick_97 : decode cX12_doTick 97 = .ok (.iload 7, 2) := by decide +kernel
theorem dX12_doTick_99 : decode cX12_doTick 99 = .ok (.goto 7, 3) := by decide +kernel
theorem dX12_doTick_102 : decode cX12_doTick 102 = .ok (.aload_n 0, 1) := by decide +kernel
theorem dX12_doTick_103 : decode cX12_doTick 103 = .ok (.getfield 247, 3) := by decide +kernel
theorem dX12_doTick_106 : decode cX12_doTick 106 = .ok (.putfield 247, 3) := by decide +kernel
theorem dX12_doTick_109 : decode cX12_doTick 109 = .ok (.goto 48, 3) := by decide +kernel
theorem dX12_doTick_112 : decode cX12_doTick 112 = .ok (.aload_n 0, 1) := by decide +kernel
theorem dX12_doTick_113 : decode cX12_doTick 113 = .ok (.dup, 1) := by decide +kernel
theorem dX12_doTick_114 : decode cX12_doTick 114 = .ok (.getfield 247, 3) := by decide +kernel
theorem dX12_doTick_117 : decode cX12_doTick 117 = .ok (.iload_n 1, 1) := by decide +kernel
theorem dX12_doTick_118 : decode cX12_doTick 118 = .ok (.ifCond .eq 7, 3) := by decide +kernel
theorem dX12_doTick_121 : decode cX12_doTick 121 = .ok (.iconst 3, 1) := by decide +kernel
theorem dX12_doTick_122 : decode cX12_doTick 122 = .ok (.goto 4, 3) := by decide +kernel
theorem dX12_doTick_125 : decode cX12_doTick 125 = .ok (.iconst 5, 1) := by decide +kernel
theorem dX12_doTick_126 : decode cX12_doTick 126 = .ok (.iload 5, 2) := by decide +kernel
theorem dX12_doTick_128 : decode cX12_doTick 128 = .ok (.aload_n 0, 1) := by decide +kernel
theorem dX12_doTick_129 : decode cX12_doTick 129 = .ok (.getfield 250, 3) := by decide +kernel
theorem dX12_doTick_132 : decode cX12_doTick 132 = .ok (.isub, 1) := by decide +kernel
theorem dX12_doTick_133 : decode cX12_doTick 133 = .ok (.imul, 1) := by decide +kernel
theorem dX12_doTick_134 : decode cX12_doTick 134 = .ok (.isub, 1) := by decide +kernel
theorem dX12_doTick_135 : decode cX12_doTick 135 = .ok (.putfield 247, 3) := by decide +kernel
theorem dX12_doTick_138 : decode cX12_doTick 138 = .ok (.aload_n 0, 1) := by decide +kernel
theorem dX12_doTick_139 : decode cX12_doTick 139 = .ok (.aload_n 0, 1) := by decide +kernel
theorem dX12_doTick_140 : decode cX12_doTick 140 = .ok (.getfield 247, 3) := by decide +kernel
theorem dX12_doTick_143 : decode cX12_doTick 143 = .ok (.ifCond .ge 7, 3) := by decide +kernel
theorem dX12_doTick_146 : decode cX12_doTick 146 = .ok (.iconst 0, 1) := by decide +kernel
theorem dX12_doTick_147 : decode cX12_doTick 147 = .ok (.goto 7, 3) := by decide +kernel
theorem dX12_doTick_150 : decode cX12_doTick 150 = .ok (.aload_n 0, 1) := by decide +kernel
theorem dX12_doTick_151 : decode cX12_doTick 151 = .ok (.getfield 247, 3) := by decide +kernel
theorem dX12_doTick_154 : decode cX12_doTick 154 = .ok (.putfield 247, 3) := by decide +kernel
theorem dX12_doTick_157 : decode cX12_doTick 157 = .ok (.iload 4, 2) := by decide +kernel
theorem dX12_doTick_159 : decode cX12_doTick 159 = .ok (.ldc 28, 2) := by decide +kernel
theorem dX12_doTick_161 : decode cX12_doTick 161 = .ok (.if_icmp .ne 7, 3) := by decide +kernel
theorem dX12_doTick_164 : decode cX12_doTick 164 = .ok (.iconst 0, 1) := by decide +kernel
theorem dX12_doTick_165 : decode cX12_doTick 165 = .ok (.goto 10, 3) := by decide +kernel
theorem dX12_doTick_168 : decode cX12_doTick 168 = .ok (.aload_n 0, 1) := by decide +kernel
theorem dX12_doTick_169 : decode cX12_doTick 169 = .ok (.getfield 250, 3) := by decide +kernel
theorem dX12_doTick_172 : decode cX12_doTick 172 = .ok (.iload 4, 2) := by decide +kernel
theorem dX12_doTick_174 : decode cX12_doTick 174 = .ok (.isub, 1) := by decide +kernel
theorem dX12_doTick_175 : decode cX12_doTick 175 = .ok (.istore 8, 2) := by decide +kernel
theorem dX12_doTick_177 : decode cX12_doTick 177 = .ok (.aload_n 0, 1) := by decide +kernel
theorem dX12_doTick_178 : decode cX12_doTick 178 = .ok (.dup, 1) := by decide +kernel
theorem dX12_doTick_179 : decode cX12_doTick 179 = .ok (.getfield 253, 3) := by decide +kernel
theorem dX12_doTick_182 : decode cX12_doTick 182 = .ok (.iload_n 1, 1) := by decide +kernel
theorem dX12_doTick_183 : decode cX12_doTick 183 = .ok (.ifCond .eq 10, 3) := by decide +kernel
theorem dX12_doTick_186 : decode cX12_doTick 186 = .ok (.iload 8, 2) := by decide +kernel
theorem dX12_doTick_188 : decode cX12_doTick 188 = .ok (.iconst 2, 1) := by decide +kernel
theorem dX12_doTick_189 : decode cX12_doTick 189 = .ok (.idiv, 1) := by decide +kernel
theorem dX12_doTick_190 : decode cX12_doTick 190 = .ok (.goto 5, 3) := by decide +kernel
theorem dX12_doTick_193 : decode cX12_doTick 193 = .ok (.iload 8, 2) := by decide +kernel
theorem dX12_doTick_195 : decode cX12_doTick 195 = .ok (.iadd, 1) := by decide +kernel
theorem dX12_doTick_196 : decode cX12_doTick 196 = .ok (.putfield 253, 3) := by decide +kernel
theorem dX12_doTick_199 : decode cX12_doTick 199 = .ok (.aload_n 0, 1) := by decide +kernel
theorem dX12_doTick_200 : decode cX12_doTick 200 = .ok (.dup, 1) := by decide +kernel
theorem dX12_doTick_201 : decode cX12_doTick 201 = .ok (.getfield 256, 3) := by decide +kernel
theorem dX12_doTick_204 : decode cX12_doTick 204 = .ok (.aload_n 0, 1) := by decide +kernel
theorem dX12_doTick_205 : decode cX12_doTick 205 = .ok (.getfield 250, 3) := by decide +kernel
theorem dX12_doTick_208 : decode cX12_doTick 208 = .ok (.iadd, 1) := by decide +kernel
theorem dX12_doTick_209 : decode cX12_doTick 209 = .ok (.putfield 256, 3) := by decide +kernel
theorem dX12_doTick_212 : decode cX12_doTick 212 = .ok (.aload_n 0, 1) := by decide +kernel
theorem dX12_doTick_213 : decode cX12_doTick 213 = .ok (.aload_n 0, 1) := by decide +kernel
theorem dX12_doTick_214 : decode cX12_doTick 214 = .ok (.getfield 253, 3) := by decide +kernel
theorem dX12_doTick_217 : decode cX12_doTick 217 = .ok (.aload_n 0, 1) := by decide +kernel
theorem dX12_doTick_218 : decode cX12_doTick 218 = .ok (.invokevirtual 280, 3) := by decide +kernel
theorem dX12_doTick_221 : decode cX12_doTick 221 = .ok (.if_icmp .gt 15, 3) := by decide +kernel
theorem dX12_doTick_224 : decode cX12_doTick 224 = .ok (.aload_n 0, 1) := by decide +kernel
theorem dX12_doTick_225 : decode cX12_doTick 225 = .ok (.getfield 253, 3) := by decide +kernel
theorem dX12_doTick_228 : decode cX12_doTick 228 = .ok (.aload_n 0, 1) := by decide +kernel
theorem dX12_doTick_229 : decode cX12_doTick 229 = .ok (.invokevirtual 280, 3) := by decide +kernel
theorem dX12_doTick_232 : decode cX12_doTick 232 = .ok (.ineg, 1) := by decide +kernel
theorem dX12_doTick_233 : decode cX12_doTick 233 = .ok (.if_icmp .ge 7, 3) := by decide +kernel
theorem dX12_doTick_236 : decode cX12_doTick 236 = .ok (.iconst 1, 1) := by decide +kernel
theorem dX12_doTick_237 : decode cX12_doTick 237 = .ok (.goto 4, 3) := by decide +kernel
theorem dX12_doTick_240 : decode cX12_doTick 240 = .ok (.iconst 0, 1) := by decide +kernel
theorem dX12_doTick_241 : decode cX12_doTick 241 = .ok (.putfield 262, 3) := by decide +kernel
theorem dX12_doTick_244 : decode cX12_doTick 244 = .ok (.aload_n 0, 1) := by decide +kernel
theorem dX12_doTick_245 : decode cX12_doTick 245 = .ok (.aload_n 0, 1) := by decide +kernel
theorem dX12_doTick_246 : decode cX12_doTick 246 = .ok (.getfield 262, 3) := by decide +kernel
theorem dX12_doTick_249 : decode cX12_doTick 249 = .ok (.ifCond .eq 7, 3) := by decide +kernel
theorem dX12_doTick_252 : decode cX12_doTick 252 = .ok (.iconst 4, 1) := by decide +kernel
theorem dX12_doTick_253 : decode cX12_doTick 253 = .ok (.goto 37, 3) := by decide +kernel
theorem dX12_doTick_256 : decode cX12_doTick 256 = .ok (.aload_n 0, 1) := by decide +kernel
theorem dX12_doTick_257 : decode cX12_doTick 257 = .ok (.getfield 247, 3) := by decide +kernel
theorem dX12_doTick_260 : decode cX12_doTick 260 = .ok (.ifCond .ne 7, 3) := by decide +kernel
theorem dX12_doTick_263 : decode cX12_doTick 263 = .ok (.iconst 3, 1) := by decide +kernel
theorem dX12_doTick_264 : decode cX12_doTick 264 = .ok (.goto 26, 3) := by decide +kernel
theorem dX12_doTick_267 : decode cX12_doTick 267 = .ok (.iload 6, 2) := by decide +kernel
theorem dX12_doTick_269 : decode cX12_doTick 269 = .ok (.ifCond .ne 7, 3) := by decide +kernel
theorem dX12_doTick_272 : decode cX12_doTick 272 = .ok (.iconst 2, 1) := by decide +kernel
theorem dX12_doTick_273 : decode cX12_doTick 273 = .ok (.goto 17, 3) := by decide +kernel
theorem dX12_doTick_276 : decode cX12_doTick 276 = .ok (.aload_n 0, 1) := by decide +kernel
theorem dX12_doTick_277 : decode cX12_doTick 277 = .ok (.getfield 247, 3) := by decide +kernel
theorem dX12_doTick_280 : decode cX12_doTick 280 = .ok (.iload 7, 2) := by decide +kernel
theorem dX12_doTick_282 : decode cX12_doTick 282 = .ok (.if_icmp .ne 7, 3) := by decide +kernel
theorem dX12_doTick_285 : decode cX12_doTick 285 = .ok (.iconst 1, 1) := by decide +kernel
theorem dX12_doTick_286 : decode cX12_doTick 286 = .ok (.goto 4, 3) := by decide +kernel
theorem dX12_doTick_289 : decode cX12_doTick 289 = .ok (.iconst 0, 1) := by decide +kernel
theorem dX12_doTick_290 : decode cX12_doTick 290 = .ok (.putfield 265, 3) := by decide +kernel
theorem dX12_doTick_293 : decode cX12_doTick 293 = .ok (.return_, 1) := by decide +kernel
theorem dX12_shut_0 : decode cX12_shut 0 = .ok (.aload_n 0, 1) := by decide +kernel
theorem dX12_shut_1 : decode cX12_shut 1 = .ok (.bipush 20, 2) := by decide +kernel
theorem dX12_shut_3 : decode cX12_shut 3 = .ok (.putfield 247, 3) := by decide +kernel
theorem dX12_shut_6 : decode cX12_shut 6 = .ok (.aload_n 0, 1) := by decide +kernel
theorem dX12_shut_7 : decode cX12_shut 7 = .ok (.iconst 0, 1) := by decide +kernel
theorem dX12_shut_8 : decode cX12_shut 8 = .ok (.putfield 250, 3) := by decide +kernel
theorem dX12_shut_11 : decode cX12_shut 11 = .ok (.aload_n 0, 1) := by decide +kernel
theorem dX12_shut_12 : decode cX12_shut 12 = .ok (.iconst 0, 1) := by decide +kernel
theorem dX12_shut_13 : decode cX12_shut 13 = .ok (.putfield 253, 3) := by decide +kernel
theorem dX12_shut_16 : decode cX12_shut 16 = .ok (.aload_n 0, 1) := by decide +kernel
theorem dX12_shut_17 : decode cX12_shut 17 = .ok (.iconst 0, 1) := by decide +kernel
theorem dX12_shut_18 : decode cX12_shut 18 = .ok (.putfield 262, 3) := by decide +kernel
theorem dX12_shut_21 : decode cX12_shut 21 = .ok (.aload_n 0, 1) := by decide +kernel
theorem dX12_shut_22 : decode cX12_shut 22 = .ok (.dup, 1) := by decide +kernel
theorem dX12_shut_23 : decode cX12_shut 23 = .ok (.getfield 259, 3) := by decide +kernel
theorem dX12_shut_26 : decode cX12_shut 26 = .ok (.iconst 1, 1) := by decide +kernel
theorem dX12_shut_27 : decode cX12_shut 27 = .ok (.iadd, 1) := by decide +kernel
theorem dX12_shut_28 : decode cX12_shut 28 = .ok (.putfield 259, 3) := by decide +kernel
theorem dX12_shut_31 : decode cX12_shut 31 = .ok (.aload_n 0, 1) := by decide +kernel
theorem dX12_shut_32 : decode cX12_shut 32 = .ok (.ldc 28, 2) := by decide +kernel
theorem dX12_shut_34 : decode cX12_shut 34 = .ok (.putfield 265, 3) := by decide +kernel
theorem dX12_shut_37 : decode cX12_shut 37 = .ok (.return_, 1) := by decide +kernel
theorem dX12_doClose_0 : decode cX12_doClose 0 = .ok (.aload_n 0, 1) := by decide +kernel
theorem dX12_doClose_1 : decode cX12_doClose 1 = .ok (.invokevirtual 283, 3) := by decide +kernel
theorem dX12_doClose_4 : decode cX12_doClose 4 = .ok (.aload_n 0, 1) := by decide +kernel
theorem dX12_doClose_5 : decode cX12_doClose 5 = .ok (.dup, 1) := by decide +kernel
theorem dX12_doClose_6 : decode cX12_doClose 6 = .ok (.getfield 256, 3) := by decide +kernel
theorem dX12_doClose_9 : decode cX12_doClose 9 = .ok (.iconst 2, 1) := by decide +kernel
theorem dX12_doClose_10 : decode cX12_doClose 10 = .ok (.idiv, 1) := by decide +kernel
theorem dX12_doClose_11 : decode cX12_doClose 11 = .ok (.putfield 256, 3) := by decide +kernel
theorem dX12_doClose_14 : decode cX12_doClose 14 = .ok (.return_, 1) := by decide +kernel
theorem dX12_missBy_0 : decode cX12_missBy 0 = .ok (.aload_n 0, 1) := by decide +kernel
theorem dX12_missBy_1 : decode cX12_missBy 1 = .ok (.invokevirtual 286, 3) := by decide +kernel
theorem dX12_missBy_4 : decode cX12_missBy 4 = .ok (.ifCond .eq 7, 3) := by decide +kernel
theorem dX12_missBy_7 : decode cX12_missBy 7 = .ok (.sipush 999, 3) := by decide +kernel
theorem dX12_missBy_10 : decode cX12_missBy 10 = .ok (.ireturn, 1) := by decide +kernel
theorem dX12_missBy_11 : decode cX12_missBy 11 = .ok (.aload_n 0, 1) := by decide +kernel
theorem dX12_missBy_12 : decode cX12_missBy 12 = .ok (.iconst 1, 1) := by decide +kernel
theorem dX12_missBy_13 : decode cX12_missBy 13 = .ok (.invokevirtual 290, 3) := by decide +kernel
theorem dX12_missBy_16 : decode cX12_missBy 16 = .ok (.aload_n 0, 1) := by decide +kernel
theorem dX12_missBy_17 : decode cX12_missBy 17 = .ok (.iload_n 2, 1) := by decide +kernel
theorem dX12_missBy_18 : decode cX12_missBy 18 = .ok (.iconst 0, 1) := by decide +kernel
theorem dX12_missBy_19 : decode cX12_missBy 19 = .ok (.invokevirtual 293, 3) := by decide +kernel
theorem dX12_missBy_22 : decode cX12_missBy 22 = .ok (.if_icmp .ge 11, 3) := by decide +kernel
theorem dX12_missBy_25 : decode cX12_missBy 25 = .ok (.aload_n 0, 1) := by decide +kernel
theorem dX12_missBy_26 : decode cX12_missBy 26 = .ok (.iconst 1, 1) := by decide +kernel
theorem dX12_missBy_27 : decode cX12_missBy 27 = .ok (.invokevirtual 290, 3) := by decide +kernel
theorem dX12_missBy_30 : decode cX12_missBy 30 = .ok (.goto 9, 3) := by decide +kernel
theorem dX12_missBy_33 : decode cX12_missBy 33 = .ok (.aload_n 0, 1) := by decide +kernel
theorem dX12_missBy_34 : decode cX12_missBy 34 = .ok (.iload_n 2, 1) := by decide +kernel
theorem dX12_missBy_35 : decode cX12_missBy 35 = .ok (.iconst 0, 1) := by decide +kernel
theorem dX12_missBy_36 : decode cX12_missBy 36 = .ok (.invokevirtual 293, 3) := by decide +kernel
theorem dX12_missBy_39 : decode cX12_missBy 39 = .ok (.istore 4, 2) := by decide +kernel
theorem dX12_missBy_41 : decode cX12_missBy 41 = .ok (.aload_n 0, 1) := by decide +kernel
theorem dX12_missBy_42 : decode cX12_missBy 42 = .ok (.iload_n 2, 1) := by decide +kernel
theorem dX12_missBy_43 : decode cX12_missBy 43 = .ok (.iconst 0, 1) := by decide +kernel
theorem dX12_missBy_44 : decode cX12_missBy 44 = .ok (.invokevirtual 293, 3) := by decide +kernel
theorem dX12_missBy_47 : decode cX12_missBy 47 = .ok (.aload_n 0, 1) := by decide +kernel
theorem dX12_missBy_48 : decode cX12_missBy 48 = .ok (.iconst 0, 1) := by decide +kernel
theorem dX12_missBy_49 : decode cX12_missBy 49 = .ok (.invokevirtual 290, 3) := by decide +kernel
theorem dX12_missBy_52 : decode cX12_missBy 52 = .ok (.aload_n 0, 1) := by decide +kernel
theorem dX12_missBy_53 : decode cX12_missBy 53 = .ok (.getfield 259, 3) := by decide +kernel
theorem dX12_missBy_56 : decode cX12_missBy 56 = .ok (.imul, 1) := by decide +kernel
theorem dX12_missBy_57 : decode cX12_missBy 57 = .ok (.isub, 1) := by decide +kernel
theorem dX12_missBy_58 : decode cX12_missBy 58 = .ok (.istore 5, 2) := by decide +kernel
theorem dX12_missBy_60 : decode cX12_missBy 60 = .ok (.iload 5, 2) := by decide +kernel
theorem dX12_missBy_62 : decode cX12_missBy 62 = .ok (.iload 4, 2) := by decide +kernel
theorem dX12_missBy_64 : decode cX12_missBy 64 = .ok (.if_icmp .ge 8, 3) := by decide +kernel
theorem dX12_missBy_67 : decode cX12_missBy 67 = .ok (.iload 4, 2) := by decide +kernel
theorem dX12_missBy_69 : decode cX12_missBy 69 = .ok (.goto 5, 3) := by decide +kernel
theorem dX12_missBy_72 : decode cX12_missBy 72 = .ok (.iload 5, 2) := by decide +kernel
theorem dX12_missBy_74 : decode cX12_missBy 74 = .ok (.istore 5, 2) := by decide +kernel
theorem dX12_missBy_76 : decode cX12_missBy 76 = .ok (.iload_n 3, 1) := by decide +kernel
theorem dX12_missBy_77 : decode cX12_missBy 77 = .ok (.aload_n 0, 1) := by decide +kernel
theorem dX12_missBy_78 : decode cX12_missBy 78 = .ok (.iload_n 2, 1) := by decide +kernel
theorem dX12_missBy_79 : decode cX12_missBy 79 = .ok (.iconst 1, 1) := by decide +kernel
theorem dX12_missBy_80 : decode cX12_missBy 80 = .ok (.invokevirtual 293, 3) := by decide +kernel
theorem dX12_missBy_83 : decode cX12_missBy 83 = .ok (.isub, 1) := by decide +kernel
theorem dX12_missBy_84 : decode cX12_missBy 84 = .ok (.istore 6, 2) := by decide +kernel
theorem dX12_missBy_86 : decode cX12_missBy 86 = .ok (.iload 6, 2) := by decide +kernel
theorem dX12_missBy_88 : decode cX12_missBy 88 = .ok (.ifCond .le 16, 3) := by decide +kernel
theorem dX12_missBy_91 : decode cX12_missBy 91 = .ok (.iload 5, 2) := by decide +kernel
theorem dX12_missBy_93 : decode cX12_missBy 93 = .ok (.iload 6, 2) := by decide +kernel
theorem dX12_missBy_95 : decode cX12_missBy 95 = .ok (.iadd, 1) := by decide +kernel
theorem dX12_missBy_96 : decode cX12_missBy 96 = .ok (.iconst 1, 1) := by decide +kernel
theorem dX12_missBy_97 : decode cX12_missBy 97 = .ok (.isub, 1) := by decide +kernel
theorem dX12_missBy_98 : decode cX12_missBy 98 = .ok (.iload 6, 2) := by decide +kernel
theorem dX12_missBy_100 : decode cX12_missBy 100 = .ok (.idiv, 1) := by decide +kernel
theorem dX12_missBy_101 : decode cX12_missBy 101 = .ok (.goto 19, 3) := by decide +kernel
theorem dX12_missBy_104 : decode cX12_missBy 104 = .ok (.iload 6, 2) := by decide +kernel
theorem dX12_missBy_106 : decode cX12_missBy 106 = .ok (.ifCond .ne 12, 3) := by decide +kernel
theorem dX12_missBy_109 : decode cX12_missBy 109 = .ok (.iload 5, 2) := by decide +kernel
theorem dX12_missBy_111 : decode cX12_missBy 111 = .ok (.ifCond .ne 7, 3) := by decide +kernel
theorem dX12_missBy_114 : decode cX12_missBy 114 = .ok (.iconst 1, 1) := by decide +kernel
theorem dX12_missBy_115 : decode cX12_missBy 115 = .ok (.goto 5, 3) := by decide +kernel
theorem dX12_missBy_118 : decode cX12_missBy 118 = .ok (.bipush 31, 2) := by decide +kernel
theorem dX12_missBy_120 : decode cX12_missBy 120 = .ok (.istore 7, 2) := by decide +kernel
theorem dX12_missBy_122 : decode cX12_missBy 122 = .ok (.iload 7, 2) := by decide +kernel
theorem dX12_missBy_124 : decode cX12_missBy 124 = .ok (.iconst 1, 1) := by decide +kernel
theorem dX12_missBy_125 : decode cX12_missBy 125 = .ok (.if_icmp .ge 7, 3) := by decide +kernel
theorem dX12_missBy_128 : decode cX12_missBy 128 = .ok (.iconst 1, 1) := by decide +kernel
theorem dX12_missBy_129 : decode cX12_missBy 129 = .ok (.goto 5, 3) := by decide +kernel
theorem dX12_missBy_132 : decode cX12_missBy 132 = .ok (.iload 7, 2) := by decide +kernel
theorem dX12_missBy_134 : decode cX12_missBy 134 = .ok (.istore 7, 2) := by decide +kernel
theorem dX12_missBy_136 : decode cX12_missBy 136 = .ok (.iload 7, 2) := by decide +kernel
theorem dX12_missBy_138 : decode cX12_missBy 138 = .ok (.bipush 30, 2) := by decide +kernel
theorem dX12_missBy_140 : decode cX12_missBy 140 = .ok (.if_icmp .le 7, 3) := by decide +kernel
theorem dX12_missBy_143 : decode cX12_missBy 143 = .ok (.sipush 500, 3) := by decide +kernel
theorem dX12_missBy_146 : decode cX12_missBy 146 = .ok (.ireturn, 1) := by decide +kernel
theorem dX12_missBy_147 : decode cX12_missBy 147 = .ok (.aload_n 0, 1) := by decide +kernel
theorem dX12_missBy_148 : decode cX12_missBy 148 = .ok (.iload 7, 2) := by decide +kernel
theorem dX12_missBy_150 : decode cX12_missBy 150 = .ok (.putfield 296, 3) := by decide +kernel
theorem dX12_missBy_153 : decode cX12_missBy 153 = .ok (.iload_n 1, 1) := by decide +kernel
theorem dX12_missBy_154 : decode cX12_missBy 154 = .ok (.ifCond .eq 24, 3) := by decide +kernel
theorem dX12_missBy_157 : decode cX12_missBy 157 = .ok (.aload_n 0, 1) := by decide +kernel
theorem dX12_missBy_158 : decode cX12_missBy 158 = .ok (.getfield 247, 3) := by decide +kernel
theorem dX12_missBy_161 : decode cX12_missBy 161 = .ok (.iconst 4, 1) := by decide +kernel
theorem dX12_missBy_162 : decode cX12_missBy 162 = .ok (.iload 7, 2) := by decide +kernel
theorem dX12_missBy_164 : decode cX12_missBy 164 = .ok (.imul, 1) := by decide +kernel
theorem dX12_missBy_165 : decode cX12_missBy 165 = .ok (.isub, 1) := by decide +kernel
theorem dX12_missBy_166 : decode cX12_missBy 166 = .ok (.aload_n 0, 1) := by decide +kernel
theorem dX12_missBy_167 : decode cX12_missBy 167 = .ok (.iload_n 2, 1) := by decide +kernel
theorem dX12_missBy_168 : decode cX12_missBy 168 = .ok (.iconst 2, 1) := by decide +kernel
theorem dX12_missBy_169 : decode cX12_missBy 169 = .ok (.invokevirtual 293, 3) := by decide +kernel
theorem dX12_missBy_172 : decode cX12_missBy 172 = .ok (.iconst 2, 1) := by decide +kernel
theorem dX12_missBy_173 : decode cX12_missBy 173 = .ok (.idiv, 1) := by decide +kernel
theorem dX12_missBy_174 : decode cX12_missBy 174 = .ok (.isub, 1) := by decide +kernel
theorem dX12_missBy_175 : decode cX12_missBy 175 = .ok (.goto 20, 3) := by decide +kernel
theorem dX12_missBy_178 : decode cX12_missBy 178 = .ok (.aload_n 0, 1) := by decide +kernel
theorem dX12_missBy_179 : decode cX12_missBy 179 = .ok (.getfield 247, 3) := by decide +kernel
theorem dX12_missBy_182 : decode cX12_missBy 182 = .ok (.bipush 6, 2) := by decide +kernel
theorem dX12_missBy_184 : decode cX12_missBy 184 = .ok (.iload 7, 2) := by decide +kernel
theorem dX12_missBy_186 : decode cX12_missBy 186 = .ok (.imul, 1) := by decide +kernel
theorem dX12_missBy_187 : decode cX12_missBy 187 = .ok (.isub, 1) := by decide +kernel
theorem dX12_missBy_188 : decode cX12_missBy 188 = .ok (.aload_n 0, 1) := by decide +kernel
theorem dX12_missBy_189 : decode cX12_missBy 189 = .ok (.iload_n 2, 1) := by decide +kernel
theorem dX12_missBy_190 : decode cX12_missBy 190 = .ok (.iconst 2, 1) := by decide +kernel
theorem dX12_missBy_191 : decode cX12_missBy 191 = .ok (.invokevirtual 293, 3) := by decide +kernel
theorem dX12_missBy_194 : decode cX12_missBy 194 = .ok (.isub, 1) := by decide +kernel
theorem dX12_missBy_195 : decode cX12_missBy 195 = .ok (.istore 8, 2) := by decide +kernel
theorem dX12_missBy_197 : decode cX12_missBy 197 = .ok (.iload 8, 2) := by decide +kernel
theorem dX12_missBy_199 : decode cX12_missBy 199 = .ok (.ifCond .ge 9, 3) := by decide +kernel
theorem dX12_missBy_202 : decode cX12_missBy 202 = .ok (.iload 8, 2) := by decide +kernel
theorem dX12_missBy_204 : decode cX12_missBy 204 = .ok (.ineg, 1) := by decide +kernel
theorem dX12_missBy_205 : decode cX12_missBy 205 = .ok (.goto 8, 3) := by decide +kernel
theorem dX12_missBy_208 : decode cX12_missBy 208 = .ok (.iload 8, 2) := by decide +kernel
theorem dX12_missBy_210 : decode cX12_missBy 210 = .ok (.ineg, 1) := by decide +kernel
theorem dX12_missBy_211 : decode cX12_missBy 211 = .ok (.iconst 1, 1) := by decide +kernel
theorem dX12_missBy_212 : decode cX12_missBy 212 = .ok (.isub, 1) := by decide +kernel
theorem dX12_missBy_213 : decode cX12_missBy 213 = .ok (.ireturn, 1) := by decide +kernel
theorem dX12_oddsBy_0 : decode cX12_oddsBy 0 = .ok (.aload_n 0, 1) := by decide +kernel
theorem dX12_oddsBy_1 : decode cX12_oddsBy 1 = .ok (.iload_n 1, 1) := by decide +kernel
theorem dX12_oddsBy_2 : decode cX12_oddsBy 2 = .ok (.iload_n 2, 1) := by decide +kernel
theorem dX12_oddsBy_3 : decode cX12_oddsBy 3 = .ok (.iload_n 3, 1) := by decide +kernel
theorem dX12_oddsBy_4 : decode cX12_oddsBy 4 = .ok (.invokevirtual 299, 3) := by decide +kernel
theorem dX12_oddsBy_7 : decode cX12_oddsBy 7 = .ok (.ifCond .le 5, 3) := by decide +kernel
theorem dX12_oddsBy_10 : decode cX12_oddsBy 10 = .ok (.iconst 0, 1) := by decide +kernel
theorem dX12_oddsBy_11 : decode cX12_oddsBy 11 = .ok (.ireturn, 1) := by decide +kernel
theorem dX12_oddsBy_12 : decode cX12_oddsBy 12 = .ok (.iload_n 1, 1) := by decide +kernel
theorem dX12_oddsBy_13 : decode cX12_oddsBy 13 = .ok (.ifCond .ne 15, 3) := by decide +kernel
theorem dX12_oddsBy_16 : decode cX12_oddsBy 16 = .ok (.bipush 12, 2) := by decide +kernel
theorem dX12_oddsBy_18 : decode cX12_oddsBy 18 = .ok (.aload_n 0, 1) := by decide +kernel
theorem dX12_oddsBy_19 : decode cX12_oddsBy 19 = .ok (.iload_n 2, 1) := by decide +kernel
theorem dX12_oddsBy_20 : decode cX12_oddsBy 20 = .ok (.iconst 4, 1) := by decide +kernel
theorem dX12_oddsBy_21 : decode cX12_oddsBy 21 = .ok (.invokevirtual 293, 3) := by decide +kernel
theorem dX12_oddsBy_24 : decode cX12_oddsBy 24 = .ok (.isub, 1) := by decide +kernel
theorem dX12_oddsBy_25 : decode cX12_oddsBy 25 = .ok (.goto 23, 3) := by decide +kernel
theorem dX12_oddsBy_28 : decode cX12_oddsBy 28 = .ok (.aload_n 0, 1) := by decide +kernel
theorem dX12_oddsBy_29 : decode cX12_oddsBy 29 = .ok (.getfield 296, 3) := by decide +kernel
theorem dX12_oddsBy_32 : decode cX12_oddsBy 32 = .ok (.aload_n 0, 1) := by decide +kernel
theorem dX12_oddsBy_33 : decode cX12_oddsBy 33 = .ok (.iload_n 2, 1) := by decide +kernel
theorem dX12_oddsBy_34 : decode cX12_oddsBy 34 = .ok (.iconst 3, 1) := by decide +kernel
theorem dX12_oddsBy_35 : decode cX12_oddsBy 35 = .ok (.invokevirtual 293, 3) := by decide +kernel
theorem dX12_oddsBy_38 : decode cX12_oddsBy 38 = .ok (.irem, 1) := by decide +kernel
theorem dX12_oddsBy_39 : decode cX12_oddsBy 39 = .ok (.ifCond .ne 8, 3) := by decide +kernel
theorem dX12_oddsBy_42 : decode cX12_oddsBy 42 = .ok (.bipush 12, 2) := by decide +kernel
theorem dX12_oddsBy_44 : decode cX12_oddsBy 44 = .ok (.goto 4, 3) := by decide +kernel
theorem dX12_oddsBy_47 : decode cX12_oddsBy 47 = .ok (.iconst 4, 1) := by decide +kernel
theorem dX12_oddsBy_48 : decode cX12_oddsBy 48 = .ok (.ireturn, 1) := by decide +kernel
theorem dX12_oddsOf_0 : decode cX12_oddsOf 0 = .ok (.aload_n 0, 1) := by decide +kernel
theorem dX12_oddsOf_1 : decode cX12_oddsOf 1 = .ok (.iconst 2, 1) := by decide +kernel
theorem dX12_oddsOf_2 : decode cX12_oddsOf 2 = .ok (.invokevirtual 290, 3) := by decide +kernel
theorem dX12_oddsOf_5 : decode cX12_oddsOf 5 = .ok (.istore_n 3, 1) := by decide +kernel
theorem dX12_oddsOf_6 : decode cX12_oddsOf 6 = .ok (.iconst 0, 1) := by decide +kernel
theorem dX12_oddsOf_7 : decode cX12_oddsOf 7 = .ok (.istore 4, 2) := by decide +kernel
theorem dX12_oddsOf_9 : decode cX12_oddsOf 9 = .ok (.aload_n 0, 1) := by decide +kernel
theorem dX12_oddsOf_10 : decode cX12_oddsOf 10 = .ok (.getfield 250, 3) := by decide +kernel
theorem dX12_oddsOf_13 : decode cX12_oddsOf 13 = .ok (.iload_n 3, 1) := by decide +kernel
theorem dX12_oddsOf_14 : decode cX12_oddsOf 14 = .ok (.isub, 1) := by decide +kernel
theorem dX12_oddsOf_15 : decode cX12_oddsOf 15 = .ok (.istore 5, 2) := by decide +kernel
theorem dX12_oddsOf_17 : decode cX12_oddsOf 17 = .ok (.iload 5, 2) := by decide +kernel
theorem dX12_oddsOf_19 : decode cX12_oddsOf 19 = .ok (.aload_n 0, 1) := by decide +kernel
theorem dX12_oddsOf_20 : decode cX12_oddsOf 20 = .ok (.getfield 250, 3) := by decide +kernel
theorem dX12_oddsOf_23 : decode cX12_oddsOf 23 = .ok (.iload_n 3, 1) := by decide +kernel
theorem dX12_oddsOf_24 : decode cX12_oddsOf 24 = .ok (.iadd, 1) := by decide +kernel
theorem dX12_oddsOf_25 : decode cX12_oddsOf 25 = .ok (.if_icmp .gt 31, 3) := by decide +kernel
theorem dX12_oddsOf_28 : decode cX12_oddsOf 28 = .ok (.iload 4, 2) := by decide +kernel
theorem dX12_oddsOf_30 : decode cX12_oddsOf 30 = .ok (.aload_n 0, 1) := by decide +kernel
theorem dX12_oddsOf_31 : decode cX12_oddsOf 31 = .ok (.iload_n 1, 1) := by decide +kernel
theorem dX12_oddsOf_32 : decode cX12_oddsOf 32 = .ok (.iload_n 2, 1) := by decide +kernel
theorem dX12_oddsOf_33 : decode cX12_oddsOf 33 = .ok (.iload 5, 2) := by decide +kernel
theorem dX12_oddsOf_35 : decode cX12_oddsOf 35 = .ok (.ifCond .ge 7, 3) := by decide +kernel
theorem dX12_oddsOf_38 : decode cX12_oddsOf 38 = .ok (.iconst 0, 1) := by decide +kernel
theorem dX12_oddsOf_39 : decode cX12_oddsOf 39 = .ok (.goto 5, 3) := by decide +kernel
theorem dX12_oddsOf_42 : decode cX12_oddsOf 42 = .ok (.iload 5, 2) := by decide +kernel
theorem dX12_oddsOf_44 : decode cX12_oddsOf 44 = .ok (.invokevirtual 303, 3) := by decide +kernel
theorem dX12_oddsOf_47 : decode cX12_oddsOf 47 = .ok (.iadd, 1) := by decide +kernel
theorem dX12_oddsOf_48 : decode cX12_oddsOf 48 = .ok (.istore 4, 2) := by decide +kernel
theorem dX12_oddsOf_50 : decode cX12_oddsOf 50 = .ok (.iinc 5 1, 3) := by decide +kernel
theorem dX12_oddsOf_53 : decode cX12_oddsOf 53 = .ok (.goto (-36), 3) := by decide +kernel
theorem dX12_oddsOf_56 : decode cX12_oddsOf 56 = .ok (.iload 4, 2) := by decide +kernel
theorem dX12_oddsOf_58 : decode cX12_oddsOf 58 = .ok (.ireturn, 1) := by decide +kernel
theorem dX12_allOdds_0 : decode cX12_allOdds 0 = .ok (.bipush 12, 2) := by decide +kernel
theorem dX12_allOdds_2 : decode cX12_allOdds 2 = .ok (.iconst 2, 1) := by decide +kernel
theorem dX12_allOdds_3 : decode cX12_allOdds 3 = .ok (.aload_n 0, 1) := by decide +kernel
theorem dX12_allOdds_4 : decode cX12_allOdds 4 = .ok (.iconst 2, 1) := by decide +kernel
theorem dX12_allOdds_5 : decode cX12_allOdds 5 = .ok (.invokevirtual 290, 3) := by decide +kernel
theorem dX12_allOdds_8 : decode cX12_allOdds 8 = .ok (.imul, 1) := by decide +kernel
theorem dX12_allOdds_9 : decode cX12_allOdds 9 = .ok (.iconst 1, 1) := by decide +kernel
theorem dX12_allOdds_10 : decode cX12_allOdds 10 = .ok (.iadd, 1) := by decide +kernel
theorem dX12_allOdds_11 : decode cX12_allOdds 11 = .ok (.imul, 1) := by decide +kernel
theorem dX12_allOdds_12 : decode cX12_allOdds 12 = .ok (.ireturn, 1) := by decide +kernel
theorem dX12_common_0 : decode cX12_common 0 = .ok (.lload_n 0, 1) := by decide +kernel
theorem dX12_common_1 : decode cX12_common 1 = .ok (.lstore 4, 2) := by decide +kernel
theorem dX12_common_3 : decode cX12_common 3 = .ok (.lload_n 2, 1) := by decide +kernel
theorem dX12_common_4 : decode cX12_common 4 = .ok (.lstore 6, 2) := by decide +kernel
theorem dX12_common_6 : decode cX12_common 6 = .ok (.lload 6, 2) := by decide +kernel
theorem dX12_common_8 : decode cX12_common 8 = .ok (.lconst 0, 1) := by decide +kernel
theorem dX12_common_9 : decode cX12_common 9 = .ok (.lcmp, 1) := by decide +kernel
theorem dX12_common_10 : decode cX12_common 10 = .ok (.ifCond .eq 21, 3) := by decide +kernel
theorem dX12_common_13 : decode cX12_common 13 = .ok (.lload 4, 2) := by decide +kernel
theorem dX12_common_15 : decode cX12_common 15 = .ok (.lload 6, 2) := by decide +kernel
theorem dX12_common_17 : decode cX12_common 17 = .ok (.lrem, 1) := by decide +kernel
theorem dX12_common_18 : decode cX12_common 18 = .ok (.lstore 8, 2) := by decide +kernel
theorem dX12_common_20 : decode cX12_common 20 = .ok (.lload 6, 2) := by decide +kernel
theorem dX12_common_22 : decode cX12_common 22 = .ok (.lstore 4, 2) := by decide +kernel
theorem dX12_common_24 : decode cX12_common 24 = .ok (.lload 8, 2) := by decide +kernel
theorem dX12_common_26 : decode cX12_common 26 = .ok (.lstore 6, 2) := by decide +kernel
theorem dX12_common_28 : decode cX12_common 28 = .ok (.goto (-22), 3) := by decide +kernel
theorem dX12_common_31 : decode cX12_common 31 = .ok (.lload 4, 2) := by decide +kernel
theorem dX12_common_33 : decode cX12_common 33 = .ok (.lreturn, 1) := by decide +kernel
theorem dX12_partOf_0 : decode cX12_partOf 0 = .ok (.iload 4, 2) := by decide +kernel
theorem dX12_partOf_2 : decode cX12_partOf 2 = .ok (.ifCond .ne 7, 3) := by decide +kernel
theorem dX12_partOf_5 : decode cX12_partOf 5 = .ok (.lload_n 0, 1) := by decide +kernel
theorem dX12_partOf_6 : decode cX12_partOf 6 = .ok (.goto 4, 3) := by decide +kernel
theorem dX12_partOf_9 : decode cX12_partOf 9 = .ok (.lload_n 2, 1) := by decide +kernel
theorem dX12_partOf_10 : decode cX12_partOf 10 = .ok (.lload_n 0, 1) := by decide +kernel
theorem dX12_partOf_11 : decode cX12_partOf 11 = .ok (.lload_n 2, 1) := by decide +kernel
theorem dX12_partOf_12 : decode cX12_partOf 12 = .ok (.invokestatic 306, 3) := by decide +kernel
theorem dX12_partOf_15 : decode cX12_partOf 15 = .ok (.ldiv, 1) := by decide +kernel
theorem dX12_partOf_16 : decode cX12_partOf 16 = .ok (.lreturn, 1) := by decide +kernel
theorem dX12_counts_0 : decode cX12_counts 0 = .ok (.aload_n 0, 1) := by decide +kernel
theorem dX12_counts_1 : decode cX12_counts 1 = .ok (.getfield 259, 3) := by decide +kernel
theorem dX12_counts_4 : decode cX12_counts 4 = .ok (.aload_n 0, 1) := by decide +kernel
theorem dX12_counts_5 : decode cX12_counts 5 = .ok (.getfield 19, 3) := by decide +kernel
theorem dX12_counts_8 : decode cX12_counts 8 = .ok (.bipush 68, 2) := by decide +kernel
theorem dX12_counts_10 : decode cX12_counts 10 = .ok (.iaload, 1) := by decide +kernel
theorem dX12_counts_11 : decode cX12_counts 11 = .ok (.if_icmp .le 5, 3) := by decide +kernel
theorem dX12_counts_14 : decode cX12_counts 14 = .ok (.iconst 0, 1) := by decide +kernel
theorem dX12_counts_15 : decode cX12_counts 15 = .ok (.ireturn, 1) := by decide +kernel
theorem dX12_counts_16 : decode cX12_counts 16 = .ok (.iconst 2, 1) := by decide +kernel
theorem dX12_counts_17 : decode cX12_counts 17 = .ok (.aload_n 0, 1) := by decide +kernel
theorem dX12_counts_18 : decode cX12_counts 18 = .ok (.iload_n 1, 1) := by decide +kernel
theorem dX12_counts_19 : decode cX12_counts 19 = .ok (.iload_n 2, 1) := by decide +kernel
theorem dX12_counts_20 : decode cX12_counts 20 = .ok (.invokevirtual 310, 3) := by decide +kernel
theorem dX12_counts_23 : decode cX12_counts 23 = .ok (.imul, 1) := by decide +kernel
theorem dX12_counts_24 : decode cX12_counts 24 = .ok (.aload_n 0, 1) := by decide +kernel
theorem dX12_counts_25 : decode cX12_counts 25 = .ok (.invokevirtual 314, 3) := by decide +kernel
theorem dX12_counts_28 : decode cX12_counts 28 = .ok (.if_icmp .lt 23, 3) := by decide +kernel
theorem dX12_counts_31 : decode cX12_counts 31 = .ok (.aload_n 0, 1) := by decide +kernel
theorem dX12_counts_32 : decode cX12_counts 32 = .ok (.getfield 19, 3) := by decide +kernel
theorem dX12_counts_35 : decode cX12_counts 35 = .ok (.bipush 68, 2) := by decide +kernel
theorem dX12_counts_37 : decode cX12_counts 37 = .ok (.iload_n 1, 1) := by decide +kernel
theorem dX12_counts_38 : decode cX12_counts 38 = .ok (.ifCond .eq 7, 3) := by decide +kernel
theorem dX12_counts_41 : decode cX12_counts 41 = .ok (.iconst 2, 1) := by decide +kernel
theorem dX12_counts_42 : decode cX12_counts 42 = .ok (.goto 4, 3) := by decide +kernel
theorem dX12_counts_45 : decode cX12_counts 45 = .ok (.iconst 1, 1) := by decide +kernel
theorem dX12_counts_46 : decode cX12_counts 46 = .ok (.iadd, 1) := by decide +kernel
theorem dX12_counts_47 : decode cX12_counts 47 = .ok (.iaload, 1) := by decide +kernel
theorem dX12_counts_48 : decode cX12_counts 48 = .ok (.goto 11, 3) := by decide +kernel
theorem dX12_counts_51 : decode cX12_counts 51 = .ok (.aload_n 0, 1) := by decide +kernel
theorem dX12_counts_52 : decode cX12_counts 52 = .ok (.getfield 19, 3) := by decide +kernel
theorem dX12_counts_55 : decode cX12_counts 55 = .ok (.bipush 71, 2) := by decide +kernel
theorem dX12_counts_57 : decode cX12_counts 57 = .ok (.iaload, 1) := by decide +kernel
theorem dX12_counts_58 : decode cX12_counts 58 = .ok (.ineg, 1) := by decide +kernel
theorem dX12_counts_59 : decode cX12_counts 59 = .ok (.ireturn, 1) := by decide +kernel
theorem dX12_take_0 : decode cX12_take 0 = .ok (.aload_n 0, 1) := by decide +kernel
theorem dX12_take_1 : decode cX12_take 1 = .ok (.iconst 0, 1) := by decide +kernel
theorem dX12_take_2 : decode cX12_take 2 = .ok (.putfield 86, 3) := by decide +kernel
theorem dX12_take_5 : decode cX12_take 5 = .ok (.iload_n 1, 1) := by decide +kernel
theorem dX12_take_6 : decode cX12_take 6 = .ok (.i2l, 1) := by decide +kernel
theorem dX12_take_7 : decode cX12_take 7 = .ok (.lconst 0, 1) := by decide +kernel
theorem dX12_take_8 : decode cX12_take 8 = .ok (.aload_n 0, 1) := by decide +kernel
theorem dX12_take_9 : decode cX12_take 9 = .ok (.getfield 19, 3) := by decide +kernel
theorem dX12_take_12 : decode cX12_take 12 = .ok (.iconst 0, 1) := by decide +kernel
theorem dX12_take_13 : decode cX12_take 13 = .ok (.iaload, 1) := by decide +kernel
theorem dX12_take_14 : decode cX12_take 14 = .ok (.iconst 1, 1) := by decide +kernel
theorem dX12_take_15 : decode cX12_take 15 = .ok (.isub, 1) := by decide +kernel
theorem dX12_take_16 : decode cX12_take 16 = .ok (.i2l, 1) := by decide +kernel
theorem dX12_take_17 : decode cX12_take 17 = .ok (.invokestatic 96, 3) := by decide +kernel
theorem dX12_take_20 : decode cX12_take 20 = .ok (.ifCond .eq 27, 3) := by decide +kernel
theorem dX12_take_23 : decode cX12_take 23 = .ok (.iload_n 2, 1) := by decide +kernel
theorem dX12_take_24 : decode cX12_take 24 = .ok (.ldc 28, 2) := by decide +kernel
theorem dX12_take_26 : decode cX12_take 26 = .ok (.if_icmp .eq 25, 3) := by decide +kernel
theorem dX12_take_29 : decode cX12_take 29 = .ok (.iload_n 2, 1) := by decide +kernel
theorem dX12_take_30 : decode cX12_take 30 = .ok (.i2l, 1) := by decide +kernel
theorem dX12_take_31 : decode cX12_take 31 = .ok (.lconst 0, 1) := by decide +kernel
theorem dX12_take_32 : decode cX12_take 32 = .ok (.aload_n 0, 1) := by decide +kernel
theorem dX12_take_33 : decode cX12_take 33 = .ok (.getfield 19, 3) := by decide +kernel
theorem dX12_take_36 : decode cX12_take 36 = .ok (.iconst 1, 1) := by decide +kernel
theorem dX12_take_37 : decode cX12_take 37 = .ok (.iaload, 1) := by decide +kernel
theorem dX12_take_38 : decode cX12_take 38 = .ok (.iconst 1, 1) := by decide +kernel
theorem dX12_take_39 : decode cX12_take 39 = .ok (.isub, 1) := by decide +kernel
theorem dX12_take_40 : decode cX12_take 40 = .ok (.i2l, 1) := by decide +kernel
theorem dX12_take_41 : decode cX12_take 41 = .ok (.invokestatic 96, 3) := by decide +kernel
theorem dX12_take_44 : decode cX12_take 44 = .ok (.ifCond .ne 7, 3) := by decide +kernel
theorem dX12_take_47 : decode cX12_take 47 = .ok (.ldc2_w 106, 3) := by decide +kernel
theorem dX12_take_50 : decode cX12_take 50 = .ok (.lreturn, 1) := by decide +kernel
theorem dX12_take_51 : decode cX12_take 51 = .ok (.aload_n 0, 1) := by decide +kernel
theorem dX12_take_52 : decode cX12_take 52 = .ok (.iload_n 1, 1) := by decide +kernel
theorem dX12_take_53 : decode cX12_take 53 = .ok (.putfield 229, 3) := by decide +kernel
theorem dX12_take_56 : decode cX12_take 56 = .ok (.aload_n 0, 1) := by decide +kernel
theorem dX12_take_57 : decode cX12_take 57 = .ok (.iload_n 2, 1) := by decide +kernel
theorem dX12_take_58 : decode cX12_take 58 = .ok (.putfield 29, 3) := by decide +kernel
theorem dX12_take_61 : decode cX12_take 61 = .ok (.aload_n 0, 1) := by decide +kernel
theorem dX12_take_62 : decode cX12_take 62 = .ok (.invokevirtual 232, 3) := by decide +kernel
theorem dX12_take_65 : decode cX12_take 65 = .ok (.aload_n 0, 1) := by decide +kernel
theorem dX12_take_66 : decode cX12_take 66 = .ok (.invokevirtual 235, 3) := by decide +kernel
theorem dX12_take_69 : decode cX12_take 69 = .ok (.lconst 1, 1) := by decide +kernel
theorem dX12_take_70 : decode cX12_take 70 = .ok (.lreturn, 1) := by decide +kernel
theorem dX12_tick_0 : decode cX12_tick 0 = .ok (.aload_n 0, 1) := by decide +kernel
theorem dX12_tick_1 : decode cX12_tick 1 = .ok (.iconst 0, 1) := by decide +kernel
theorem dX12_tick_2 : decode cX12_tick 2 = .ok (.putfield 86, 3) := by decide +kernel
theorem dX12_tick_5 : decode cX12_tick 5 = .ok (.iload_n 1, 1) := by decide +kernel
theorem dX12_tick_6 : decode cX12_tick 6 = .ok (.i2l, 1) := by decide +kernel
theorem dX12_tick_7 : decode cX12_tick 7 = .ok (.lconst 0, 1) := by decide +kernel
theorem dX12_tick_8 : decode cX12_tick 8 = .ok (.lconst 1, 1) := by decide +kernel
theorem dX12_tick_9 : decode cX12_tick 9 = .ok (.invokestatic 96, 3) := by decide +kernel
theorem dX12_tick_12 : decode cX12_tick 12 = .ok (.ifCond .eq 40, 3) := by decide +kernel
theorem dX12_tick_15 : decode cX12_tick 15 = .ok (.iload_n 2, 1) := by decide +kernel
theorem dX12_tick_16 : decode cX12_tick 16 = .ok (.i2l, 1) := by decide +kernel
theorem dX12_tick_17 : decode cX12_tick 17 = .ok (.lconst 0, 1) := by decide +kernel
theorem dX12_tick_18 : decode cX12_tick 18 = .ok (.ldc2_w 317, 3) := by decide +kernel
theorem dX12_tick_21 : decode cX12_tick 21 = .ok (.invokestatic 96, 3) := by decide +kernel
theorem dX12_tick_24 : decode cX12_tick 24 = .ok (.ifCond .eq 28, 3) := by decide +kernel
theorem dX12_tick_27 : decode cX12_tick 27 = .ok (.iload_n 3, 1) := by decide +kernel
theorem dX12_tick_28 : decode cX12_tick 28 = .ok (.i2l, 1) := by decide +kernel
theorem dX12_tick_29 : decode cX12_tick 29 = .ok (.lconst 0, 1) := by decide +kernel
theorem dX12_tick_30 : decode cX12_tick 30 = .ok (.ldc2_w 319, 3) := by decide +kernel
theorem dX12_tick_33 : decode cX12_tick 33 = .ok (.invokestatic 96, 3) := by decide +kernel
theorem dX12_tick_36 : decode cX12_tick 36 = .ok (.ifCond .eq 16, 3) := by decide +kernel
theorem dX12_tick_39 : decode cX12_tick 39 = .ok (.iload 4, 2) := by decide +kernel
theorem dX12_tick_41 : decode cX12_tick 41 = .ok (.i2l, 1) := by decide +kernel
theorem dX12_tick_42 : decode cX12_tick 42 = .ok (.lconst 0, 1) := by decide +kernel
theorem dX12_tick_43 : decode cX12_tick 43 = .ok (.ldc2_w 321, 3) := by decide +kernel
theorem dX12_tick_46 : decode cX12_tick 46 = .ok (.invokestatic 96, 3) := by decide +kernel
theorem dX12_tick_49 : decode cX12_tick 49 = .ok (.ifCond .ne 7, 3) := by decide +kernel
theorem dX12_tick_52 : decode cX12_tick 52 = .ok (.ldc2_w 106, 3) := by decide +kernel
theorem dX12_tick_55 : decode cX12_tick 55 = .ok (.lreturn, 1) := by decide +kernel
theorem dX12_tick_56 : decode cX12_tick 56 = .ok (.aload_n 0, 1) := by decide +kernel
theorem dX12_tick_57 : decode cX12_tick 57 = .ok (.invokevirtual 323, 3) := by decide +kernel
theorem dX12_tick_60 : decode cX12_tick 60 = .ok (.aload_n 0, 1) := by decide +kernel
theorem dX12_tick_61 : decode cX12_tick 61 = .ok (.getfield 225, 3) := by decide +kernel
theorem dX12_tick_64 : decode cX12_tick 64 = .ok (.ifCond .eq 10, 3) := by decide +kernel
theorem dX12_tick_67 : decode cX12_tick 67 = .ok (.aload_n 0, 1) := by decide +kernel
theorem dX12_tick_68 : decode cX12_tick 68 = .ok (.invokevirtual 286, 3) := by decide +kernel
theorem dX12_tick_71 : decode cX12_tick 71 = .ok (.ifCond .eq 7, 3) := by decide +kernel
theorem dX12_tick_74 : decode cX12_tick 74 = .ok (.ldc2_w 326, 3) := by decide +kernel
theorem dX12_tick_77 : decode cX12_tick 77 = .ok (.lreturn, 1) := by decide +kernel
theorem dX12_tick_78 : decode cX12_tick 78 = .ok (.aload_n 0, 1) := by decide +kernel
theorem dX12_tick_79 : decode cX12_tick 79 = .ok (.iload_n 1, 1) := by decide +kernel
theorem dX12_tick_80 : decode cX12_tick 80 = .ok (.iconst 1, 1) := by decide +kernel
theorem dX12_tick_81 : decode cX12_tick 81 = .ok (.if_icmp .ne 7, 3) := by decide +kernel
theorem dX12_tick_84 : decode cX12_tick 84 = .ok (.iconst 1, 1) := by decide +kernel
theorem dX12_tick_85 : decode cX12_tick 85 = .ok (.goto 4, 3) := by decide +kernel
theorem dX12_tick_88 : decode cX12_tick 88 = .ok (.iconst 0, 1) := by decide +kernel
theorem dX12_tick_89 : decode cX12_tick 89 = .ok (.iload_n 2, 1) := by decide +kernel
theorem dX12_tick_90 : decode cX12_tick 90 = .ok (.iload_n 3, 1) := by decide +kernel
theorem dX12_tick_91 : decode cX12_tick 91 = .ok (.iload 4, 2) := by decide +kernel
theorem dX12_tick_93 : decode cX12_tick 93 = .ok (.invokevirtual 328, 3) := by decide +kernel
theorem dX12_tick_96 : decode cX12_tick 96 = .ok (.aload_n 0, 1) := by decide +kernel
theorem dX12_tick_97 : decode cX12_tick 97 = .ok (.invokevirtual 235, 3) := by decide +kernel
theorem dX12_tick_100 : decode cX12_tick 100 = .ok (.aload_n 0, 1) := by decide +kernel
theorem dX12_tick_101 : decode cX12_tick 101 = .ok (.getfield 265, 3) := by decide +kernel
theorem dX12_tick_104 : decode cX12_tick 104 = .ok (.i2l, 1) := by decide +kernel
theorem dX12_tick_105 : decode cX12_tick 105 = .ok (.lreturn, 1) := by decide +kernel
theorem dX12_hurl_0 : decode cX12_hurl 0 = .ok (.aload_n 0, 1) := by decide +kernel
theorem dX12_hurl_1 : decode cX12_hurl 1 = .ok (.iconst 0, 1) := by decide +kernel
theorem dX12_hurl_2 : decode cX12_hurl 2 = .ok (.putfield 86, 3) := by decide +kernel
theorem dX12_hurl_5 : decode cX12_hurl 5 = .ok (.iload_n 1, 1) := by decide +kernel
theorem dX12_hurl_6 : decode cX12_hurl 6 = .ok (.i2l, 1) := by decide +kernel
theorem dX12_hurl_7 : decode cX12_hurl 7 = .ok (.lconst 0, 1) := by decide +kernel
theorem dX12_hurl_8 : decode cX12_hurl 8 = .ok (.lconst 1, 1) := by decide +kernel
theorem dX12_hurl_9 : decode cX12_hurl 9 = .ok (.invokestatic 96, 3) := by decide +kernel
theorem dX12_hurl_12 : decode cX12_hurl 12 = .ok (.ifCond .eq 11, 3) := by decide +kernel
theorem dX12_hurl_15 : decode cX12_hurl 15 = .ok (.aload_n 0, 1) := by decide +kernel
theorem dX12_hurl_16 : decode cX12_hurl 16 = .ok (.iload_n 2, 1) := by decide +kernel
theorem dX12_hurl_17 : decode cX12_hurl 17 = .ok (.invokevirtual 332, 3) := by decide +kernel
theorem dX12_hurl_20 : decode cX12_hurl 20 = .ok (.ifCond .ne 7, 3) := by decide +kernel
theorem dX12_hurl_23 : decode cX12_hurl 23 = .ok (.ldc2_w 106, 3) := by decide +kernel
theorem dX12_hurl_26 : decode cX12_hurl 26 = .ok (.lreturn, 1) := by decide +kernel
theorem dX12_hurl_27 : decode cX12_hurl 27 = .ok (.aload_n 0, 1) := by decide +kernel
theorem dX12_hurl_28 : decode cX12_hurl 28 = .ok (.invokevirtual 323, 3) := by decide +kernel
theorem dX12_hurl_31 : decode cX12_hurl 31 = .ok (.aload_n 0, 1) := by decide +kernel
theorem dX12_hurl_32 : decode cX12_hurl 32 = .ok (.iload_n 1, 1) := by decide +kernel
theorem dX12_hurl_33 : decode cX12_hurl 33 = .ok (.iconst 1, 1) := by decide +kernel
theorem dX12_hurl_34 : decode cX12_hurl 34 = .ok (.if_icmp .ne 7, 3) := by decide +kernel
theorem dX12_hurl_37 : decode cX12_hurl 37 = .ok (.iconst 1, 1) := by decide +kernel
theorem dX12_hurl_38 : decode cX12_hurl 38 = .ok (.goto 4, 3) := by decide +kernel
theorem dX12_hurl_41 : decode cX12_hurl 41 = .ok (.iconst 0, 1) := by decide +kernel
theorem dX12_hurl_42 : decode cX12_hurl 42 = .ok (.iload_n 2, 1) := by decide +kernel
theorem dX12_hurl_43 : decode cX12_hurl 43 = .ok (.aload_n 0, 1) := by decide +kernel
theorem dX12_hurl_44 : decode cX12_hurl 44 = .ok (.getfield 250, 3) := by decide +kernel
theorem dX12_hurl_47 : decode cX12_hurl 47 = .ok (.invokevirtual 299, 3) := by decide +kernel
theorem dX12_hurl_50 : decode cX12_hurl 50 = .ok (.istore_n 3, 1) := by decide +kernel
theorem dX12_hurl_51 : decode cX12_hurl 51 = .ok (.aload_n 0, 1) := by decide +kernel
theorem dX12_hurl_52 : decode cX12_hurl 52 = .ok (.invokevirtual 283, 3) := by decide +kernel
theorem dX12_hurl_55 : decode cX12_hurl 55 = .ok (.aload_n 0, 1) := by decide +kernel
theorem dX12_hurl_56 : decode cX12_hurl 56 = .ok (.invokevirtual 235, 3) := by decide +kernel
theorem dX12_hurl_59 : decode cX12_hurl 59 = .ok (.iload_n 3, 1) := by decide +kernel
theorem dX12_hurl_60 : decode cX12_hurl 60 = .ok (.i2l, 1) := by decide +kernel
theorem dX12_hurl_61 : decode cX12_hurl 61 = .ok (.lreturn, 1) := by decide +kernel
theorem dX12_close_0 : decode cX12_close 0 = .ok (.aload_n 0, 1) := by decide +kernel
theorem dX12_close_1 : decode cX12_close 1 = .ok (.iconst 0, 1) := by decide +kernel
theorem dX12_close_2 : decode cX12_close 2 = .ok (.putfield 86, 3) := by decide +kernel
theorem dX12_close_5 : decode cX12_close 5 = .ok (.aload_n 0, 1) := by decide +kernel
theorem dX12_close_6 : decode cX12_close 6 = .ok (.getfield 225, 3) := by decide +kernel
theorem dX12_close_9 : decode cX12_close 9 = .ok (.ifCond .ne 7, 3) := by decide +kernel
theorem dX12_close_12 : decode cX12_close 12 = .ok (.ldc2_w 326, 3) := by decide +kernel
theorem dX12_close_15 : decode cX12_close 15 = .ok (.lreturn, 1) := by decide +kernel
theorem dX12_close_16 : decode cX12_close 16 = .ok (.aload_n 0, 1) := by decide +kernel
theorem dX12_close_17 : decode cX12_close 17 = .ok (.invokevirtual 323, 3) := by decide +kernel
theorem dX12_close_20 : decode cX12_close 20 = .ok (.aload_n 0, 1) := by decide +kernel
theorem dX12_close_21 : decode cX12_close 21 = .ok (.invokevirtual 335, 3) := by decide +kernel
theorem dX12_close_24 : decode cX12_close 24 = .ok (.aload_n 0, 1) := by decide +kernel
theorem dX12_close_25 : decode cX12_close 25 = .ok (.invokevirtual 235, 3) := by decide +kernel
theorem dX12_close_28 : decode cX12_close 28 = .ok (.aload_n 0, 1) := by decide +kernel
theorem dX12_close_29 : decode cX12_close 29 = .ok (.getfield 259, 3) := by decide +kernel
theorem dX12_close_32 : decode cX12_close 32 = .ok (.i2l, 1) := by decide +kernel
theorem dX12_close_33 : decode cX12_close 33 = .ok (.lreturn, 1) := by decide +kernel
theorem dX12_now_0 : decode cX12_now 0 = .ok (.aload_n 0, 1) := by decide +kernel
theorem dX12_now_1 : decode cX12_now 1 = .ok (.iconst 0, 1) := by decide +kernel
theorem dX12_now_2 : decode cX12_now 2 = .ok (.putfield 86, 3) := by decide +kernel
theorem dX12_now_5 : decode cX12_now 5 = .ok (.iload_n 1, 1) := by decide +kernel
theorem dX12_now_6 : decode cX12_now 6 = .ok (.i2l, 1) := by decide +kernel
theorem dX12_now_7 : decode cX12_now 7 = .ok (.lconst 0, 1) := by decide +kernel
theorem dX12_now_8 : decode cX12_now 8 = .ok (.ldc2_w 338, 3) := by decide +kernel
theorem dX12_now_11 : decode cX12_now 11 = .ok (.invokestatic 96, 3) := by decide +kernel
theorem dX12_now_14 : decode cX12_now 14 = .ok (.ifCond .ne 9, 3) := by decide +kernel
theorem dX12_now_17 : decode cX12_now 17 = .ok (.ldc2_w 106, 3) := by decide +kernel
theorem dX12_now_20 : decode cX12_now 20 = .ok (.goto 23, 3) := by decide +kernel
theorem dX12_now_23 : decode cX12_now 23 = .ok (.aload_n 0, 1) := by decide +kernel
theorem dX12_now_24 : decode cX12_now 24 = .ok (.getfield 225, 3) := by decide +kernel
theorem dX12_now_27 : decode cX12_now 27 = .ok (.ifCond .eq 13, 3) := by decide +kernel
theorem dX12_now_30 : decode cX12_now 30 = .ok (.aload_n 0, 1) := by decide +kernel
theorem dX12_now_31 : decode cX12_now 31 = .ok (.getfield 33, 3) := by decide +kernel
theorem dX12_now_34 : decode cX12_now 34 = .ok (.iload_n 1, 1) := by decide +kernel
theorem dX12_now_35 : decode cX12_now 35 = .ok (.iaload, 1) := by decide +kernel
theorem dX12_now_36 : decode cX12_now 36 = .ok (.i2l, 1) := by decide +kernel
theorem dX12_now_37 : decode cX12_now 37 = .ok (.goto 6, 3) := by decide +kernel
theorem dX12_now_40 : decode cX12_now 40 = .ok (.ldc2_w 326, 3) := by decide +kernel
theorem dX12_now_43 : decode cX12_now 43 = .ok (.lreturn, 1) := by decide +kernel
theorem dX12_piece_0 : decode cX12_piece 0 = .ok (.aload_n 0, 1) := by decide +kernel
theorem dX12_piece_1 : decode cX12_piece 1 = .ok (.iconst 0, 1) := by decide +kernel
theorem dX12_piece_2 : decode cX12_piece 2 = .ok (.putfield 86, 3) := by decide +kernel
theorem dX12_piece_5 : decode cX12_piece 5 = .ok (.aload_n 0, 1) := by decide +kernel
theorem dX12_piece_6 : decode cX12_piece 6 = .ok (.getfield 225, 3) := by decide +kernel
theorem dX12_piece_9 : decode cX12_piece 9 = .ok (.ifCond .ne 7, 3) := by decide +kernel
theorem dX12_piece_12 : decode cX12_piece 12 = .ok (.ldc2_w 326, 3) := by decide +kernel
theorem dX12_piece_15 : decode cX12_piece 15 = .ok (.lreturn, 1) := by decide +kernel
theorem dX12_piece_16 : decode cX12_piece 16 = .ok (.iload_n 1, 1) := by decide +kernel
theorem dX12_piece_17 : decode cX12_piece 17 = .ok (.i2l, 1) := by decide +kernel
theorem dX12_piece_18 : decode cX12_piece 18 = .ok (.lconst 0, 1) := by decide +kernel
theorem dX12_piece_19 : decode cX12_piece 19 = .ok (.aload_n 0, 1) := by decide +kernel
theorem dX12_piece_20 : decode cX12_piece 20 = .ok (.iconst 0, 1) := by decide +kernel
theorem dX12_piece_21 : decode cX12_piece 21 = .ok (.invokevirtual 271, 3) := by decide +kernel
theorem dX12_piece_24 : decode cX12_piece 24 = .ok (.bipush 10, 2) := by decide +kernel
theorem dX12_piece_26 : decode cX12_piece 26 = .ok (.idiv, 1) := by decide +kernel
theorem dX12_piece_27 : decode cX12_piece 27 = .ok (.iconst 1, 1) := by decide +kernel
theorem dX12_piece_28 : decode cX12_piece 28 = .ok (.isub, 1) := by decide +kernel
theorem dX12_piece_29 : decode cX12_piece 29 = .ok (.i2l, 1) := by decide +kernel
theorem dX12_piece_30 : decode cX12_piece 30 = .ok (.invokestatic 96, 3) := by decide +kernel
theorem dX12_piece_33 : decode cX12_piece 33 = .ok (.ifCond .ne 7, 3) := by decide +kernel
theorem dX12_piece_36 : decode cX12_piece 36 = .ok (.ldc2_w 106, 3) := by decide +kernel
theorem dX12_piece_39 : decode cX12_piece 39 = .ok (.lreturn, 1) := by decide +kernel
theorem dX12_piece_40 : decode cX12_piece 40 = .ok (.aload_n 0, 1) := by decide +kernel
theorem dX12_piece_41 : decode cX12_piece 41 = .ok (.getfield 33, 3) := by decide +kernel
theorem dX12_piece_44 : decode cX12_piece 44 = .ok (.iconst 0, 1) := by decide +kernel
theorem dX12_piece_45 : decode cX12_piece 45 = .ok (.iaload, 1) := by decide +kernel
theorem dX12_piece_46 : decode cX12_piece 46 = .ok (.bipush 10, 2) := by decide +kernel
theorem dX12_piece_48 : decode cX12_piece 48 = .ok (.idiv, 1) := by decide +kernel
theorem dX12_piece_49 : decode cX12_piece 49 = .ok (.istore_n 2, 1) := by decide +kernel
theorem dX12_piece_50 : decode cX12_piece 50 = .ok (.iload_n 1, 1) := by decide +kernel
theorem dX12_piece_51 : decode cX12_piece 51 = .ok (.iload_n 2, 1) := by decide +kernel
theorem dX12_piece_52 : decode cX12_piece 52 = .ok (.if_icmp .ge 9, 3) := by decide +kernel
theorem dX12_piece_55 : decode cX12_piece 55 = .ok (.ldc2_w 104, 3) := by decide +kernel
theorem dX12_piece_58 : decode cX12_piece 58 = .ok (.goto 36, 3) := by decide +kernel
theorem dX12_piece_61 : decode cX12_piece 61 = .ok (.iload_n 1, 1) := by decide +kernel
theorem dX12_piece_62 : decode cX12_piece 62 = .ok (.iload_n 2, 1) := by decide +kernel
theorem dX12_piece_63 : decode cX12_piece 63 = .ok (.if_icmp .ne 9, 3) := by decide +kernel
theorem dX12_piece_66 : decode cX12_piece 66 = .ok (.ldc2_w 241, 3) := by decide +kernel
theorem dX12_piece_69 : decode cX12_piece 69 = .ok (.goto 25, 3) := by decide +kernel
theorem dX12_piece_72 : decode cX12_piece 72 = .ok (.iload_n 1, 1) := by decide +kernel
theorem dX12_piece_73 : decode cX12_piece 73 = .ok (.iload_n 2, 1) := by decide +kernel
theorem dX12_piece_74 : decode cX12_piece 74 = .ok (.iconst 4, 1) := by decide +kernel
theorem dX12_piece_75 : decode cX12_piece 75 = .ok (.iadd, 1) := by decide +kernel
theorem dX12_piece_76 : decode cX12_piece 76 = .ok (.aload_n 0, 1) := by decide +kernel
theorem dX12_piece_77 : decode cX12_piece 77 = .ok (.getfield 33, 3) := by decide +kernel
theorem dX12_piece_80 : decode cX12_piece 80 = .ok (.iconst 0, 1) := by decide +kernel
theorem dX12_piece_81 : decode cX12_piece 81 = .ok (.iaload, 1) := by decide +kernel
theorem dX12_piece_82 : decode cX12_piece 82 = .ok (.bipush 40, 2) := by decide +kernel
theorem dX12_piece_84 : decode cX12_piece 84 = .ok (.idiv, 1) := by decide +kernel
theorem dX12_piece_85 : decode cX12_piece 85 = .ok (.iadd, 1) := by decide +kernel
theorem dX12_piece_86 : decode cX12_piece 86 = .ok (.if_icmp .gt 7, 3) := by decide +kernel
theorem dX12_piece_89 : decode cX12_piece 89 = .ok (.lconst 1, 1) := by decide +kernel
theorem dX12_piece_90 : decode cX12_piece 90 = .ok (.goto 4, 3) := by decide +kernel
theorem dX12_piece_93 : decode cX12_piece 93 = .ok (.lconst 0, 1) := by decide +kernel
theorem dX12_piece_94 : decode cX12_piece 94 = .ok (.lreturn, 1) := by decide +kernel
theorem dX12_odds_0 : decode cX12_odds 0 = .ok (.aload_n 0, 1) := by decide +kernel
theorem dX12_odds_1 : decode cX12_odds 1 = .ok (.iconst 0, 1) := by decide +kernel
theorem dX12_odds_2 : decode cX12_odds 2 = .ok (.putfield 86, 3) := by decide +kernel
theorem dX12_odds_5 : decode cX12_odds 5 = .ok (.iload_n 1, 1) := by decide +kernel
theorem dX12_odds_6 : decode cX12_odds 6 = .ok (.i2l, 1) := by decide +kernel
theorem dX12_odds_7 : decode cX12_odds 7 = .ok (.lconst 0, 1) := by decide +kernel
theorem dX12_odds_8 : decode cX12_odds 8 = .ok (.lconst 1, 1) := by decide +kernel
theorem dX12_odds_9 : decode cX12_odds 9 = .ok (.invokestatic 96, 3) := by decide +kernel
theorem dX12_odds_12 : decode cX12_odds 12 = .ok (.ifCond .eq 21, 3) := by decide +kernel
theorem dX12_odds_15 : decode cX12_odds 15 = .ok (.aload_n 0, 1) := by decide +kernel
theorem dX12_odds_16 : decode cX12_odds 16 = .ok (.iload_n 2, 1) := by decide +kernel
theorem dX12_odds_17 : decode cX12_odds 17 = .ok (.invokevirtual 332, 3) := by decide +kernel
theorem dX12_odds_20 : decode cX12_odds 20 = .ok (.ifCond .eq 13, 3) := by decide +kernel
theorem dX12_odds_23 : decode cX12_odds 23 = .ok (.iload_n 3, 1) := by decide +kernel
theorem dX12_odds_24 : decode cX12_odds 24 = .ok (.i2l, 1) := by decide +kernel
theorem dX12_odds_25 : decode cX12_odds 25 = .ok (.lconst 0, 1) := by decide +kernel
theorem dX12_odds_26 : decode cX12_odds 26 = .ok (.lconst 1, 1) := by decide +kernel
theorem dX12_odds_27 : decode cX12_odds 27 = .ok (.invokestatic 96, 3) := by decide +kernel
theorem dX12_odds_30 : decode cX12_odds 30 = .ok (.ifCond .ne 7, 3) := by decide +kernel
theorem dX12_odds_33 : decode cX12_odds 33 = .ok (.ldc2_w 106, 3) := by decide +kernel
theorem dX12_odds_36 : decode cX12_odds 36 = .ok (.lreturn, 1) := by decide +kernel
theorem dX12_odds_37 : decode cX12_odds 37 = .ok (.aload_n 0, 1) := by decide +kernel
theorem dX12_odds_38 : decode cX12_odds 38 = .ok (.invokevirtual 323, 3) := by decide +kernel
theorem dX12_odds_41 : decode cX12_odds 41 = .ok (.aload_n 0, 1) := by decide +kernel
theorem dX12_odds_42 : decode cX12_odds 42 = .ok (.iload_n 1, 1) := by decide +kernel
theorem dX12_odds_43 : decode cX12_odds 43 = .ok (.iconst 1, 1) := by decide +kernel
theorem dX12_odds_44 : decode cX12_odds 44 = .ok (.if_icmp .ne 7, 3) := by decide +kernel
theorem dX12_odds_47 : decode cX12_odds 47 = .ok (.iconst 1, 1) := by decide +kernel
theorem dX12_odds_48 : decode cX12_odds 48 = .ok (.goto 4, 3) := by decide +kernel
theorem dX12_odds_51 : decode cX12_odds 51 = .ok (.iconst 0, 1) := by decide +kernel
theorem dX12_odds_52 : decode cX12_odds 52 = .ok (.iload_n 2, 1) := by decide +kernel
theorem dX12_odds_53 : decode cX12_odds 53 = .ok (.invokevirtual 310, 3) := by decide +kernel
theorem dX12_odds_56 : decode cX12_odds 56 = .ok (.i2l, 1) := by decide +kernel
theorem dX12_odds_57 : decode cX12_odds 57 = .ok (.aload_n 0, 1) := by decide +kernel
theorem dX12_odds_58 : decode cX12_odds 58 = .ok (.invokevirtual 314, 3) := by decide +kernel
theorem dX12_odds_61 : decode cX12_odds 61 = .ok (.i2l, 1) := by decide +kernel
theorem dX12_odds_62 : decode cX12_odds 62 = .ok (.iload_n 3, 1) := by decide +kernel
theorem dX12_odds_63 : decode cX12_odds 63 = .ok (.invokestatic 340, 3) := by decide +kernel
theorem dX12_odds_66 : decode cX12_odds 66 = .ok (.lreturn, 1) := by decide +kernel
theorem dX12_need_0 : decode cX12_need 0 = .ok (.aload_n 0, 1) := by decide +kernel
theorem dX12_need_1 : decode cX12_need 1 = .ok (.iconst 0, 1) := by decide +kernel
theorem dX12_need_2 : decode cX12_need 2 = .ok (.putfield 86, 3) := by decide +kernel
theorem dX12_need_5 : decode cX12_need 5 = .ok (.iload_n 1, 1) := by decide +kernel
theorem dX12_need_6 : decode cX12_need 6 = .ok (.i2l, 1) := by decide +kernel
theorem dX12_need_7 : decode cX12_need 7 = .ok (.lconst 0, 1) := by decide +kernel
theorem dX12_need_8 : decode cX12_need 8 = .ok (.ldc2_w 344, 3) := by decide +kernel
theorem dX12_need_11 : decode cX12_need 11 = .ok (.invokestatic 96, 3) := by decide +kernel
theorem dX12_need_14 : decode cX12_need 14 = .ok (.ifCond .ne 9, 3) := by decide +kernel
theorem dX12_need_17 : decode cX12_need 17 = .ok (.ldc2_w 106, 3) := by decide +kernel
theorem dX12_need_20 : decode cX12_need 20 = .ok (.goto 22, 3) := by decide +kernel
theorem dX12_need_23 : decode cX12_need 23 = .ok (.aload_n 0, 1) := by decide +kernel
theorem dX12_need_24 : decode cX12_need 24 = .ok (.getfield 225, 3) := by decide +kernel
theorem dX12_need_27 : decode cX12_need 27 = .ok (.ifCond .eq 12, 3) := by decide +kernel
theorem dX12_need_30 : decode cX12_need 30 = .ok (.aload_n 0, 1) := by decide +kernel
theorem dX12_need_31 : decode cX12_need 31 = .ok (.iload_n 1, 1) := by decide +kernel
theorem dX12_need_32 : decode cX12_need 32 = .ok (.invokevirtual 277, 3) := by decide +kernel
theorem dX12_need_35 : decode cX12_need 35 = .ok (.i2l, 1) := by decide +kernel
theorem dX12_need_36 : decode cX12_need 36 = .ok (.goto 6, 3) := by decide +kernel
theorem dX12_need_39 : decode cX12_need 39 = .ok (.ldc2_w 326, 3) := by decide +kernel
theorem dX12_need_42 : decode cX12_need 42 = .ok (.lreturn, 1) := by decide +kernel
theorem dX12_greatest_0 : decode cX12_greatest 0 = .ok (.aload_n 0, 1) := by decide +kernel
theorem dX12_greatest_1 : decode cX12_greatest 1 = .ok (.iconst 0, 1) := by decide +kernel
theorem dX12_greatest_2 : decode cX12_greatest 2 = .ok (.putfield 86, 3) := by decide +kernel
theorem dX12_greatest_5 : decode cX12_greatest 5 = .ok (.iload_n 1, 1) := by decide +kernel
theorem dX12_greatest_6 : decode cX12_greatest 6 = .ok (.i2l, 1) := by decide +kernel
theorem dX12_greatest_7 : decode cX12_greatest 7 = .ok (.lconst 0, 1) := by decide +kernel
theorem dX12_greatest_8 : decode cX12_greatest 8 = .ok (.ldc2_w 321, 3) := by decide +kernel
theorem dX12_greatest_11 : decode cX12_greatest 11 = .ok (.invokestatic 96, 3) := by decide +kernel
theorem dX12_greatest_14 : decode cX12_greatest 14 = .ok (.ifCond .ne 7, 3) := by decide +kernel
theorem dX12_greatest_17 : decode cX12_greatest 17 = .ok (.ldc2_w 106, 3) := by decide +kernel
theorem dX12_greatest_20 : decode cX12_greatest 20 = .ok (.lreturn, 1) := by decide +kernel
theorem dX12_greatest_21 : decode cX12_greatest 21 = .ok (.aload_n 0, 1) := by decide +kernel
theorem dX12_greatest_22 : decode cX12_greatest 22 = .ok (.getfield 225, 3) := by decide +kernel
theorem dX12_greatest_25 : decode cX12_greatest 25 = .ok (.ifCond .ne 7, 3) := by decide +kernel
theorem dX12_greatest_28 : decode cX12_greatest 28 = .ok (.ldc2_w 326, 3) := by decide +kernel
theorem dX12_greatest_31 : decode cX12_greatest 31 = .ok (.lreturn, 1) := by decide +kernel
theorem dX12_greatest_32 : decode cX12_greatest 32 = .ok (.sipush 400, 3) := by decide +kernel
theorem dX12_greatest_35 : decode cX12_greatest 35 = .ok (.istore_n 2, 1) := by decide +kernel
theorem dX12_greatest_36 : decode cX12_greatest 36 = .ok (.iload_n 2, 1) := by decide +kernel
theorem dX12_greatest_37 : decode cX12_greatest 37 = .ok (.ifCond .lt 18, 3) := by decide +kernel
theorem dX12_greatest_40 : decode cX12_greatest 40 = .ok (.aload_n 0, 1) := by decide +kernel
theorem dX12_greatest_41 : decode cX12_greatest 41 = .ok (.iload_n 2, 1) := by decide +kernel
theorem dX12_greatest_42 : decode cX12_greatest 42 = .ok (.invokevirtual 277, 3) := by decide +kernel
theorem dX12_greatest_45 : decode cX12_greatest 45 = .ok (.iload_n 1, 1) := by decide +kernel
theorem dX12_greatest_46 : decode cX12_greatest 46 = .ok (.if_icmp .le 9, 3) := by decide +kernel
theorem dX12_greatest_49 : decode cX12_greatest 49 = .ok (.iinc 2 (-1), 3) := by decide +kernel
theorem dX12_greatest_52 : decode cX12_greatest 52 = .ok (.goto (-16), 3) := by decide +kernel
theorem dX12_greatest_55 : decode cX12_greatest 55 = .ok (.iload_n 2, 1) := by decide +kernel
theorem dX12_greatest_56 : decode cX12_greatest 56 = .ok (.ifCond .ge 9, 3) := by decide +kernel
theorem dX12_greatest_59 : decode cX12_greatest 59 = .ok (.ldc2_w 346, 3) := by decide +kernel
theorem dX12_greatest_62 : decode cX12_greatest 62 = .ok (.goto 5, 3) := by decide +kernel
theorem dX12_greatest_65 : decode cX12_greatest 65 = .ok (.iload_n 2, 1) := by decide +kernel
theorem dX12_greatest_66 : decode cX12_greatest 66 = .ok (.i2l, 1) := by decide +kernel
theorem dX12_greatest_67 : decode cX12_greatest 67 = .ok (.lreturn, 1) := by decide +kernel
theorem dX12_out_0 : decode cX12_out 0 = .ok (.aload_n 0, 1) := by decide +kernel
theorem dX12_out_1 : decode cX12_out 1 = .ok (.iconst 0, 1) := by decide +kernel
theorem dX12_out_2 : decode cX12_out 2 = .ok (.putfield 86, 3) := by decide +kernel
theorem dX12_out_5 : decode cX12_out 5 = .ok (.iload_n 1, 1) := by decide +kernel
theorem dX12_out_6 : decode cX12_out 6 = .ok (.i2l, 1) := by decide +kernel
theorem dX12_out_7 : decode cX12_out 7 = .ok (.lconst 0, 1) := by decide +kernel
theorem dX12_out_8 : decode cX12_out 8 = .ok (.ldc2_w 321, 3) := by decide +kernel
theorem dX12_out_11 : decode cX12_out 11 = .ok (.invokestatic 96, 3) := by decide +kernel
theorem dX12_out_14 : decode cX12_out 14 = .ok (.ifCond .eq 15, 3) := by decide +kernel
theorem dX12_out_17 : decode cX12_out 17 = .ok (.iload_n 2, 1) := by decide +kernel
theorem dX12_out_18 : decode cX12_out 18 = .ok (.i2l, 1) := by decide +kernel
theorem dX12_out_19 : decode cX12_out 19 = .ok (.lconst 1, 1) := by decide +kernel
theorem dX12_out_20 : decode cX12_out 20 = .ok (.ldc2_w 348, 3) := by decide +kernel
theorem dX12_out_23 : decode cX12_out 23 = .ok (.invokestatic 96, 3) := by decide +kernel
theorem dX12_out_26 : decode cX12_out 26 = .ok (.ifCond .ne 7, 3) := by decide +kernel
theorem dX12_out_29 : decode cX12_out 29 = .ok (.ldc2_w 106, 3) := by decide +kernel
theorem dX12_out_32 : decode cX12_out 32 = .ok (.lreturn, 1) := by decide +kernel
theorem dX12_out_33 : decode cX12_out 33 = .ok (.aload_n 0, 1) := by decide +kernel
theorem dX12_out_34 : decode cX12_out 34 = .ok (.getfield 225, 3) := by decide +kernel
theorem dX12_out_37 : decode cX12_out 37 = .ok (.ifCond .ne 7, 3) := by decide +kernel
theorem dX12_out_40 : decode cX12_out 40 = .ok (.ldc2_w 326, 3) := by decide +kernel
theorem dX12_out_43 : decode cX12_out 43 = .ok (.lreturn, 1) := by decide +kernel
theorem dX12_out_44 : decode cX12_out 44 = .ok (.iconst 0, 1) := by decide +kernel
theorem dX12_out_45 : decode cX12_out 45 = .ok (.istore_n 3, 1) := by decide +kernel
theorem dX12_out_46 : decode cX12_out 46 = .ok (.iload_n 3, 1) := by decide +kernel
theorem dX12_out_47 : decode cX12_out 47 = .ok (.bipush 16, 2) := by decide +kernel
theorem dX12_out_49 : decode cX12_out 49 = .ok (.if_icmp .ge 78, 3) := by decide +kernel
theorem dX12_out_52 : decode cX12_out 52 = .ok (.iconst 1, 1) := by decide +kernel
theorem dX12_out_53 : decode cX12_out 53 = .ok (.istore 4, 2) := by decide +kernel
theorem dX12_out_55 : decode cX12_out 55 = .ok (.iconst 1, 1) := by decide +kernel
theorem dX12_out_56 : decode cX12_out 56 = .ok (.istore 5, 2) := by decide +kernel
theorem dX12_out_58 : decode cX12_out 58 = .ok (.iload 5, 2) := by decide +kernel
theorem dX12_out_60 : decode cX12_out 60 = .ok (.iload_n 2, 1) := by decide +kernel
theorem dX12_out_61 : decode cX12_out 61 = .ok (.if_icmp .gt 52, 3) := by decide +kernel
theorem dX12_out_64 : decode cX12_out 64 = .ok (.iload 4, 2) := by decide +kernel
theorem dX12_out_66 : decode cX12_out 66 = .ok (.ifCond .eq 38, 3) := by decide +kernel
theorem dX12_out_69 : decode cX12_out 69 = .ok (.aload_n 0, 1) := by decide +kernel
theorem dX12_out_70 : decode cX12_out 70 = .ok (.getfield 33, 3) := by decide +kernel
theorem dX12_out_73 : decode cX12_out 73 = .ok (.iconst 2, 1) := by decide +kernel
theorem dX12_out_74 : decode cX12_out 74 = .ok (.iaload, 1) := by decide +kernel
theorem dX12_out_75 : decode cX12_out 75 = .ok (.iload 5, 2) := by decide +kernel
theorem dX12_out_77 : decode cX12_out 77 = .ok (.iload_n 1, 1) := by decide +kernel
theorem dX12_out_78 : decode cX12_out 78 = .ok (.iload_n 3, 1) := by decide +kernel
theorem dX12_out_79 : decode cX12_out 79 = .ok (.isub, 1) := by decide +kernel
theorem dX12_out_80 : decode cX12_out 80 = .ok (.imul, 1) := by decide +kernel
theorem dX12_out_81 : decode cX12_out 81 = .ok (.iadd, 1) := by decide +kernel
theorem dX12_out_82 : decode cX12_out 82 = .ok (.i2l, 1) := by decide +kernel
theorem dX12_out_83 : decode cX12_out 83 = .ok (.aload_n 0, 1) := by decide +kernel
theorem dX12_out_84 : decode cX12_out 84 = .ok (.invokevirtual 280, 3) := by decide +kernel
theorem dX12_out_87 : decode cX12_out 87 = .ok (.ineg, 1) := by decide +kernel
theorem dX12_out_88 : decode cX12_out 88 = .ok (.i2l, 1) := by decide +kernel
theorem dX12_out_89 : decode cX12_out 89 = .ok (.aload_n 0, 1) := by decide +kernel
theorem dX12_out_90 : decode cX12_out 90 = .ok (.invokevirtual 280, 3) := by decide +kernel
theorem dX12_out_93 : decode cX12_out 93 = .ok (.i2l, 1) := by decide +kernel
theorem dX12_out_94 : decode cX12_out 94 = .ok (.invokestatic 96, 3) := by decide +kernel
theorem dX12_out_97 : decode cX12_out 97 = .ok (.ifCond .eq 7, 3) := by decide +kernel
theorem dX12_out_100 : decode cX12_out 100 = .ok (.iconst 1, 1) := by decide +kernel
theorem dX12_out_101 : decode cX12_out 101 = .ok (.goto 4, 3) := by decide +kernel
theorem dX12_out_104 : decode cX12_out 104 = .ok (.iconst 0, 1) := by decide +kernel
theorem dX12_out_105 : decode cX12_out 105 = .ok (.istore 4, 2) := by decide +kernel
theorem dX12_out_107 : decode cX12_out 107 = .ok (.iinc 5 1, 3) := by decide +kernel
theorem dX12_out_110 : decode cX12_out 110 = .ok (.goto (-52), 3) := by decide +kernel
theorem dX12_out_113 : decode cX12_out 113 = .ok (.iload 4, 2) := by decide +kernel
theorem dX12_out_115 : decode cX12_out 115 = .ok (.ifCond .eq 6, 3) := by decide +kernel
theorem dX12_out_118 : decode cX12_out 118 = .ok (.iload_n 3, 1) := by decide +kernel
theorem dX12_out_119 : decode cX12_out 119 = .ok (.i2l, 1) := by decide +kernel
theorem dX12_out_120 : decode cX12_out 120 = .ok (.lreturn, 1) := by decide +kernel
theorem dX12_out_121 : decode cX12_out 121 = .ok (.iinc 3 1, 3) := by decide +kernel
theorem dX12_out_124 : decode cX12_out 124 = .ok (.goto (-78), 3) := by decide +kernel
theorem dX12_out_127 : decode cX12_out 127 = .ok (.ldc2_w 346, 3) := by decide +kernel
theorem dX12_out_130 : decode cX12_out 130 = .ok (.lreturn, 1) := by decide +kernel
theorem dX12_wraps_0 : decode cX12_wraps 0 = .ok (.aload_n 0, 1) := by decide +kernel
theorem dX12_wraps_1 : decode cX12_wraps 1 = .ok (.iconst 0, 1) := by decide +kernel
theorem dX12_wraps_2 : decode cX12_wraps 2 = .ok (.putfield 86, 3) := by decide +kernel
theorem dX12_wraps_5 : decode cX12_wraps 5 = .ok (.iload_n 1, 1) := by decide +kernel
theorem dX12_wraps_6 : decode cX12_wraps 6 = .ok (.i2l, 1) := by decide +kernel
theorem dX12_wraps_7 : decode cX12_wraps 7 = .ok (.lconst 1, 1) := by decide +kernel
theorem dX12_wraps_8 : decode cX12_wraps 8 = .ok (.ldc2_w 350, 3) := by decide +kernel
theorem dX12_wraps_11 : decode cX12_wraps 11 = .ok (.invokestatic 96, 3) := by decide +kernel
theorem dX12_wraps_14 : decode cX12_wraps 14 = .ok (.ifCond .eq 15, 3) := by decide +kernel
theorem dX12_wraps_17 : decode cX12_wraps 17 = .ok (.iload_n 2, 1) := by decide +kernel
theorem dX12_wraps_18 : decode cX12_wraps 18 = .ok (.i2l, 1) := by decide +kernel
theorem dX12_wraps_19 : decode cX12_wraps 19 = .ok (.lconst 1, 1) := by decide +kernel
theorem dX12_wraps_20 : decode cX12_wraps 20 = .ok (.ldc2_w 352, 3) := by decide +kernel
theorem dX12_wraps_23 : decode cX12_wraps 23 = .ok (.invokestatic 96, 3) := by decide +kernel
theorem dX12_wraps_26 : decode cX12_wraps 26 = .ok (.ifCond .ne 7, 3) := by decide +kernel
theorem dX12_wraps_29 : decode cX12_wraps 29 = .ok (.ldc2_w 106, 3) := by decide +kernel
theorem dX12_wraps_32 : decode cX12_wraps 32 = .ok (.lreturn, 1) := by decide +kernel
theorem dX12_wraps_33 : decode cX12_wraps 33 = .ok (.iload_n 2, 1) := by decide +kernel
theorem dX12_wraps_34 : decode cX12_wraps 34 = .ok (.istore_n 3, 1) := by decide +kernel
theorem dX12_wraps_35 : decode cX12_wraps 35 = .ok (.iconst 0, 1) := by decide +kernel
theorem dX12_wraps_36 : decode cX12_wraps 36 = .ok (.istore 4, 2) := by decide +kernel
theorem dX12_wraps_38 : decode cX12_wraps 38 = .ok (.iload 4, 2) := by decide +kernel
theorem dX12_wraps_40 : decode cX12_wraps 40 = .ok (.bipush 10, 2) := by decide +kernel
theorem dX12_wraps_42 : decode cX12_wraps 42 = .ok (.if_icmp .ge 22, 3) := by decide +kernel
theorem dX12_wraps_45 : decode cX12_wraps 45 = .ok (.iload_n 3, 1) := by decide +kernel
theorem dX12_wraps_46 : decode cX12_wraps 46 = .ok (.iload_n 1, 1) := by decide +kernel
theorem dX12_wraps_47 : decode cX12_wraps 47 = .ok (.if_icmp .lt 7, 3) := by decide +kernel
theorem dX12_wraps_50 : decode cX12_wraps 50 = .ok (.iload 4, 2) := by decide +kernel
theorem dX12_wraps_52 : decode cX12_wraps 52 = .ok (.i2l, 1) := by decide +kernel
theorem dX12_wraps_53 : decode cX12_wraps 53 = .ok (.lreturn, 1) := by decide +kernel
theorem dX12_wraps_54 : decode cX12_wraps 54 = .ok (.iload_n 3, 1) := by decide +kernel
theorem dX12_wraps_55 : decode cX12_wraps 55 = .ok (.iconst 3, 1) := by decide +kernel
theorem dX12_wraps_56 : decode cX12_wraps 56 = .ok (.imul, 1) := by decide +kernel
theorem dX12_wraps_57 : decode cX12_wraps 57 = .ok (.istore_n 3, 1) := by decide +kernel
theorem dX12_wraps_58 : decode cX12_wraps 58 = .ok (.iinc 4 1, 3) := by decide +kernel
theorem dX12_wraps_61 : decode cX12_wraps 61 = .ok (.goto (-23), 3) := by decide +kernel
theorem dX12_wraps_64 : decode cX12_wraps 64 = .ok (.ldc2_w 346, 3) := by decide +kernel
theorem dX12_wraps_67 : decode cX12_wraps 67 = .ok (.lreturn, 1) := by decide +kernel
theorem dX12_doAct_0 : decode cX12_doAct 0 = .ok (.aload_n 0, 1) := by decide +kernel
theorem dX12_doAct_1 : decode cX12_doAct 1 = .ok (.iload_n 1, 1) := by decide +kernel
theorem dX12_doAct_2 : decode cX12_doAct 2 = .ok (.iconst 0, 1) := by decide +kernel
theorem dX12_doAct_3 : decode cX12_doAct 3 = .ok (.invokevirtual 243, 3) := by decide +kernel
theorem dX12_doAct_6 : decode cX12_doAct 6 = .ok (.istore_n 2, 1) := by decide +kernel
theorem dX12_doAct_7 : decode cX12_doAct 7 = .ok (.aload_n 0, 1) := by decide +kernel
theorem dX12_doAct_8 : decode cX12_doAct 8 = .ok (.ldc 28, 2) := by decide +kernel
theorem dX12_doAct_10 : decode cX12_doAct 10 = .ok (.putfield 354, 3) := by decide +kernel
theorem dX12_doAct_13 : decode cX12_doAct 13 = .ok (.aload_n 0, 1) := by decide +kernel
theorem dX12_doAct_14 : decode cX12_doAct 14 = .ok (.ldc 28, 2) := by decide +kernel
theorem dX12_doAct_16 : decode cX12_doAct 16 = .ok (.putfield 357, 3) := by decide +kernel
theorem dX12_doAct_19 : decode cX12_doAct 19 = .ok (.iload_n 2, 1) := by decide +kernel
theorem dX12_doAct_20 : decode cX12_doAct 20 = .ok (.bipush 6, 2) := by decide +kernel
theorem dX12_doAct_22 : decode cX12_doAct 22 = .ok (.if_icmp .ne 10, 3) := by decide +kernel
theorem dX12_doAct_25 : decode cX12_doAct 25 = .ok (.aload_n 0, 1) := by decide +kernel
theorem dX12_doAct_26 : decode cX12_doAct 26 = .ok (.invokevirtual 335, 3) := by decide +kernel
theorem dX12_doAct_29 : decode cX12_doAct 29 = .ok (.goto 123, 3) := by decide +kernel
theorem dX12_doAct_32 : decode cX12_doAct 32 = .ok (.iload_n 2, 1) := by decide +kernel
theorem dX12_doAct_33 : decode cX12_doAct 33 = .ok (.iconst 4, 1) := by decide +kernel
theorem dX12_doAct_34 : decode cX12_doAct 34 = .ok (.if_icmp .eq 8, 3) := by decide +kernel
theorem dX12_doAct_37 : decode cX12_doAct 37 = .ok (.iload_n 2, 1) := by decide +kernel
theorem dX12_doAct_38 : decode cX12_doAct 38 = .ok (.iconst 5, 1) := by decide +kernel
theorem dX12_doAct_39 : decode cX12_doAct 39 = .ok (.if_icmp .ne 48, 3) := by decide +kernel
theorem dX12_doAct_42 : decode cX12_doAct 42 = .ok (.aload_n 0, 1) := by decide +kernel
theorem dX12_doAct_43 : decode cX12_doAct 43 = .ok (.iload_n 2, 1) := by decide +kernel
theorem dX12_doAct_44 : decode cX12_doAct 44 = .ok (.iconst 5, 1) := by decide +kernel
theorem dX12_doAct_45 : decode cX12_doAct 45 = .ok (.if_icmp .ne 7, 3) := by decide +kernel
theorem dX12_doAct_48 : decode cX12_doAct 48 = .ok (.iconst 1, 1) := by decide +kernel
theorem dX12_doAct_49 : decode cX12_doAct 49 = .ok (.goto 4, 3) := by decide +kernel
theorem dX12_doAct_52 : decode cX12_doAct 52 = .ok (.iconst 0, 1) := by decide +kernel
theorem dX12_doAct_53 : decode cX12_doAct 53 = .ok (.aload_n 0, 1) := by decide +kernel
theorem dX12_doAct_54 : decode cX12_doAct 54 = .ok (.iload_n 1, 1) := by decide +kernel
theorem dX12_doAct_55 : decode cX12_doAct 55 = .ok (.iconst 1, 1) := by decide +kernel
theorem dX12_doAct_56 : decode cX12_doAct 56 = .ok (.invokevirtual 243, 3) := by decide +kernel
theorem dX12_doAct_59 : decode cX12_doAct 59 = .ok (.aload_n 0, 1) := by decide +kernel
theorem dX12_doAct_60 : decode cX12_doAct 60 = .ok (.getfield 250, 3) := by decide +kernel
theorem dX12_doAct_63 : decode cX12_doAct 63 = .ok (.invokevirtual 299, 3) := by decide +kernel
theorem dX12_doAct_66 : decode cX12_doAct 66 = .ok (.istore_n 3, 1) := by decide +kernel
theorem dX12_doAct_67 : decode cX12_doAct 67 = .ok (.aload_n 0, 1) := by decide +kernel
theorem dX12_doAct_68 : decode cX12_doAct 68 = .ok (.iload_n 3, 1) := by decide +kernel
theorem dX12_doAct_69 : decode cX12_doAct 69 = .ok (.ifCond .ge 7, 3) := by decide +kernel
theorem dX12_doAct_72 : decode cX12_doAct 72 = .ok (.iconst 0, 1) := by decide +kernel
theorem dX12_doAct_73 : decode cX12_doAct 73 = .ok (.goto 4, 3) := by decide +kernel
theorem dX12_doAct_76 : decode cX12_doAct 76 = .ok (.iload_n 3, 1) := by decide +kernel
theorem dX12_doAct_77 : decode cX12_doAct 77 = .ok (.putfield 354, 3) := by decide +kernel
theorem dX12_doAct_80 : decode cX12_doAct 80 = .ok (.aload_n 0, 1) := by decide +kernel
theorem dX12_doAct_81 : decode cX12_doAct 81 = .ok (.invokevirtual 283, 3) := by decide +kernel
theorem dX12_doAct_84 : decode cX12_doAct 84 = .ok (.goto 68, 3) := by decide +kernel
theorem dX12_doAct_87 : decode cX12_doAct 87 = .ok (.iconst 0, 1) := by decide +kernel
theorem dX12_doAct_88 : decode cX12_doAct 88 = .ok (.istore_n 3, 1) := by decide +kernel
theorem dX12_doAct_89 : decode cX12_doAct 89 = .ok (.iload_n 3, 1) := by decide +kernel
theorem dX12_doAct_90 : decode cX12_doAct 90 = .ok (.aload_n 0, 1) := by decide +kernel
theorem dX12_doAct_91 : decode cX12_doAct 91 = .ok (.iload_n 1, 1) := by decide +kernel
theorem dX12_doAct_92 : decode cX12_doAct 92 = .ok (.iconst 1, 1) := by decide +kernel
theorem dX12_doAct_93 : decode cX12_doAct 93 = .ok (.invokevirtual 243, 3) := by decide +kernel
theorem dX12_doAct_96 : decode cX12_doAct 96 = .ok (.if_icmp .ge 56, 3) := by decide +kernel
theorem dX12_doAct_99 : decode cX12_doAct 99 = .ok (.aload_n 0, 1) := by decide +kernel
theorem dX12_doAct_100 : decode cX12_doAct 100 = .ok (.invokevirtual 286, 3) := by decide +kernel
theorem dX12_doAct_103 : decode cX12_doAct 103 = .ok (.ifCond .ne 49, 3) := by decide +kernel
theorem dX12_doAct_106 : decode cX12_doAct 106 = .ok (.aload_n 0, 1) := by decide +kernel
theorem dX12_doAct_107 : decode cX12_doAct 107 = .ok (.iload_n 2, 1) := by decide +kernel
theorem dX12_doAct_108 : decode cX12_doAct 108 = .ok (.iconst 3, 1) := by decide +kernel
theorem dX12_doAct_109 : decode cX12_doAct 109 = .ok (.if_icmp .ne 7, 3) := by decide +kernel
theorem dX12_doAct_112 : decode cX12_doAct 112 = .ok (.iconst 1, 1) := by decide +kernel
theorem dX12_doAct_113 : decode cX12_doAct 113 = .ok (.goto 4, 3) := by decide +kernel
theorem dX12_doAct_116 : decode cX12_doAct 116 = .ok (.iconst 0, 1) := by decide +kernel
theorem dX12_doAct_117 : decode cX12_doAct 117 = .ok (.aload_n 0, 1) := by decide +kernel
theorem dX12_doAct_118 : decode cX12_doAct 118 = .ok (.iload_n 1, 1) := by decide +kernel
theorem dX12_doAct_119 : decode cX12_doAct 119 = .ok (.iconst 2, 1) := by decide +kernel
theorem dX12_doAct_120 : decode cX12_doAct 120 = .ok (.invokevirtual 243, 3) := by decide +kernel
theorem dX12_doAct_123 : decode cX12_doAct 123 = .ok (.aload_n 0, 1) := by decide +kernel
theorem dX12_doAct_124 : decode cX12_doAct 124 = .ok (.iload_n 1, 1) := by decide +kernel
theorem dX12_doAct_125 : decode cX12_doAct 125 = .ok (.iconst 3, 1) := by decide +kernel
theorem dX12_doAct_126 : decode cX12_doAct 126 = .ok (.invokevirtual 243, 3) := by decide +kernel
theorem dX12_doAct_129 : decode cX12_doAct 129 = .ok (.aload_n 0, 1) := by decide +kernel
theorem dX12_doAct_130 : decode cX12_doAct 130 = .ok (.iload_n 1, 1) := by decide +kernel
theorem dX12_doAct_131 : decode cX12_doAct 131 = .ok (.iconst 4, 1) := by decide +kernel
theorem dX12_doAct_132 : decode cX12_doAct 132 = .ok (.invokevirtual 243, 3) := by decide +kernel
theorem dX12_doAct_135 : decode cX12_doAct 135 = .ok (.invokevirtual 328, 3) := by decide +kernel
theorem dX12_doAct_138 : decode cX12_doAct 138 = .ok (.aload_n 0, 1) := by decide +kernel
theorem dX12_doAct_139 : decode cX12_doAct 139 = .ok (.aload_n 0, 1) := by decide +kernel
theorem dX12_doAct_140 : decode cX12_doAct 140 = .ok (.getfield 265, 3) := by decide +kernel
theorem dX12_doAct_143 : decode cX12_doAct 143 = .ok (.putfield 357, 3) := by decide +kernel
theorem dX12_doAct_146 : decode cX12_doAct 146 = .ok (.iinc 3 1, 3) := by decide +kernel
theorem dX12_doAct_149 : decode cX12_doAct 149 = .ok (.goto (-60), 3) := by decide +kernel
theorem dX12_doAct_152 : decode cX12_doAct 152 = .ok (.return_, 1) := by decide +kernel
theorem dX12_told_0 : decode cX12_told 0 = .ok (.aload_n 0, 1) := by decide +kernel
theorem dX12_told_1 : decode cX12_told 1 = .ok (.iconst 0, 1) := by decide +kernel
theorem dX12_told_2 : decode cX12_told 2 = .ok (.putfield 86, 3) := by decide +kernel
theorem dX12_told_5 : decode cX12_told 5 = .ok (.aload_n 0, 1) := by decide +kernel
theorem dX12_told_6 : decode cX12_told 6 = .ok (.getfield 225, 3) := by decide +kernel
theorem dX12_told_9 : decode cX12_told 9 = .ok (.ifCond .ne 7, 3) := by decide +kernel
theorem dX12_told_12 : decode cX12_told 12 = .ok (.ldc2_w 326, 3) := by decide +kernel
theorem dX12_told_15 : decode cX12_told 15 = .ok (.lreturn, 1) := by decide +kernel
theorem dX12_told_16 : decode cX12_told 16 = .ok (.iload_n 1, 1) := by decide +kernel
theorem dX12_told_17 : decode cX12_told 17 = .ok (.iconst (-1), 1) := by decide +kernel
theorem dX12_told_18 : decode cX12_told 18 = .ok (.if_icmp .eq 11, 3) := by decide +kernel
theorem dX12_told_21 : decode cX12_told 21 = .ok (.aload_n 0, 1) := by decide +kernel
theorem dX12_told_22 : decode cX12_told 22 = .ok (.iload_n 1, 1) := by decide +kernel
theorem dX12_told_23 : decode cX12_told 23 = .ok (.invokevirtual 238, 3) := by decide +kernel
theorem dX12_told_26 : decode cX12_told 26 = .ok (.ifCond .eq 15, 3) := by decide +kernel
theorem dX12_told_29 : decode cX12_told 29 = .ok (.iload_n 2, 1) := by decide +kernel
theorem dX12_told_30 : decode cX12_told 30 = .ok (.i2l, 1) := by decide +kernel
theorem dX12_told_31 : decode cX12_told 31 = .ok (.lconst 0, 1) := by decide +kernel
theorem dX12_told_32 : decode cX12_told 32 = .ok (.ldc2_w 94, 3) := by decide +kernel
theorem dX12_told_35 : decode cX12_told 35 = .ok (.invokestatic 96, 3) := by decide +kernel
theorem dX12_told_38 : decode cX12_told 38 = .ok (.ifCond .ne 7, 3) := by decide +kernel
theorem dX12_told_41 : decode cX12_told 41 = .ok (.ldc2_w 106, 3) := by decide +kernel
theorem dX12_told_44 : decode cX12_told 44 = .ok (.lreturn, 1) := by decide +kernel
theorem dX12_told_45 : decode cX12_told 45 = .ok (.aload_n 0, 1) := by decide +kernel
theorem dX12_told_46 : decode cX12_told 46 = .ok (.invokevirtual 232, 3) := by decide +kernel
theorem dX12_told_49 : decode cX12_told 49 = .ok (.aload_n 0, 1) := by decide +kernel
theorem dX12_told_50 : decode cX12_told 50 = .ok (.ldc 28, 2) := by decide +kernel
theorem dX12_told_52 : decode cX12_told 52 = .ok (.putfield 354, 3) := by decide +kernel
theorem dX12_told_55 : decode cX12_told 55 = .ok (.aload_n 0, 1) := by decide +kernel
theorem dX12_told_56 : decode cX12_told 56 = .ok (.ldc 28, 2) := by decide +kernel
theorem dX12_told_58 : decode cX12_told 58 = .ok (.putfield 357, 3) := by decide +kernel
theorem dX12_told_61 : decode cX12_told 61 = .ok (.iconst 0, 1) := by decide +kernel
theorem dX12_told_62 : decode cX12_told 62 = .ok (.istore_n 3, 1) := by decide +kernel
theorem dX12_told_63 : decode cX12_told 63 = .ok (.iload_n 3, 1) := by decide +kernel
theorem dX12_told_64 : decode cX12_told 64 = .ok (.iload_n 1, 1) := by decide +kernel
theorem dX12_told_65 : decode cX12_told 65 = .ok (.if_icmp .gt 14, 3) := by decide +kernel
theorem dX12_told_68 : decode cX12_told 68 = .ok (.aload_n 0, 1) := by decide +kernel
theorem dX12_told_69 : decode cX12_told 69 = .ok (.iload_n 3, 1) := by decide +kernel
theorem dX12_told_70 : decode cX12_told 70 = .ok (.invokevirtual 360, 3) := by decide +kernel
theorem dX12_told_73 : decode cX12_told 73 = .ok (.iinc 3 1, 3) := by decide +kernel
theorem dX12_told_76 : decode cX12_told 76 = .ok (.goto (-13), 3) := by decide +kernel
theorem dX12_told_79 : decode cX12_told 79 = .ok (.iload_n 2, 1) := by decide +kernel
theorem dX12_told_80 : decode cX12_told 80 = .ok (.bipush 6, 2) := by decide +kernel
theorem dX12_told_82 : decode cX12_told 82 = .ok (.if_icmp .ge 12, 3) := by decide +kernel
theorem dX12_told_85 : decode cX12_told 85 = .ok (.aload_n 0, 1) := by decide +kernel
theorem dX12_told_86 : decode cX12_told 86 = .ok (.iload_n 2, 1) := by decide +kernel
theorem dX12_told_87 : decode cX12_told 87 = .ok (.invokevirtual 268, 3) := by decide +kernel
theorem dX12_told_90 : decode cX12_told 90 = .ok (.i2l, 1) := by decide +kernel
theorem dX12_told_91 : decode cX12_told 91 = .ok (.goto 22, 3) := by decide +kernel
theorem dX12_told_94 : decode cX12_told 94 = .ok (.iload_n 2, 1) := by decide +kernel
theorem dX12_told_95 : decode cX12_told 95 = .ok (.bipush 6, 2) := by decide +kernel
theorem dX12_told_97 : decode cX12_told 97 = .ok (.if_icmp .ne 11, 3) := by decide +kernel
theorem dX12_told_100 : decode cX12_told 100 = .ok (.aload_n 0, 1) := by decide +kernel
theorem dX12_told_101 : decode cX12_told 101 = .ok (.getfield 354, 3) := by decide +kernel
theorem dX12_told_104 : decode cX12_told 104 = .ok (.i2l, 1) := by decide +kernel
theorem dX12_told_105 : decode cX12_told 105 = .ok (.goto 8, 3) := by decide +kernel
theorem dX12_told_108 : decode cX12_told 108 = .ok (.aload_n 0, 1) := by decide +kernel
theorem dX12_told_109 : decode cX12_told 109 = .ok (.getfield 357, 3) := by decide +kernel
theorem dX12_told_112 : decode cX12_told 112 = .ok (.i2l, 1) := by decide +kernel
theorem dX12_told_113 : decode cX12_told 113 = .ok (.lreturn, 1) := by decide +kernel
theorem dX12_isThrow_0 : decode cX12_isThrow 0 = .ok (.aload_n 0, 1) := by decide +kernel
theorem dX12_isThrow_1 : decode cX12_isThrow 1 = .ok (.iload_n 1, 1) := by decide +kernel
theorem dX12_isThrow_2 : decode cX12_isThrow 2 = .ok (.iconst 0, 1) := by decide +kernel
theorem dX12_isThrow_3 : decode cX12_isThrow 3 = .ok (.invokevirtual 243, 3) := by decide +kernel
theorem dX12_isThrow_6 : decode cX12_isThrow 6 = .ok (.iconst 4, 1) := by decide +kernel
theorem dX12_isThrow_7 : decode cX12_isThrow 7 = .ok (.if_icmp .eq 13, 3) := by decide +kernel
theorem dX12_isThrow_10 : decode cX12_isThrow 10 = .ok (.aload_n 0, 1) := by decide +kernel
theorem dX12_isThrow_11 : decode cX12_isThrow 11 = .ok (.iload_n 1, 1) := by decide +kernel
theorem dX12_isThrow_12 : decode cX12_isThrow 12 = .ok (.iconst 0, 1) := by decide +kernel
theorem dX12_isThrow_13 : decode cX12_isThrow 13 = .ok (.invokevirtual 243, 3) := by decide +kernel
theorem dX12_isThrow_16 : decode cX12_isThrow 16 = .ok (.iconst 5, 1) := by decide +kernel
theorem dX12_isThrow_17 : decode cX12_isThrow 17 = .ok (.if_icmp .ne 7, 3) := by decide +kernel
theorem dX12_isThrow_20 : decode cX12_isThrow 20 = .ok (.iconst 1, 1) := by decide +kernel
theorem dX12_isThrow_21 : decode cX12_isThrow 21 = .ok (.goto 4, 3) := by decide +kernel
theorem dX12_isThrow_24 : decode cX12_isThrow 24 = .ok (.iconst 0, 1) := by decide +kernel
theorem dX12_isThrow_25 : decode cX12_isThrow 25 = .ok (.ireturn, 1) := by decide +kernel
theorem dX12_all_0 : decode cX12_all 0 = .ok (.aload_n 0, 1) := by decide +kernel
theorem dX12_all_1 : decode cX12_all 1 = .ok (.iconst 0, 1) := by decide +kernel
theorem dX12_all_2 : decode cX12_all 2 = .ok (.putfield 86, 3) := by decide +kernel
theorem dX12_all_5 : decode cX12_all 5 = .ok (.iload_n 1, 1) := by decide +kernel
theorem dX12_all_6 : decode cX12_all 6 = .ok (.i2l, 1) := by decide +kernel
theorem dX12_all_7 : decode cX12_all 7 = .ok (.lconst 0, 1) := by decide +kernel
theorem dX12_all_8 : decode cX12_all 8 = .ok (.lconst 1, 1) := by decide +kernel
theorem dX12_all_9 : decode cX12_all 9 = .ok (.invokestatic 96, 3) := by decide +kernel
theorem dX12_all_12 : decode cX12_all 12 = .ok (.ifCond .ne 7, 3) := by decide +kernel
theorem dX12_all_15 : decode cX12_all 15 = .ok (.ldc2_w 106, 3) := by decide +kernel
theorem dX12_all_18 : decode cX12_all 18 = .ok (.lreturn, 1) := by decide +kernel
theorem dX12_all_19 : decode cX12_all 19 = .ok (.aload_n 0, 1) := by decide +kernel
theorem dX12_all_20 : decode cX12_all 20 = .ok (.getfield 225, 3) := by decide +kernel
theorem dX12_all_23 : decode cX12_all 23 = .ok (.ifCond .ne 7, 3) := by decide +kernel
theorem dX12_all_26 : decode cX12_all 26 = .ok (.ldc2_w 326, 3) := by decide +kernel
theorem dX12_all_29 : decode cX12_all 29 = .ok (.lreturn, 1) := by decide +kernel
theorem dX12_all_30 : decode cX12_all 30 = .ok (.aload_n 0, 1) := by decide +kernel
theorem dX12_all_31 : decode cX12_all 31 = .ok (.invokevirtual 232, 3) := by decide +kernel
theorem dX12_all_34 : decode cX12_all 34 = .ok (.lconst 1, 1) := by decide +kernel
theorem dX12_all_35 : decode cX12_all 35 = .ok (.lstore_n 2, 1) := by decide +kernel
theorem dX12_all_36 : decode cX12_all 36 = .ok (.lconst 1, 1) := by decide +kernel
theorem dX12_all_37 : decode cX12_all 37 = .ok (.lstore 4, 2) := by decide +kernel
theorem dX12_all_39 : decode cX12_all 39 = .ok (.iconst 0, 1) := by decide +kernel
theorem dX12_all_40 : decode cX12_all 40 = .ok (.istore 6, 2) := by decide +kernel
theorem dX12_all_42 : decode cX12_all 42 = .ok (.iload 6, 2) := by decide +kernel
theorem dX12_all_44 : decode cX12_all 44 = .ok (.aload_n 0, 1) := by decide +kernel
theorem dX12_all_45 : decode cX12_all 45 = .ok (.getfield 19, 3) := by decide +kernel
theorem dX12_all_48 : decode cX12_all 48 = .ok (.iconst 5, 1) := by decide +kernel
theorem dX12_all_49 : decode cX12_all 49 = .ok (.iaload, 1) := by decide +kernel
theorem dX12_all_50 : decode cX12_all 50 = .ok (.if_icmp .ge 98, 3) := by decide +kernel
theorem dX12_all_53 : decode cX12_all 53 = .ok (.aload_n 0, 1) := by decide +kernel
theorem dX12_all_54 : decode cX12_all 54 = .ok (.iload 6, 2) := by decide +kernel
theorem dX12_all_56 : decode cX12_all 56 = .ok (.invokevirtual 363, 3) := by decide +kernel
theorem dX12_all_59 : decode cX12_all 59 = .ok (.ifCond .eq 77, 3) := by decide +kernel
theorem dX12_all_62 : decode cX12_all 62 = .ok (.lload_n 2, 1) := by decide +kernel
theorem dX12_all_63 : decode cX12_all 63 = .ok (.aload_n 0, 1) := by decide +kernel
theorem dX12_all_64 : decode cX12_all 64 = .ok (.aload_n 0, 1) := by decide +kernel
theorem dX12_all_65 : decode cX12_all 65 = .ok (.iload 6, 2) := by decide +kernel
theorem dX12_all_67 : decode cX12_all 67 = .ok (.iconst 0, 1) := by decide +kernel
theorem dX12_all_68 : decode cX12_all 68 = .ok (.invokevirtual 243, 3) := by decide +kernel
theorem dX12_all_71 : decode cX12_all 71 = .ok (.iconst 5, 1) := by decide +kernel
theorem dX12_all_72 : decode cX12_all 72 = .ok (.if_icmp .ne 7, 3) := by decide +kernel
theorem dX12_all_75 : decode cX12_all 75 = .ok (.iconst 1, 1) := by decide +kernel
theorem dX12_all_76 : decode cX12_all 76 = .ok (.goto 4, 3) := by decide +kernel
theorem dX12_all_79 : decode cX12_all 79 = .ok (.iconst 0, 1) := by decide +kernel
theorem dX12_all_80 : decode cX12_all 80 = .ok (.aload_n 0, 1) := by decide +kernel
theorem dX12_all_81 : decode cX12_all 81 = .ok (.iload 6, 2) := by decide +kernel
theorem dX12_all_83 : decode cX12_all 83 = .ok (.iconst 1, 1) := by decide +kernel
theorem dX12_all_84 : decode cX12_all 84 = .ok (.invokevirtual 243, 3) := by decide +kernel
theorem dX12_all_87 : decode cX12_all 87 = .ok (.invokevirtual 310, 3) := by decide +kernel
theorem dX12_all_90 : decode cX12_all 90 = .ok (.i2l, 1) := by decide +kernel
theorem dX12_all_91 : decode cX12_all 91 = .ok (.lmul, 1) := by decide +kernel
theorem dX12_all_92 : decode cX12_all 92 = .ok (.lstore 7, 2) := by decide +kernel
theorem dX12_all_94 : decode cX12_all 94 = .ok (.lload 4, 2) := by decide +kernel
theorem dX12_all_96 : decode cX12_all 96 = .ok (.aload_n 0, 1) := by decide +kernel
theorem dX12_all_97 : decode cX12_all 97 = .ok (.invokevirtual 314, 3) := by decide +kernel
theorem dX12_all_100 : decode cX12_all 100 = .ok (.i2l, 1) := by decide +kernel
theorem dX12_all_101 : decode cX12_all 101 = .ok (.lmul, 1) := by decide +kernel
theorem dX12_all_102 : decode cX12_all 102 = .ok (.lstore 9, 2) := by decide +kernel
theorem dX12_all_104 : decode cX12_all 104 = .ok (.lload 7, 2) := by decide +kernel
theorem dX12_all_106 : decode cX12_all 106 = .ok (.lload 9, 2) := by decide +kernel
theorem dX12_all_108 : decode cX12_all 108 = .ok (.iconst 0, 1) := by decide +kernel
theorem dX12_all_109 : decode cX12_all 109 = .ok (.invokestatic 340, 3) := by decide +kernel
theorem dX12_all_112 : decode cX12_all 112 = .ok (.lstore_n 2, 1) := by decide +kernel
theorem dX12_all_113 : decode cX12_all 113 = .ok (.lload 7, 2) := by decide +kernel
theorem dX12_all_115 : decode cX12_all 115 = .ok (.lload 9, 2) := by decide +kernel
theorem dX12_all_117 : decode cX12_all 117 = .ok (.iconst 1, 1) := by decide +kernel
theorem dX12_all_118 : decode cX12_all 118 = .ok (.invokestatic 340, 3) := by decide +kernel
theorem dX12_all_121 : decode cX12_all 121 = .ok (.lstore 4, 2) := by decide +kernel
theorem dX12_all_123 : decode cX12_all 123 = .ok (.lload 4, 2) := by decide +kernel
theorem dX12_all_125 : decode cX12_all 125 = .ok (.ldc2_w 366, 3) := by decide +kernel
theorem dX12_all_128 : decode cX12_all 128 = .ok (.lcmp, 1) := by decide +kernel
theorem dX12_all_129 : decode cX12_all 129 = .ok (.ifCond .le 7, 3) := by decide +kernel
theorem dX12_all_132 : decode cX12_all 132 = .ok (.ldc2_w 346, 3) := by decide +kernel
theorem dX12_all_135 : decode cX12_all 135 = .ok (.lreturn, 1) := by decide +kernel
theorem dX12_all_136 : decode cX12_all 136 = .ok (.aload_n 0, 1) := by decide +kernel
theorem dX12_all_137 : decode cX12_all 137 = .ok (.iload 6, 2) := by decide +kernel
theorem dX12_all_139 : decode cX12_all 139 = .ok (.invokevirtual 360, 3) := by decide +kernel
theorem dX12_all_142 : decode cX12_all 142 = .ok (.iinc 6 1, 3) := by decide +kernel
theorem dX12_all_145 : decode cX12_all 145 = .ok (.goto (-103), 3) := by decide +kernel
theorem dX12_all_148 : decode cX12_all 148 = .ok (.iload_n 1, 1) := by decide +kernel
theorem dX12_all_149 : decode cX12_all 149 = .ok (.ifCond .ne 7, 3) := by decide +kernel
theorem dX12_all_152 : decode cX12_all 152 = .ok (.lload_n 2, 1) := by decide +kernel
theorem dX12_all_153 : decode cX12_all 153 = .ok (.goto 5, 3) := by decide +kernel
theorem dX12_all_156 : decode cX12_all 156 = .ok (.lload 4, 2) := by decide +kernel
theorem dX12_all_158 : decode cX12_all 158 = .ok (.lreturn, 1) := by decide +kernel
theorem dX12_score_0 : decode cX12_score 0 = .ok (.aload_n 0, 1) := by decide +kernel
theorem dX12_score_1 : decode cX12_score 1 = .ok (.iconst 0, 1) := by decide +kernel
theorem dX12_score_2 : decode cX12_score 2 = .ok (.putfield 86, 3) := by decide +kernel
theorem dX12_score_5 : decode cX12_score 5 = .ok (.aload_n 0, 1) := by decide +kernel
theorem dX12_score_6 : decode cX12_score 6 = .ok (.getfield 225, 3) := by decide +kernel
theorem dX12_score_9 : decode cX12_score 9 = .ok (.ifCond .ne 7, 3) := by decide +kernel
theorem dX12_score_12 : decode cX12_score 12 = .ok (.ldc2_w 326, 3) := by decide +kernel
theorem dX12_score_15 : decode cX12_score 15 = .ok (.lreturn, 1) := by decide +kernel
theorem dX12_score_16 : decode cX12_score 16 = .ok (.aload_n 0, 1) := by decide +kernel
theorem dX12_score_17 : decode cX12_score 17 = .ok (.invokevirtual 232, 3) := by decide +kernel
theorem dX12_score_20 : decode cX12_score 20 = .ok (.lconst 0, 1) := by decide +kernel
theorem dX12_score_21 : decode cX12_score 21 = .ok (.lstore_n 1, 1) := by decide +kernel
theorem dX12_score_22 : decode cX12_score 22 = .ok (.iconst 0, 1) := by decide +kernel
theorem dX12_score_23 : decode cX12_score 23 = .ok (.istore_n 3, 1) := by decide +kernel
theorem dX12_score_24 : decode cX12_score 24 = .ok (.iload_n 3, 1) := by decide +kernel
theorem dX12_score_25 : decode cX12_score 25 = .ok (.aload_n 0, 1) := by decide +kernel
theorem dX12_score_26 : decode cX12_score 26 = .ok (.getfield 19, 3) := by decide +kernel
theorem dX12_score_29 : decode cX12_score 29 = .ok (.iconst 5, 1) := by decide +kernel
theorem dX12_score_30 : decode cX12_score 30 = .ok (.iaload, 1) := by decide +kernel
theorem dX12_score_31 : decode cX12_score 31 = .ok (.if_icmp .ge 55, 3) := by decide +kernel
theorem dX12_score_34 : decode cX12_score 34 = .ok (.lload_n 1, 1) := by decide +kernel
theorem dX12_score_35 : decode cX12_score 35 = .ok (.aload_n 0, 1) := by decide +kernel
theorem dX12_score_36 : decode cX12_score 36 = .ok (.iload_n 3, 1) := by decide +kernel
theorem dX12_score_37 : decode cX12_score 37 = .ok (.invokevirtual 363, 3) := by decide +kernel
theorem dX12_score_40 : decode cX12_score 40 = .ok (.ifCond .eq 32, 3) := by decide +kernel
theorem dX12_score_43 : decode cX12_score 43 = .ok (.aload_n 0, 1) := by decide +kernel
theorem dX12_score_44 : decode cX12_score 44 = .ok (.aload_n 0, 1) := by decide +kernel
theorem dX12_score_45 : decode cX12_score 45 = .ok (.iload_n 3, 1) := by decide +kernel
theorem dX12_score_46 : decode cX12_score 46 = .ok (.iconst 0, 1) := by decide +kernel
theorem dX12_score_47 : decode cX12_score 47 = .ok (.invokevirtual 243, 3) := by decide +kernel
theorem dX12_score_50 : decode cX12_score 50 = .ok (.iconst 5, 1) := by decide +kernel
theorem dX12_score_51 : decode cX12_score 51 = .ok (.if_icmp .ne 7, 3) := by decide +kernel
theorem dX12_score_54 : decode cX12_score 54 = .ok (.iconst 1, 1) := by decide +kernel
theorem dX12_score_55 : decode cX12_score 55 = .ok (.goto 4, 3) := by decide +kernel
theorem dX12_score_58 : decode cX12_score 58 = .ok (.iconst 0, 1) := by decide +kernel
theorem dX12_score_59 : decode cX12_score 59 = .ok (.aload_n 0, 1) := by decide +kernel
theorem dX12_score_60 : decode cX12_score 60 = .ok (.iload_n 3, 1) := by decide +kernel
theorem dX12_score_61 : decode cX12_score 61 = .ok (.iconst 1, 1) := by decide +kernel
theorem dX12_score_62 : decode cX12_score 62 = .ok (.invokevirtual 243, 3) := by decide +kernel
theorem dX12_score_65 : decode cX12_score 65 = .ok (.invokevirtual 368, 3) := by decide +kernel
theorem dX12_score_68 : decode cX12_score 68 = .ok (.i2l, 1) := by decide +kernel
theorem dX12_score_69 : decode cX12_score 69 = .ok (.goto 4, 3) := by decide +kernel
theorem dX12_score_72 : decode cX12_score 72 = .ok (.lconst 0, 1) := by decide +kernel
theorem dX12_score_73 : decode cX12_score 73 = .ok (.ladd, 1) := by decide +kernel
theorem dX12_score_74 : decode cX12_score 74 = .ok (.lstore_n 1, 1) := by decide +kernel
theorem dX12_score_75 : decode cX12_score 75 = .ok (.aload_n 0, 1) := by decide +kernel
theorem dX12_score_76 : decode cX12_score 76 = .ok (.iload_n 3, 1) := by decide +kernel
theorem dX12_score_77 : decode cX12_score 77 = .ok (.invokevirtual 360, 3) := by decide +kernel
theorem dX12_score_80 : decode cX12_score 80 = .ok (.iinc 3 1, 3) := by decide +kernel
theorem dX12_score_83 : decode cX12_score 83 = .ok (.goto (-59), 3) := by decide +kernel
theorem dX12_score_86 : decode cX12_score 86 = .ok (.lload_n 1, 1) := by decide +kernel
theorem dX12_score_87 : decode cX12_score 87 = .ok (.lreturn, 1) := by decide +kernel
theorem dX12_lookBest_0 : decode cX12_lookBest 0 = .ok (.iconst 0, 1) := by decide +kernel
theorem dX12_lookBest_1 : decode cX12_lookBest 1 = .ok (.istore_n 2, 1) := by decide +kernel
theorem dX12_lookBest_2 : decode cX12_lookBest 2 = .ok (.iload_n 2, 1) := by decide +kernel
theorem dX12_lookBest_3 : decode cX12_lookBest 3 = .ok (.iconst 2, 1) := by decide +kernel
theorem dX12_lookBest_4 : decode cX12_lookBest 4 = .ok (.if_icmp .ge 50, 3) := by decide +kernel
theorem dX12_lookBest_7 : decode cX12_lookBest 7 = .ok (.aload_n 0, 1) := by decide +kernel
theorem dX12_lookBest_8 : decode cX12_lookBest 8 = .ok (.iload_n 2, 1) := by decide +kernel
theorem dX12_lookBest_9 : decode cX12_lookBest 9 = .ok (.iconst 1, 1) := by decide +kernel
theorem dX12_lookBest_10 : decode cX12_lookBest 10 = .ok (.if_icmp .ne 7, 3) := by decide +kernel
theorem dX12_lookBest_13 : decode cX12_lookBest 13 = .ok (.iconst 1, 1) := by decide +kernel
theorem dX12_lookBest_14 : decode cX12_lookBest 14 = .ok (.goto 4, 3) := by decide +kernel
theorem dX12_lookBest_17 : decode cX12_lookBest 17 = .ok (.iconst 0, 1) := by decide +kernel
theorem dX12_lookBest_18 : decode cX12_lookBest 18 = .ok (.iload_n 1, 1) := by decide +kernel
theorem dX12_lookBest_19 : decode cX12_lookBest 19 = .ok (.invokevirtual 310, 3) := by decide +kernel
theorem dX12_lookBest_22 : decode cX12_lookBest 22 = .ok (.istore_n 3, 1) := by decide +kernel
theorem dX12_lookBest_23 : decode cX12_lookBest 23 = .ok (.iload_n 3, 1) := by decide +kernel
theorem dX12_lookBest_24 : decode cX12_lookBest 24 = .ok (.aload_n 0, 1) := by decide +kernel
theorem dX12_lookBest_25 : decode cX12_lookBest 25 = .ok (.getfield 371, 3) := by decide +kernel
theorem dX12_lookBest_28 : decode cX12_lookBest 28 = .ok (.if_icmp .le 20, 3) := by decide +kernel
theorem dX12_lookBest_31 : decode cX12_lookBest 31 = .ok (.aload_n 0, 1) := by decide +kernel
theorem dX12_lookBest_32 : decode cX12_lookBest 32 = .ok (.iload_n 3, 1) := by decide +kernel
theorem dX12_lookBest_33 : decode cX12_lookBest 33 = .ok (.putfield 371, 3) := by decide +kernel
theorem dX12_lookBest_36 : decode cX12_lookBest 36 = .ok (.aload_n 0, 1) := by decide +kernel
theorem dX12_lookBest_37 : decode cX12_lookBest 37 = .ok (.iconst 2, 1) := by decide +kernel
theorem dX12_lookBest_38 : decode cX12_lookBest 38 = .ok (.aload_n 0, 1) := by decide +kernel
theorem dX12_lookBest_39 : decode cX12_lookBest 39 = .ok (.getfield 259, 3) := by decide +kernel
theorem dX12_lookBest_42 : decode cX12_lookBest 42 = .ok (.imul, 1) := by decide +kernel
theorem dX12_lookBest_43 : decode cX12_lookBest 43 = .ok (.iload_n 2, 1) := by decide +kernel
theorem dX12_lookBest_44 : decode cX12_lookBest 44 = .ok (.iadd, 1) := by decide +kernel
theorem dX12_lookBest_45 : decode cX12_lookBest 45 = .ok (.putfield 374, 3) := by decide +kernel
theorem dX12_lookBest_48 : decode cX12_lookBest 48 = .ok (.iinc 2 1, 3) := by decide +kernel
theorem dX12_lookBest_51 : decode cX12_lookBest 51 = .ok (.goto (-49), 3) := by decide +kernel
theorem dX12_lookBest_54 : decode cX12_lookBest 54 = .ok (.return_, 1) := by decide +kernel
theorem dX12_best_0 : decode cX12_best 0 = .ok (.aload_n 0, 1) := by decide +kernel
theorem dX12_best_1 : decode cX12_best 1 = .ok (.iconst 0, 1) := by decide +kernel
theorem dX12_best_2 : decode cX12_best 2 = .ok (.putfield 86, 3) := by decide +kernel
theorem dX12_best_5 : decode cX12_best 5 = .ok (.aload_n 0, 1) := by decide +kernel
theorem dX12_best_6 : decode cX12_best 6 = .ok (.iload_n 1, 1) := by decide +kernel
theorem dX12_best_7 : decode cX12_best 7 = .ok (.invokevirtual 332, 3) := by decide +kernel
theorem dX12_best_10 : decode cX12_best 10 = .ok (.ifCond .eq 15, 3) := by decide +kernel
theorem dX12_best_13 : decode cX12_best 13 = .ok (.iload_n 2, 1) := by decide +kernel
theorem dX12_best_14 : decode cX12_best 14 = .ok (.i2l, 1) := by decide +kernel
theorem dX12_best_15 : decode cX12_best 15 = .ok (.lconst 0, 1) := by decide +kernel
theorem dX12_best_16 : decode cX12_best 16 = .ok (.ldc2_w 104, 3) := by decide +kernel
theorem dX12_best_19 : decode cX12_best 19 = .ok (.invokestatic 96, 3) := by decide +kernel
theorem dX12_best_22 : decode cX12_best 22 = .ok (.ifCond .ne 7, 3) := by decide +kernel
theorem dX12_best_25 : decode cX12_best 25 = .ok (.ldc2_w 106, 3) := by decide +kernel
theorem dX12_best_28 : decode cX12_best 28 = .ok (.lreturn, 1) := by decide +kernel
theorem dX12_best_29 : decode cX12_best 29 = .ok (.aload_n 0, 1) := by decide +kernel
theorem dX12_best_30 : decode cX12_best 30 = .ok (.invokevirtual 232, 3) := by decide +kernel
theorem dX12_best_33 : decode cX12_best 33 = .ok (.aload_n 0, 1) := by decide +kernel
theorem dX12_best_34 : decode cX12_best 34 = .ok (.ldc 28, 2) := by decide +kernel
theorem dX12_best_36 : decode cX12_best 36 = .ok (.putfield 374, 3) := by decide +kernel
theorem dX12_best_39 : decode cX12_best 39 = .ok (.aload_n 0, 1) := by decide +kernel
theorem dX12_best_40 : decode cX12_best 40 = .ok (.iconst 0, 1) := by decide +kernel
theorem dX12_best_41 : decode cX12_best 41 = .ok (.putfield 371, 3) := by decide +kernel
theorem dX12_best_44 : decode cX12_best 44 = .ok (.aload_n 0, 1) := by decide +kernel
theorem dX12_best_45 : decode cX12_best 45 = .ok (.iload_n 1, 1) := by decide +kernel
theorem dX12_best_46 : decode cX12_best 46 = .ok (.invokevirtual 377, 3) := by decide +kernel
theorem dX12_best_49 : decode cX12_best 49 = .ok (.iconst 0, 1) := by decide +kernel
theorem dX12_best_50 : decode cX12_best 50 = .ok (.istore_n 3, 1) := by decide +kernel
theorem dX12_best_51 : decode cX12_best 51 = .ok (.iload_n 3, 1) := by decide +kernel
theorem dX12_best_52 : decode cX12_best 52 = .ok (.aload_n 0, 1) := by decide +kernel
theorem dX12_best_53 : decode cX12_best 53 = .ok (.getfield 19, 3) := by decide +kernel
theorem dX12_best_56 : decode cX12_best 56 = .ok (.iconst 5, 1) := by decide +kernel
theorem dX12_best_57 : decode cX12_best 57 = .ok (.iaload, 1) := by decide +kernel
theorem dX12_best_58 : decode cX12_best 58 = .ok (.if_icmp .ge 88, 3) := by decide +kernel
theorem dX12_best_61 : decode cX12_best 61 = .ok (.aload_n 0, 1) := by decide +kernel
theorem dX12_best_62 : decode cX12_best 62 = .ok (.iload_n 3, 1) := by decide +kernel
theorem dX12_best_63 : decode cX12_best 63 = .ok (.iconst 0, 1) := by decide +kernel
theorem dX12_best_64 : decode cX12_best 64 = .ok (.invokevirtual 243, 3) := by decide +kernel
theorem dX12_best_67 : decode cX12_best 67 = .ok (.iconst 4, 1) := by decide +kernel
theorem dX12_best_68 : decode cX12_best 68 = .ok (.if_icmp .ge 78, 3) := by decide +kernel
theorem dX12_best_71 : decode cX12_best 71 = .ok (.iconst 0, 1) := by decide +kernel
theorem dX12_best_72 : decode cX12_best 72 = .ok (.istore 4, 2) := by decide +kernel
theorem dX12_best_74 : decode cX12_best 74 = .ok (.iload 4, 2) := by decide +kernel
theorem dX12_best_76 : decode cX12_best 76 = .ok (.aload_n 0, 1) := by decide +kernel
theorem dX12_best_77 : decode cX12_best 77 = .ok (.iload_n 3, 1) := by decide +kernel
theorem dX12_best_78 : decode cX12_best 78 = .ok (.iconst 1, 1) := by decide +kernel
theorem dX12_best_79 : decode cX12_best 79 = .ok (.invokevirtual 243, 3) := by decide +kernel
theorem dX12_best_82 : decode cX12_best 82 = .ok (.if_icmp .ge 58, 3) := by decide +kernel
theorem dX12_best_85 : decode cX12_best 85 = .ok (.aload_n 0, 1) := by decide +kernel
theorem dX12_best_86 : decode cX12_best 86 = .ok (.invokevirtual 286, 3) := by decide +kernel
theorem dX12_best_89 : decode cX12_best 89 = .ok (.ifCond .ne 51, 3) := by decide +kernel
theorem dX12_best_92 : decode cX12_best 92 = .ok (.aload_n 0, 1) := by decide +kernel
theorem dX12_best_93 : decode cX12_best 93 = .ok (.aload_n 0, 1) := by decide +kernel
theorem dX12_best_94 : decode cX12_best 94 = .ok (.iload_n 3, 1) := by decide +kernel
theorem dX12_best_95 : decode cX12_best 95 = .ok (.iconst 0, 1) := by decide +kernel
theorem dX12_best_96 : decode cX12_best 96 = .ok (.invokevirtual 243, 3) := by decide +kernel
theorem dX12_best_99 : decode cX12_best 99 = .ok (.iconst 3, 1) := by decide +kernel
theorem dX12_best_100 : decode cX12_best 100 = .ok (.if_icmp .ne 7, 3) := by decide +kernel
theorem dX12_best_103 : decode cX12_best 103 = .ok (.iconst 1, 1) := by decide +kernel
theorem dX12_best_104 : decode cX12_best 104 = .ok (.goto 4, 3) := by decide +kernel
theorem dX12_best_107 : decode cX12_best 107 = .ok (.iconst 0, 1) := by decide +kernel
theorem dX12_best_108 : decode cX12_best 108 = .ok (.aload_n 0, 1) := by decide +kernel
theorem dX12_best_109 : decode cX12_best 109 = .ok (.iload_n 3, 1) := by decide +kernel
theorem dX12_best_110 : decode cX12_best 110 = .ok (.iconst 2, 1) := by decide +kernel
theorem dX12_best_111 : decode cX12_best 111 = .ok (.invokevirtual 243, 3) := by decide +kernel
theorem dX12_best_114 : decode cX12_best 114 = .ok (.aload_n 0, 1) := by decide +kernel
theorem dX12_best_115 : decode cX12_best 115 = .ok (.iload_n 3, 1) := by decide +kernel
theorem dX12_best_116 : decode cX12_best 116 = .ok (.iconst 3, 1) := by decide +kernel
theorem dX12_best_117 : decode cX12_best 117 = .ok (.invokevirtual 243, 3) := by decide +kernel
theorem dX12_best_120 : decode cX12_best 120 = .ok (.aload_n 0, 1) := by decide +kernel
theorem dX12_best_121 : decode cX12_best 121 = .ok (.iload_n 3, 1) := by decide +kernel
theorem dX12_best_122 : decode cX12_best 122 = .ok (.iconst 4, 1) := by decide +kernel
theorem dX12_best_123 : decode cX12_best 123 = .ok (.invokevirtual 243, 3) := by decide +kernel
theorem dX12_best_126 : decode cX12_best 126 = .ok (.invokevirtual 328, 3) := by decide +kernel
theorem dX12_best_129 : decode cX12_best 129 = .ok (.aload_n 0, 1) := by decide +kernel
theorem dX12_best_130 : decode cX12_best 130 = .ok (.iload_n 1, 1) := by decide +kernel
theorem dX12_best_131 : decode cX12_best 131 = .ok (.invokevirtual 377, 3) := by decide +kernel
theorem dX12_best_134 : decode cX12_best 134 = .ok (.iinc 4 1, 3) := by decide +kernel
theorem dX12_best_137 : decode cX12_best 137 = .ok (.goto (-63), 3) := by decide +kernel
theorem dX12_best_140 : decode cX12_best 140 = .ok (.iinc 3 1, 3) := by decide +kernel
theorem dX12_best_143 : decode cX12_best 143 = .ok (.goto (-92), 3) := by decide +kernel
theorem dX12_best_146 : decode cX12_best 146 = .ok (.iload_n 2, 1) := by decide +kernel
theorem dX12_best_147 : decode cX12_best 147 = .ok (.ifCond .ne 11, 3) := by decide +kernel
theorem dX12_best_150 : decode cX12_best 150 = .ok (.aload_n 0, 1) := by decide +kernel
theorem dX12_best_151 : decode cX12_best 151 = .ok (.getfield 374, 3) := by decide +kernel
theorem dX12_best_154 : decode cX12_best 154 = .ok (.i2l, 1) := by decide +kernel
theorem dX12_best_155 : decode cX12_best 155 = .ok (.goto 19, 3) := by decide +kernel
theorem dX12_best_158 : decode cX12_best 158 = .ok (.aload_n 0, 1) := by decide +kernel
theorem dX12_best_159 : decode cX12_best 159 = .ok (.getfield 371, 3) := by decide +kernel
theorem dX12_best_162 : decode cX12_best 162 = .ok (.i2l, 1) := by decide +kernel
theorem dX12_best_163 : decode cX12_best 163 = .ok (.aload_n 0, 1) := by decide +kernel
theorem dX12_best_164 : decode cX12_best 164 = .ok (.invokevirtual 314, 3) := by decide +kernel
theorem dX12_best_167 : decode cX12_best 167 = .ok (.i2l, 1) := by decide +kernel
theorem dX12_best_168 : decode cX12_best 168 = .ok (.iload_n 2, 1) := by decide +kernel
theorem dX12_best_169 : decode cX12_best 169 = .ok (.iconst 1, 1) := by decide +kernel
theorem dX12_best_170 : decode cX12_best 170 = .ok (.isub, 1) := by decide +kernel
theorem dX12_best_171 : decode cX12_best 171 = .ok (.invokestatic 340, 3) := by decide +kernel
theorem dX12_best_174 : decode cX12_best 174 = .ok (.lreturn, 1) := by decide +kernel
theorem dX12_layPath_0 : decode cX12_layPath 0 = .ok (.aload_n 0, 1) := by decide +kernel
theorem dX12_layPath_1 : decode cX12_layPath 1 = .ok (.aload_n 0, 1) := by decide +kernel
theorem dX12_layPath_2 : decode cX12_layPath 2 = .ok (.getfield 36, 3) := by decide +kernel
theorem dX12_layPath_5 : decode cX12_layPath 5 = .ok (.bipush 7, 2) := by decide +kernel
theorem dX12_layPath_7 : decode cX12_layPath 7 = .ok (.iload_n 1, 1) := by decide +kernel
theorem dX12_layPath_8 : decode cX12_layPath 8 = .ok (.imul, 1) := by decide +kernel
theorem dX12_layPath_9 : decode cX12_layPath 9 = .ok (.iaload, 1) := by decide +kernel
theorem dX12_layPath_10 : decode cX12_layPath 10 = .ok (.putfield 247, 3) := by decide +kernel
theorem dX12_layPath_13 : decode cX12_layPath 13 = .ok (.aload_n 0, 1) := by decide +kernel
theorem dX12_layPath_14 : decode cX12_layPath 14 = .ok (.aload_n 0, 1) := by decide +kernel
theorem dX12_layPath_15 : decode cX12_layPath 15 = .ok (.getfield 36, 3) := by decide +kernel
theorem dX12_layPath_18 : decode cX12_layPath 18 = .ok (.bipush 7, 2) := by decide +kernel
theorem dX12_layPath_20 : decode cX12_layPath 20 = .ok (.iload_n 1, 1) := by decide +kernel
theorem dX12_layPath_21 : decode cX12_layPath 21 = .ok (.imul, 1) := by decide +kernel
theorem dX12_layPath_22 : decode cX12_layPath 22 = .ok (.iconst 1, 1) := by decide +kernel
theorem dX12_layPath_23 : decode cX12_layPath 23 = .ok (.iadd, 1) := by decide +kernel
theorem dX12_layPath_24 : decode cX12_layPath 24 = .ok (.iaload, 1) := by decide +kernel
theorem dX12_layPath_25 : decode cX12_layPath 25 = .ok (.putfield 250, 3) := by decide +kernel
theorem dX12_layPath_28 : decode cX12_layPath 28 = .ok (.aload_n 0, 1) := by decide +kernel
theorem dX12_layPath_29 : decode cX12_layPath 29 = .ok (.aload_n 0, 1) := by decide +kernel
theorem dX12_layPath_30 : decode cX12_layPath 30 = .ok (.getfield 36, 3) := by decide +kernel
theorem dX12_layPath_33 : decode cX12_layPath 33 = .ok (.bipush 7, 2) := by decide +kernel
theorem dX12_layPath_35 : decode cX12_layPath 35 = .ok (.iload_n 1, 1) := by decide +kernel
theorem dX12_layPath_36 : decode cX12_layPath 36 = .ok (.imul, 1) := by decide +kernel
theorem dX12_layPath_37 : decode cX12_layPath 37 = .ok (.iconst 2, 1) := by decide +kernel
theorem dX12_layPath_38 : decode cX12_layPath 38 = .ok (.iadd, 1) := by decide +kernel
theorem dX12_layPath_39 : decode cX12_layPath 39 = .ok (.iaload, 1) := by decide +kernel
theorem dX12_layPath_40 : decode cX12_layPath 40 = .ok (.putfield 253, 3) := by decide +kernel
theorem dX12_layPath_43 : decode cX12_layPath 43 = .ok (.aload_n 0, 1) := by decide +kernel
theorem dX12_layPath_44 : decode cX12_layPath 44 = .ok (.aload_n 0, 1) := by decide +kernel
theorem dX12_layPath_45 : decode cX12_layPath 45 = .ok (.getfield 36, 3) := by decide +kernel
theorem dX12_layPath_48 : decode cX12_layPath 48 = .ok (.bipush 7, 2) := by decide +kernel
theorem dX12_layPath_50 : decode cX12_layPath 50 = .ok (.iload_n 1, 1) := by decide +kernel
theorem dX12_layPath_51 : decode cX12_layPath 51 = .ok (.imul, 1) := by decide +kernel
theorem dX12_layPath_52 : decode cX12_layPath 52 = .ok (.iconst 3, 1) := by decide +kernel
theorem dX12_layPath_53 : decode cX12_layPath 53 = .ok (.iadd, 1) := by decide +kernel
theorem dX12_layPath_54 : decode cX12_layPath 54 = .ok (.iaload, 1) := by decide +kernel
theorem dX12_layPath_55 : decode cX12_layPath 55 = .ok (.putfield 256, 3) := by decide +kernel
theorem dX12_layPath_58 : decode cX12_layPath 58 = .ok (.aload_n 0, 1) := by decide +kernel
theorem dX12_layPath_59 : decode cX12_layPath 59 = .ok (.aload_n 0, 1) := by decide +kernel
theorem dX12_layPath_60 : decode cX12_layPath 60 = .ok (.getfield 36, 3) := by decide +kernel
theorem dX12_layPath_63 : decode cX12_layPath 63 = .ok (.bipush 7, 2) := by decide +kernel
theorem dX12_layPath_65 : decode cX12_layPath 65 = .ok (.iload_n 1, 1) := by decide +kernel
theorem dX12_layPath_66 : decode cX12_layPath 66 = .ok (.imul, 1) := by decide +kernel
theorem dX12_layPath_67 : decode cX12_layPath 67 = .ok (.iconst 4, 1) := by decide +kernel
theorem dX12_layPath_68 : decode cX12_layPath 68 = .ok (.iadd, 1) := by decide +kernel
theorem dX12_layPath_69 : decode cX12_layPath 69 = .ok (.iaload, 1) := by decide +kernel
theorem dX12_layPath_70 : decode cX12_layPath 70 = .ok (.putfield 259, 3) := by decide +kernel
theorem dX12_layPath_73 : decode cX12_layPath 73 = .ok (.aload_n 0, 1) := by decide +kernel
theorem dX12_layPath_74 : decode cX12_layPath 74 = .ok (.aload_n 0, 1) := by decide +kernel
theorem dX12_layPath_75 : decode cX12_layPath 75 = .ok (.getfield 36, 3) := by decide +kernel
theorem dX12_layPath_78 : decode cX12_layPath 78 = .ok (.bipush 7, 2) := by decide +kernel
theorem dX12_layPath_80 : decode cX12_layPath 80 = .ok (.iload_n 1, 1) := by decide +kernel
theorem dX12_layPath_81 : decode cX12_layPath 81 = .ok (.imul, 1) := by decide +kernel
theorem dX12_layPath_82 : decode cX12_layPath 82 = .ok (.iconst 5, 1) := by decide +kernel
theorem dX12_layPath_83 : decode cX12_layPath 83 = .ok (.iadd, 1) := by decide +kernel
theorem dX12_layPath_84 : decode cX12_layPath 84 = .ok (.iaload, 1) := by decide +kernel
theorem dX12_layPath_85 : decode cX12_layPath 85 = .ok (.iconst 1, 1) := by decide +kernel
theorem dX12_layPath_86 : decode cX12_layPath 86 = .ok (.if_icmp .ne 7, 3) := by decide +kernel
theorem dX12_layPath_89 : decode cX12_layPath 89 = .ok (.iconst 1, 1) := by decide +kernel
theorem dX12_layPath_90 : decode cX12_layPath 90 = .ok (.goto 4, 3) := by decide +kernel
theorem dX12_layPath_93 : decode cX12_layPath 93 = .ok (.iconst 0, 1) := by decide +kernel
theorem dX12_layPath_94 : decode cX12_layPath 94 = .ok (.putfield 262, 3) := by decide +kernel
theorem dX12_layPath_97 : decode cX12_layPath 97 = .ok (.aload_n 0, 1) := by decide +kernel
theorem dX12_layPath_98 : decode cX12_layPath 98 = .ok (.aload_n 0, 1) := by decide +kernel
theorem dX12_layPath_99 : decode cX12_layPath 99 = .ok (.getfield 36, 3) := by decide +kernel
theorem dX12_layPath_102 : decode cX12_layPath 102 = .ok (.bipush 7, 2) := by decide +kernel
theorem dX12_layPath_104 : decode cX12_layPath 104 = .ok (.iload_n 1, 1) := by decide +kernel
theorem dX12_layPath_105 : decode cX12_layPath 105 = .ok (.imul, 1) := by decide +kernel
theorem dX12_layPath_106 : decode cX12_layPath 106 = .ok (.bipush 6, 2) := by decide +kernel
theorem dX12_layPath_108 : decode cX12_layPath 108 = .ok (.iadd, 1) := by decide +kernel
theorem dX12_layPath_109 : decode cX12_layPath 109 = .ok (.iaload, 1) := by decide +kernel
theorem dX12_layPath_110 : decode cX12_layPath 110 = .ok (.putfield 265, 3) := by decide +kernel
theorem dX12_layPath_113 : decode cX12_layPath 113 = .ok (.return_, 1) := by decide +kernel
theorem dX12_keepPath_0 : decode cX12_keepPath 0 = .ok (.iconst 0, 1) := by decide +kernel
theorem dX12_keepPath_1 : decode cX12_keepPath 1 = .ok (.istore_n 2, 1) := by decide +kernel
theorem dX12_keepPath_2 : decode cX12_keepPath 2 = .ok (.iload_n 2, 1) := by decide +kernel
theorem dX12_keepPath_3 : decode cX12_keepPath 3 = .ok (.bipush 7, 2) := by decide +kernel
theorem dX12_keepPath_5 : decode cX12_keepPath 5 = .ok (.if_icmp .ge 25, 3) := by decide +kernel
theorem dX12_keepPath_8 : decode cX12_keepPath 8 = .ok (.aload_n 0, 1) := by decide +kernel
theorem dX12_keepPath_9 : decode cX12_keepPath 9 = .ok (.getfield 36, 3) := by decide +kernel
theorem dX12_keepPath_12 : decode cX12_keepPath 12 = .ok (.bipush 7, 2) := by decide +kernel
theorem dX12_keepPath_14 : decode cX12_keepPath 14 = .ok (.iload_n 1, 1) := by decide +kernel
theorem dX12_keepPath_15 : decode cX12_keepPath 15 = .ok (.imul, 1) := by decide +kernel
theorem dX12_keepPath_16 : decode cX12_keepPath 16 = .ok (.iload_n 2, 1) := by decide +kernel
theorem dX12_keepPath_17 : decode cX12_keepPath 17 = .ok (.iadd, 1) := by decide +kernel
theorem dX12_keepPath_18 : decode cX12_keepPath 18 = .ok (.aload_n 0, 1) := by decide +kernel
theorem dX12_keepPath_19 : decode cX12_keepPath 19 = .ok (.iload_n 2, 1) := by decide +kernel
theorem dX12_keepPath_20 : decode cX12_keepPath 20 = .ok (.invokevirtual 268, 3) := by decide +kernel
theorem dX12_keepPath_23 : decode cX12_keepPath 23 = .ok (.iastore, 1) := by decide +kernel
theorem dX12_keepPath_24 : decode cX12_keepPath 24 = .ok (.iinc 2 1, 3) := by decide +kernel
